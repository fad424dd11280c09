def tb_X5_heldBits (p : Nat) : Option sl_E := bif Nat.ble 49 p then none else (bif Nat.ble 22 p then (bif Nat.ble 36 p then (bif Nat.ble 40 p then (bif Nat.ble 44 p then (bif Nat.ble 47 p then (bif Nat.ble 48 p then (bif Nat.beq p 48 then some (47, 0, 1, 1, []) else none) else (bif Nat.beq p 47 then some (0, 0, 2, 1, []) else none)) else (bif Nat.beq p 44 then some (34, 0, 4, 3, []) else none)) else (bif Nat.ble 41 p then (bif Nat.beq p 41 then some (5, 1, 3, 3, []) else none) else (bif Nat.beq p 40 then some (3, 0, 2, 1, []) else none))) else (bif Nat.ble 38 p then (bif Nat.ble 39 p then (bif Nat.beq p 39 then some (12, 0, 0, 1, []) else none) else (bif Nat.beq p 38 then some (14, 0, 0, 1, []) else none)) else (bif Nat.ble 37 p then (bif Nat.beq p 37 then some (0, 0, 3, 1, []) else none) else (bif Nat.beq p 36 then some (2, 1, 0, 1, []) else none)))) else (bif Nat.ble 30 p then (bif Nat.ble 32 p then (bif Nat.ble 35 p then (bif Nat.beq p 35 then some (0, 0, 2, 1, []) else none) else (bif Nat.beq p 32 then some (33, 0, 41, 3, []) else none)) else (bif Nat.ble 31 p then (bif Nat.beq p 31 then some (37, 0, 0, 1, []) else none) else (bif Nat.beq p 30 then some (11, 0, 0, 1, []) else none))) else (bif Nat.ble 26 p then (bif Nat.ble 28 p then (bif Nat.beq p 28 then some (2, 63, 0, 2, []) else none) else (bif Nat.beq p 26 then some (0, 0, 4, 2, []) else none)) else (bif Nat.ble 23 p then (bif Nat.beq p 23 then some (35, 0, 20, 3, []) else none) else (bif Nat.beq p 22 then some (1, 0, 0, 1, []) else none))))) else (bif Nat.ble 11 p then (bif Nat.ble 17 p then (bif Nat.ble 19 p then (bif Nat.ble 20 p then (bif Nat.beq p 20 then some (3, 0, 4, 2, []) else none) else (bif Nat.beq p 19 then some (6, 0, 0, 1, []) else none)) else (bif Nat.ble 18 p then (bif Nat.beq p 18 then some (0, 0, 3, 1, []) else none) else (bif Nat.beq p 17 then some (6, 0, 0, 1, []) else none))) else (bif Nat.ble 15 p then (bif Nat.ble 16 p then (bif Nat.beq p 16 then some (0, 0, 1, 1, []) else none) else (bif Nat.beq p 15 then some (6, 0, 0, 1, []) else none)) else (bif Nat.ble 14 p then (bif Nat.beq p 14 then some (2, 1, 0, 1, []) else none) else (bif Nat.beq p 11 then some (35, 0, 46, 3, []) else none)))) else (bif Nat.ble 4 p then (bif Nat.ble 7 p then (bif Nat.ble 10 p then (bif Nat.beq p 10 then some (1, 0, 0, 1, []) else none) else (bif Nat.beq p 7 then some (25, 0, 47, 3, []) else none)) else (bif Nat.ble 5 p then (bif Nat.beq p 5 then some (2, 8, 0, 2, []) else none) else (bif Nat.beq p 4 then some (0, 0, 3, 1, []) else none))) else (bif Nat.ble 2 p then (bif Nat.ble 3 p then (bif Nat.beq p 3 then some (3, 0, 3, 1, []) else none) else (bif Nat.beq p 2 then some (2, 0, 0, 1, []) else none)) else (bif Nat.ble 1 p then (bif Nat.beq p 1 then some (3, 0, 2, 1, []) else none) else (bif Nat.beq p 0 then some (2, 0, 0, 1, []) else none))))))
def ca_X5_heldBits (y : Nat) (as : List sl_V) (m : sl_M) : Option (sl_PL × sl_M) := none
def sp_X5_heldBits (p : Nat) : Bool := Nat.beq p 4
def mk_X5_heldBits (p : Nat) : List Bool := bif Nat.beq p 4 then [true, true, true, true, false] else []
def cl_X5_heldBits (p : Nat) : Option sl_C := none
def R_X5_heldBits (ca : Nat → List sl_V → sl_M → Option (sl_PL × sl_M)) : Nat → sl_S → sl_M → Option (sl_PL × sl_M) := sl_B tb_X5_heldBits fl_X5 pf_X5 cl_X5_heldBits nw_X5 sl_rd sl_wr sl_al sl_ln 0 (fun _ => 0) ca sp_X5_heldBits mk_X5_heldBits
def F_X5_heldBits (as : List sl_V) (m : sl_M) : Option (sl_PL × sl_M) := R_X5_heldBits ca_X5_heldBits 100000 (0, sl_lo 5 as, []) m
def f_X5_heldBits (this : Nat) (a0 : Int32) (m : sl_M) : Option (sl_PL × sl_M) := F_X5_heldBits [.inr (.inl (some (5, this))), .inl a0] m
def r_X5_heldBits_0 (ca : Nat → List sl_V → sl_M → Option (sl_PL × sl_M)) (n : Nat) (this : Nat) (a0 : Int32) (m : sl_M) : Option (sl_PL × sl_M) := R_X5_heldBits ca n (0, sl_lo 5 [.inr (.inl (some (5, this))), .inl a0], []) m
def r_X5_heldBits_4 (ca : Nat → List sl_V → sl_M → Option (sl_PL × sl_M)) (n : Nat) (v0 : Nat) (v1 : Int32) (v2 : Int32) (v3 : Int32) (m : sl_M) : Option (sl_PL × sl_M) := R_X5_heldBits ca n (4, [some (.inr (.inl (some (5, v0)))), some (.inl v1), some (.inl v2), some (.inl v3), none], []) m
def b_X5_heldBits_4 (n : Nat) (v0 : Nat) (v1 : Int32) (v2 : Int32) (v3 : Int32) (m : sl_M) : Option (sl_PL × sl_M) := r_X5_heldBits_4 ca_X5_heldBits n v0 v1 v2 v3 m
set_option maxRecDepth 100000 in
theorem g_X5_heldBits_0 (ca : Nat → List sl_V → sl_M → Option (sl_PL × sl_M)) (n : Nat) (this : Nat) (a0 : Int32) (m : sl_M) : r_X5_heldBits_0 ca (n + 1) this a0 m =
  r_X5_heldBits_4 ca n this a0 (0 : Int32) (0 : Int32) m := by rfl
set_option maxRecDepth 100000 in
theorem g_X5_heldBits_4 (ca : Nat → List sl_V → sl_M → Option (sl_PL × sl_M)) (n : Nat) (v0 : Nat) (v1 : Int32) (v2 : Int32) (v3 : Int32) (m : sl_M) : r_X5_heldBits_4 ca (n + 1) v0 v1 v2 v3 m =
  if (8 : Int32) ≤ v3 then
    some ((v2, 0, 0), m)
  else
    if 0 ≤ (((((m.1 5 v0 4) + (1 : Int32)) + v1) + v3) &&& (63 : Int32)) ∧ (((((m.1 5 v0 4) + (1 : Int32)) + v1) + v3) &&& (63 : Int32)).toNatClampNeg < sl_l7 v0 then
    if (m.1 27 v0 ((((((m.1 5 v0 4) + (1 : Int32)) + v1) + v3) &&& (63 : Int32)).toNatClampNeg)) ≤ 0 then
      r_X5_heldBits_4 ca n v0 v1 v2 (v3 + (1 : Int32)) m
    else
      r_X5_heldBits_4 ca n v0 v1 (v2 ||| ((1 : Int32) <<< (v3 &&& 31))) (v3 + (1 : Int32)) m
    else none := by rfl
theorem bq_X5_heldBits_4 (n : Nat) (v0 : Nat) (v1 : Int32) (v2 : Int32) (v3 : Int32) (m : sl_M) : r_X5_heldBits_4 ca_X5_heldBits n v0 v1 v2 v3 m = b_X5_heldBits_4 n v0 v1 v2 v3 m := rfl
theorem e_X5_heldBits (this : Nat) (a0 : Int32) (m : sl_M) : f_X5_heldBits this a0 m =
  b_X5_heldBits_4 99999 this a0 (0 : Int32) (0 : Int32) m := by
  have h := g_X5_heldBits_0 ca_X5_heldBits 99999 this a0 m
  simp only [bq_X5_heldBits_4] at h
  exact h
theorem e_X5_heldBits_4 (n : Nat) (v0 : Nat) (v1 : Int32) (v2 : Int32) (v3 : Int32) (m : sl_M) : b_X5_heldBits_4 (n + 1) v0 v1 v2 v3 m =
  if (8 : Int32) ≤ v3 then
    some ((v2, 0, 0), m)
  else
    if 0 ≤ (((((m.1 5 v0 4) + (1 : Int32)) + v1) + v3) &&& (63 : Int32)) ∧ (((((m.1 5 v0 4) + (1 : Int32)) + v1) + v3) &&& (63 : Int32)).toNatClampNeg < sl_l7 v0 then
    if (m.1 27 v0 ((((((m.1 5 v0 4) + (1 : Int32)) + v1) + v3) &&& (63 : Int32)).toNatClampNeg)) ≤ 0 then
      b_X5_heldBits_4 n v0 v1 v2 (v3 + (1 : Int32)) m
    else
      b_X5_heldBits_4 n v0 v1 (v2 ||| ((1 : Int32) <<< (v3 &&& 31))) (v3 + (1 : Int32)) m
    else none := by
  have h := g_X5_heldBits_4 ca_X5_heldBits n v0 v1 v2 v3 m
  simp only [bq_X5_heldBits_4] at h
  exact h

def tb_X5_layKnown (p : Nat) : Option sl_E := bif Nat.ble 63 p then none else (bif Nat.ble 31 p then (bif Nat.ble 44 p then (bif Nat.ble 54 p then (bif Nat.ble 58 p then (bif Nat.ble 59 p then (bif Nat.ble 62 p then (bif Nat.beq p 62 then some (50, 0, 0, 1, []) else none) else (bif Nat.beq p 59 then some (46, 0, 110, 3, []) else none)) else (bif Nat.beq p 58 then some (2, 0, 0, 1, []) else none)) else (bif Nat.ble 55 p then (bif Nat.beq p 55 then some (35, 0, 35, 3, []) else none) else (bif Nat.beq p 54 then some (1, 0, 0, 1, []) else none))) else (bif Nat.ble 48 p then (bif Nat.ble 51 p then (bif Nat.beq p 51 then some (34, 0, 30, 3, []) else none) else (bif Nat.beq p 48 then some (5, 1, 3, 3, []) else none)) else (bif Nat.ble 47 p then (bif Nat.beq p 47 then some (21, 0, 0, 1, []) else none) else (bif Nat.beq p 44 then some (46, 0, 108, 3, []) else none)))) else (bif Nat.ble 37 p then (bif Nat.ble 40 p then (bif Nat.ble 41 p then (bif Nat.beq p 41 then some (46, 0, 105, 3, []) else none) else (bif Nat.beq p 40 then some (8, 0, 0, 1, []) else none)) else (bif Nat.ble 39 p then (bif Nat.beq p 39 then some (0, 0, 3, 1, []) else none) else (bif Nat.beq p 37 then some (2, 8, 0, 2, []) else none))) else (bif Nat.ble 35 p then (bif Nat.ble 36 p then (bif Nat.beq p 36 then some (1, 0, 0, 1, []) else none) else (bif Nat.beq p 35 then some (1, 0, 1, 1, []) else none)) else (bif Nat.ble 32 p then (bif Nat.beq p 32 then some (25, 0, 54, 3, []) else none) else (bif Nat.beq p 31 then some (0, 0, 2, 1, []) else none))))) else (bif Nat.ble 16 p then (bif Nat.ble 24 p then (bif Nat.ble 28 p then (bif Nat.ble 29 p then (bif Nat.ble 30 p then (bif Nat.beq p 30 then some (0, 0, 3, 1, []) else none) else (bif Nat.beq p 29 then some (3, 0, 3, 1, []) else none)) else (bif Nat.beq p 28 then some (2, 0, 0, 1, []) else none)) else (bif Nat.ble 27 p then (bif Nat.beq p 27 then some (3, 0, 2, 1, []) else none) else (bif Nat.beq p 24 then some (46, 0, 101, 3, []) else none))) else (bif Nat.ble 20 p then (bif Nat.ble 21 p then (bif Nat.beq p 21 then some (35, 0, 27, 3, []) else none) else (bif Nat.beq p 20 then some (1, 0, 0, 1, []) else none)) else (bif Nat.ble 19 p then (bif Nat.beq p 19 then some (4, 0, 1, 1, []) else none) else (bif Nat.beq p 16 then some (46, 0, 95, 3, []) else none)))) else (bif Nat.ble 6 p then (bif Nat.ble 10 p then (bif Nat.ble 13 p then (bif Nat.beq p 13 then some (46, 0, 55, 3, []) else none) else (bif Nat.beq p 10 then some (35, 0, 46, 3, []) else none)) else (bif Nat.ble 9 p then (bif Nat.beq p 9 then some (1, 0, 0, 1, []) else none) else (bif Nat.beq p 6 then some (35, 0, 27, 3, []) else none))) else (bif Nat.ble 4 p then (bif Nat.ble 5 p then (bif Nat.beq p 5 then some (1, 0, 0, 1, []) else none) else (bif Nat.beq p 4 then some (2, 1, 0, 1, []) else none)) else (bif Nat.ble 1 p then (bif Nat.beq p 1 then some (35, 0, 35, 3, []) else none) else (bif Nat.beq p 0 then some (1, 0, 0, 1, []) else none))))))
def ca_X5_layKnown (y : Nat) (as : List sl_V) (m : sl_M) : Option (sl_PL × sl_M) := bif Nat.ble 37 y then (bif Nat.ble 55 y then (bif Nat.ble 56 y then (bif Nat.beq y 56 then F_X8_knownLoad as m else none) else (bif Nat.beq y 55 then F_X8_inRing as m else none)) else (bif Nat.beq y 37 then F_X6_add as m else none)) else (bif Nat.ble 23 y then (bif Nat.ble 30 y then (bif Nat.beq y 30 then F_X5_heldBits as m else none) else (bif Nat.beq y 23 then F_X4_lay as m else none)) else (bif Nat.beq y 22 then F_X4_startBody as m else none))
def sp_X5_layKnown (p : Nat) : Bool := Nat.beq p 30
def mk_X5_layKnown (p : Nat) : List Bool := bif Nat.beq p 30 then [true, true, true, true] else []
def cl_X5_layKnown (p : Nat) : Option sl_C := bif Nat.ble 111 p then none else (bif Nat.ble 105 p then (bif Nat.ble 108 p then (bif Nat.ble 110 p then (bif Nat.beq p 110 then some (23, 2, 0, 0, 0, 5) else none) else (bif Nat.beq p 108 then some (37, 2, 1, 0, 0, 7) else none)) else (bif Nat.beq p 105 then some (30, 2, 1, 0, 0, 6) else none)) else (bif Nat.ble 95 p then (bif Nat.ble 101 p then (bif Nat.beq p 101 then some (56, 1, 1, 0, 0, 9) else none) else (bif Nat.beq p 95 then some (22, 3, 2, 6, 0, 5) else none)) else (bif Nat.beq p 55 then some (55, 2, 1, 0, 0, 9) else none)))
def R_X5_layKnown (ca : Nat → List sl_V → sl_M → Option (sl_PL × sl_M)) : Nat → sl_S → sl_M → Option (sl_PL × sl_M) := sl_B tb_X5_layKnown fl_X5 pf_X5 cl_X5_layKnown nw_X5 sl_rd sl_wr sl_al sl_ln 0 (fun _ => 0) ca sp_X5_layKnown mk_X5_layKnown
def F_X5_layKnown (as : List sl_V) (m : sl_M) : Option (sl_PL × sl_M) := R_X5_layKnown ca_X5_layKnown 100000 (0, sl_lo 4 as, []) m
def f_X5_layKnown (this : Nat) (m : sl_M) : Option (sl_PL × sl_M) := F_X5_layKnown [.inr (.inl (some (5, this)))] m
def r_X5_layKnown_0 (ca : Nat → List sl_V → sl_M → Option (sl_PL × sl_M)) (n : Nat) (this : Nat) (m : sl_M) : Option (sl_PL × sl_M) := R_X5_layKnown ca n (0, sl_lo 4 [.inr (.inl (some (5, this)))], []) m
def r_X5_layKnown_30 (ca : Nat → List sl_V → sl_M → Option (sl_PL × sl_M)) (n : Nat) (v0 : Nat) (v1 : Nat) (v2 : Int32) (v3 : Int32) (m : sl_M) : Option (sl_PL × sl_M) := R_X5_layKnown ca n (30, [some (.inr (.inl (some (5, v0)))), some (.inr (.inl (some (6, v1)))), some (.inl v2), some (.inl v3)], []) m
def b_X5_layKnown_30 (n : Nat) (v0 : Nat) (v1 : Nat) (v2 : Int32) (v3 : Int32) (m : sl_M) : Option (sl_PL × sl_M) := r_X5_layKnown_30 ca_X5_layKnown n v0 v1 v2 v3 m
set_option maxRecDepth 100000 in
theorem g_X5_layKnown_0 (ca : Nat → List sl_V → sl_M → Option (sl_PL × sl_M)) (n : Nat) (this : Nat) (m : sl_M) : r_X5_layKnown_0 ca (n + 1) this m =
  (ca 55 [.inr (.inl (some (8, 0))), .inl (m.1 5 this 4)] m).bind (fun q1 =>
  (ca 22 [.inr (.inl (some (4, this))), .inl (1 : Int32), .inl q1.1.1] q1.2).bind (fun q2 =>
  (ca 56 [.inr (.inl (some (8, 0)))] q2.2).bind (fun q3 =>
  r_X5_layKnown_30 ca n this q2.1.2.1 q3.1.1 (0 : Int32) q3.2))) := by rfl
set_option maxRecDepth 100000 in
theorem g_X5_layKnown_30 (ca : Nat → List sl_V → sl_M → Option (sl_PL × sl_M)) (n : Nat) (v0 : Nat) (v1 : Nat) (v2 : Int32) (v3 : Int32) (m : sl_M) : r_X5_layKnown_30 ca (n + 1) v0 v1 v2 v3 m =
  if v2 ≤ v3 then
    (ca 23 [.inr (.inl (some (4, v0))), .inl (0 : Int32)] m).bind (fun q1 =>
    some ((0, 0, 0), q1.2))
  else
    (ca 30 [.inr (.inl (some (5, v0))), .inl ((8 : Int32) * v3)] m).bind (fun q2 =>
    (ca 37 [.inr (.inl (some (6, v1))), .inl q2.1.1] q2.2).bind (fun q3 =>
    r_X5_layKnown_30 ca n v0 v1 v2 (v3 + (1 : Int32)) q3.2)) := by rfl
theorem cq_X5_layKnown_X4_startBody (this : Nat) (a0 : Int32) (a1 : Int32) (m : sl_M) : ca_X5_layKnown 22 [.inr (.inl (some (4, this))), .inl a0, .inl a1] m = f_X4_startBody this a0 a1 m := by
  unfold ca_X5_layKnown f_X4_startBody
  rw [show Nat.ble 37 22 = false from rfl, cond_false, show Nat.ble 23 22 = false from rfl, cond_false, show Nat.beq 22 22 = true from rfl, cond_true]
theorem cq_X5_layKnown_X4_lay (this : Nat) (a0 : Int32) (m : sl_M) : ca_X5_layKnown 23 [.inr (.inl (some (4, this))), .inl a0] m = f_X4_lay this a0 m := by
  unfold ca_X5_layKnown f_X4_lay
  rw [show Nat.ble 37 23 = false from rfl, cond_false, show Nat.ble 23 23 = true from rfl, cond_true, show Nat.ble 30 23 = false from rfl, cond_false, show Nat.beq 23 23 = true from rfl, cond_true]
theorem cq_X5_layKnown_X5_heldBits (this : Nat) (a0 : Int32) (m : sl_M) : ca_X5_layKnown 30 [.inr (.inl (some (5, this))), .inl a0] m = f_X5_heldBits this a0 m := by
  unfold ca_X5_layKnown f_X5_heldBits
  rw [show Nat.ble 37 30 = false from rfl, cond_false, show Nat.ble 23 30 = true from rfl, cond_true, show Nat.ble 30 30 = true from rfl, cond_true, show Nat.beq 30 30 = true from rfl, cond_true]
theorem cq_X5_layKnown_X6_add (this : Nat) (a0 : Int32) (m : sl_M) : ca_X5_layKnown 37 [.inr (.inl (some (6, this))), .inl a0] m = f_X6_add this a0 m := by
  unfold ca_X5_layKnown f_X6_add
  rw [show Nat.ble 37 37 = true from rfl, cond_true, show Nat.ble 55 37 = false from rfl, cond_false, show Nat.beq 37 37 = true from rfl, cond_true]
theorem cq_X5_layKnown_X8_inRing (a0 : Int32) (m : sl_M) : ca_X5_layKnown 55 [.inr (.inl (some (8, 0))), .inl a0] m = f_X8_inRing a0 m := by
  unfold ca_X5_layKnown f_X8_inRing
  rw [show Nat.ble 37 55 = true from rfl, cond_true, show Nat.ble 55 55 = true from rfl, cond_true, show Nat.ble 56 55 = false from rfl, cond_false, show Nat.beq 55 55 = true from rfl, cond_true]
theorem cq_X5_layKnown_X8_knownLoad  (m : sl_M) : ca_X5_layKnown 56 [.inr (.inl (some (8, 0)))] m = f_X8_knownLoad m := by
  unfold ca_X5_layKnown f_X8_knownLoad
  rw [show Nat.ble 37 56 = true from rfl, cond_true, show Nat.ble 55 56 = true from rfl, cond_true, show Nat.ble 56 56 = true from rfl, cond_true, show Nat.beq 56 56 = true from rfl, cond_true]
theorem bq_X5_layKnown_30 (n : Nat) (v0 : Nat) (v1 : Nat) (v2 : Int32) (v3 : Int32) (m : sl_M) : r_X5_layKnown_30 ca_X5_layKnown n v0 v1 v2 v3 m = b_X5_layKnown_30 n v0 v1 v2 v3 m := rfl
theorem e_X5_layKnown (this : Nat) (m : sl_M) : f_X5_layKnown this m =
  (f_X8_inRing (m.1 5 this 4) m).bind (fun q1 =>
  (f_X4_startBody this (1 : Int32) q1.1.1 q1.2).bind (fun q2 =>
  (f_X8_knownLoad q2.2).bind (fun q3 =>
  b_X5_layKnown_30 99999 this q2.1.2.1 q3.1.1 (0 : Int32) q3.2))) := by
  have h := g_X5_layKnown_0 ca_X5_layKnown 99999 this m
  simp only [cq_X5_layKnown_X4_startBody, cq_X5_layKnown_X4_lay, cq_X5_layKnown_X5_heldBits, cq_X5_layKnown_X6_add, cq_X5_layKnown_X8_inRing, cq_X5_layKnown_X8_knownLoad, bq_X5_layKnown_30] at h
  exact h
theorem e_X5_layKnown_30 (n : Nat) (v0 : Nat) (v1 : Nat) (v2 : Int32) (v3 : Int32) (m : sl_M) : b_X5_layKnown_30 (n + 1) v0 v1 v2 v3 m =
  if v2 ≤ v3 then
    (f_X4_lay v0 (0 : Int32) m).bind (fun q1 =>
    some ((0, 0, 0), q1.2))
  else
    (f_X5_heldBits v0 ((8 : Int32) * v3) m).bind (fun q2 =>
    (f_X6_add v1 q2.1.1 q2.2).bind (fun q3 =>
    b_X5_layKnown_30 n v0 v1 v2 (v3 + (1 : Int32)) q3.2)) := by
  have h := g_X5_layKnown_30 ca_X5_layKnown n v0 v1 v2 v3 m
  simp only [cq_X5_layKnown_X4_startBody, cq_X5_layKnown_X4_lay, cq_X5_layKnown_X5_heldBits, cq_X5_layKnown_X6_add, cq_X5_layKnown_X8_inRing, cq_X5_layKnown_X8_knownLoad, bq_X5_layKnown_30] at h
  exact h

def tb_X7_keepKnown (p : Nat) : Option sl_E := bif Nat.ble 61 p then none else (bif Nat.ble 29 p then (bif Nat.ble 44 p then (bif Nat.ble 52 p then (bif Nat.ble 54 p then (bif Nat.ble 57 p then (bif Nat.ble 60 p then (bif Nat.beq p 60 then some (50, 0, 0, 1, []) else none) else (bif Nat.beq p 57 then some (34, 0, 7, 3, []) else none)) else (bif Nat.beq p 54 then some (5, 1, 2, 3, []) else none)) else (bif Nat.ble 53 p then (bif Nat.beq p 53 then some (42, 0, 0, 1, []) else none) else (bif Nat.beq p 52 then some (2, 1, 0, 1, []) else none))) else (bif Nat.ble 48 p then (bif Nat.ble 49 p then (bif Nat.ble 51 p then (bif Nat.beq p 51 then some (11, 0, 0, 1, []) else none) else (bif Nat.beq p 49 then some (2, 63, 0, 2, []) else none)) else (bif Nat.beq p 48 then some (0, 0, 2, 1, []) else none)) else (bif Nat.ble 45 p then (bif Nat.beq p 45 then some (35, 0, 30, 3, []) else none) else (bif Nat.beq p 44 then some (1, 0, 0, 1, []) else none)))) else (bif Nat.ble 37 p then (bif Nat.ble 39 p then (bif Nat.ble 40 p then (bif Nat.ble 41 p then (bif Nat.beq p 41 then some (28, 0, 54, 3, []) else none) else (bif Nat.beq p 40 then some (11, 0, 0, 1, []) else none)) else (bif Nat.beq p 39 then some (2, 1, 0, 1, []) else none)) else (bif Nat.ble 38 p then (bif Nat.beq p 38 then some (15, 0, 0, 1, []) else none) else (bif Nat.beq p 37 then some (10, 0, 0, 1, []) else none))) else (bif Nat.ble 31 p then (bif Nat.ble 34 p then (bif Nat.ble 35 p then (bif Nat.beq p 35 then some (2, 8, 0, 2, []) else none) else (bif Nat.beq p 34 then some (0, 0, 3, 1, []) else none)) else (bif Nat.beq p 31 then some (46, 0, 130, 3, []) else none)) else (bif Nat.ble 30 p then (bif Nat.beq p 30 then some (6, 0, 0, 1, []) else none) else (bif Nat.beq p 29 then some (9, 0, 0, 1, []) else none))))) else (bif Nat.ble 16 p then (bif Nat.ble 23 p then (bif Nat.ble 25 p then (bif Nat.ble 26 p then (bif Nat.ble 27 p then (bif Nat.beq p 27 then some (2, 8, 0, 2, []) else none) else (bif Nat.beq p 26 then some (0, 0, 3, 1, []) else none)) else (bif Nat.beq p 25 then some (2, 1, 0, 1, []) else none)) else (bif Nat.ble 24 p then (bif Nat.beq p 24 then some (1, 0, 1, 1, []) else none) else (bif Nat.beq p 23 then some (3, 0, 3, 1, []) else none))) else (bif Nat.ble 20 p then (bif Nat.ble 21 p then (bif Nat.ble 22 p then (bif Nat.beq p 22 then some (7, 0, 0, 1, []) else none) else (bif Nat.beq p 21 then some (2, 1, 0, 1, []) else none)) else (bif Nat.beq p 20 then some (7, 0, 0, 1, []) else none)) else (bif Nat.ble 17 p then (bif Nat.beq p 17 then some (35, 0, 59, 3, []) else none) else (bif Nat.beq p 16 then some (1, 0, 0, 1, []) else none)))) else (bif Nat.ble 7 p then (bif Nat.ble 9 p then (bif Nat.ble 12 p then (bif Nat.ble 15 p then (bif Nat.beq p 15 then some (0, 0, 2, 1, []) else none) else (bif Nat.beq p 12 then some (25, 0, 60, 3, []) else none)) else (bif Nat.beq p 9 then some (35, 0, 62, 3, []) else none)) else (bif Nat.ble 8 p then (bif Nat.beq p 8 then some (1, 0, 0, 1, []) else none) else (bif Nat.beq p 7 then some (0, 0, 2, 1, []) else none))) else (bif Nat.ble 4 p then (bif Nat.ble 5 p then (bif Nat.ble 6 p then (bif Nat.beq p 6 then some (3, 0, 2, 1, []) else none) else (bif Nat.beq p 5 then some (6, 0, 0, 1, []) else none)) else (bif Nat.beq p 4 then some (2, 1, 0, 1, []) else none)) else (bif Nat.ble 1 p then (bif Nat.beq p 1 then some (35, 0, 59, 3, []) else none) else (bif Nat.beq p 0 then some (1, 0, 0, 1, []) else none))))))
def ca_X7_keepKnown (y : Nat) (as : List sl_V) (m : sl_M) : Option (sl_PL × sl_M) := bif Nat.beq y 36 then F_X6_at as m else none
def sp_X7_keepKnown (p : Nat) : Bool := Nat.beq p 7
def mk_X7_keepKnown (p : Nat) : List Bool := bif Nat.beq p 7 then [true, true, true, false] else []
def cl_X7_keepKnown (p : Nat) : Option sl_C := bif Nat.ble 131 p then none else (bif Nat.beq p 130 then some (36, 2, 1, 0, 0, 7) else none)
def R_X7_keepKnown (ca : Nat → List sl_V → sl_M → Option (sl_PL × sl_M)) : Nat → sl_S → sl_M → Option (sl_PL × sl_M) := sl_B tb_X7_keepKnown fl_X7 pf_X7 cl_X7_keepKnown nw_X7 sl_rd sl_wr sl_al sl_ln 0 (fun _ => 0) ca sp_X7_keepKnown mk_X7_keepKnown
def F_X7_keepKnown (as : List sl_V) (m : sl_M) : Option (sl_PL × sl_M) := R_X7_keepKnown ca_X7_keepKnown 100000 (0, sl_lo 4 as, []) m
def f_X7_keepKnown (this : Nat) (a0 : Nat) (m : sl_M) : Option (sl_PL × sl_M) := F_X7_keepKnown [.inr (.inl (some (7, this))), .inr (.inl (some (6, a0)))] m
def r_X7_keepKnown_0 (ca : Nat → List sl_V → sl_M → Option (sl_PL × sl_M)) (n : Nat) (this : Nat) (a0 : Nat) (m : sl_M) : Option (sl_PL × sl_M) := R_X7_keepKnown ca n (0, sl_lo 4 [.inr (.inl (some (7, this))), .inr (.inl (some (6, a0)))], []) m
def r_X7_keepKnown_7 (ca : Nat → List sl_V → sl_M → Option (sl_PL × sl_M)) (n : Nat) (v0 : Nat) (v1 : Nat) (v2 : Int32) (m : sl_M) : Option (sl_PL × sl_M) := R_X7_keepKnown ca n (7, [some (.inr (.inl (some (7, v0)))), some (.inr (.inl (some (6, v1)))), some (.inl v2), none], []) m
def b_X7_keepKnown_7 (n : Nat) (v0 : Nat) (v1 : Nat) (v2 : Int32) (m : sl_M) : Option (sl_PL × sl_M) := r_X7_keepKnown_7 ca_X7_keepKnown n v0 v1 v2 m
set_option maxRecDepth 100000 in
theorem g_X7_keepKnown_0 (ca : Nat → List sl_V → sl_M → Option (sl_PL × sl_M)) (n : Nat) (this : Nat) (a0 : Nat) (m : sl_M) : r_X7_keepKnown_0 ca (n + 1) this a0 m =
  r_X7_keepKnown_7 ca n this a0 ((m.1 7 this 7) + (1 : Int32)) m := by rfl
set_option maxRecDepth 100000 in
theorem g_X7_keepKnown_7 (ca : Nat → List sl_V → sl_M → Option (sl_PL × sl_M)) (n : Nat) (v0 : Nat) (v1 : Nat) (v2 : Int32) (m : sl_M) : r_X7_keepKnown_7 ca (n + 1) v0 v1 v2 m =
  if (m.1 7 v0 8) ≤ v2 then
    some ((0, 0, 0), m)
  else
    (ca 36 [.inr (.inl (some (6, v1))), .inl ((1 : Int32) + (((v2 - (m.1 7 v0 7)) - (1 : Int32)) / (8 : Int32)))] m).bind (fun q1 =>
    if ((q1.1.1 >>> ((((v2 - (m.1 7 v0 7)) - (1 : Int32)) - ((v2 - (m.1 7 v0 7)) - (1 : Int32)) / (8 : Int32) * (8 : Int32)) &&& 31)) &&& (1 : Int32)) = 0 then
      r_X7_keepKnown_7 ca n v0 v1 (v2 + (1 : Int32)) q1.2
    else
      if 0 ≤ (v2 &&& (63 : Int32)) ∧ (v2 &&& (63 : Int32)).toNatClampNeg < 64 then
      r_X7_keepKnown_7 ca n v0 v1 (v2 + (1 : Int32)) (sl_up q1.2 26 v0 ((v2 &&& (63 : Int32)).toNatClampNeg) (1 : Int32))
      else none) := by rfl
theorem cq_X7_keepKnown_X6_at (this : Nat) (a0 : Int32) (m : sl_M) : ca_X7_keepKnown 36 [.inr (.inl (some (6, this))), .inl a0] m = f_X6_at this a0 m := by
  unfold ca_X7_keepKnown f_X6_at
  rw [show Nat.beq 36 36 = true from rfl, cond_true]
theorem bq_X7_keepKnown_7 (n : Nat) (v0 : Nat) (v1 : Nat) (v2 : Int32) (m : sl_M) : r_X7_keepKnown_7 ca_X7_keepKnown n v0 v1 v2 m = b_X7_keepKnown_7 n v0 v1 v2 m := rfl
theorem e_X7_keepKnown (this : Nat) (a0 : Nat) (m : sl_M) : f_X7_keepKnown this a0 m =
  b_X7_keepKnown_7 99999 this a0 ((m.1 7 this 7) + (1 : Int32)) m := by
  have h := g_X7_keepKnown_0 ca_X7_keepKnown 99999 this a0 m
  simp only [cq_X7_keepKnown_X6_at, bq_X7_keepKnown_7] at h
  exact h
theorem e_X7_keepKnown_7 (n : Nat) (v0 : Nat) (v1 : Nat) (v2 : Int32) (m : sl_M) : b_X7_keepKnown_7 (n + 1) v0 v1 v2 m =
  if (m.1 7 v0 8) ≤ v2 then
    some ((0, 0, 0), m)
  else
    (f_X6_at v1 ((1 : Int32) + (((v2 - (m.1 7 v0 7)) - (1 : Int32)) / (8 : Int32))) m).bind (fun q1 =>
    if ((q1.1.1 >>> ((((v2 - (m.1 7 v0 7)) - (1 : Int32)) - ((v2 - (m.1 7 v0 7)) - (1 : Int32)) / (8 : Int32) * (8 : Int32)) &&& 31)) &&& (1 : Int32)) = 0 then
      b_X7_keepKnown_7 n v0 v1 (v2 + (1 : Int32)) q1.2
    else
      if 0 ≤ (v2 &&& (63 : Int32)) ∧ (v2 &&& (63 : Int32)).toNatClampNeg < 64 then
      b_X7_keepKnown_7 n v0 v1 (v2 + (1 : Int32)) (sl_up q1.2 26 v0 ((v2 &&& (63 : Int32)).toNatClampNeg) (1 : Int32))
      else none) := by
  have h := g_X7_keepKnown_7 ca_X7_keepKnown n v0 v1 v2 m
  simp only [cq_X7_keepKnown_X6_at, bq_X7_keepKnown_7] at h
  exact h

def tb_X7_hearKnown (p : Nat) : Option sl_E := bif Nat.ble 78 p then none else (bif Nat.ble 37 p then (bif Nat.ble 57 p then (bif Nat.ble 66 p then (bif Nat.ble 71 p then (bif Nat.ble 74 p then (bif Nat.ble 77 p then (bif Nat.beq p 77 then some (50, 0, 0, 1, []) else none) else (bif Nat.beq p 74 then some (36, 0, 56, 3, []) else none)) else (bif Nat.beq p 71 then some (35, 0, 53, 3, []) else none)) else (bif Nat.ble 69 p then (bif Nat.ble 70 p then (bif Nat.beq p 70 then some (1, 0, 0, 1, []) else none) else (bif Nat.beq p 69 then some (1, 0, 0, 1, []) else none)) else (bif Nat.beq p 66 then some (33, 0, 77, 3, []) else none))) else (bif Nat.ble 59 p then (bif Nat.ble 62 p then (bif Nat.ble 65 p then (bif Nat.beq p 65 then some (0, 0, 3, 1, []) else none) else (bif Nat.beq p 62 then some (34, 0, 77, 3, []) else none)) else (bif Nat.beq p 59 then some (46, 0, 126, 3, []) else none)) else (bif Nat.ble 58 p then (bif Nat.beq p 58 then some (1, 0, 2, 1, []) else none) else (bif Nat.beq p 57 then some (1, 0, 0, 1, []) else none)))) else (bif Nat.ble 44 p then (bif Nat.ble 48 p then (bif Nat.ble 51 p then (bif Nat.ble 54 p then (bif Nat.beq p 54 then some (28, 0, 65, 3, []) else none) else (bif Nat.beq p 51 then some (46, 0, 65, 3, []) else none)) else (bif Nat.beq p 48 then some (35, 0, 34, 3, []) else none)) else (bif Nat.ble 47 p then (bif Nat.beq p 47 then some (1, 0, 0, 1, []) else none) else (bif Nat.beq p 44 then some (36, 0, 59, 3, []) else none))) else (bif Nat.ble 39 p then (bif Nat.ble 42 p then (bif Nat.ble 43 p then (bif Nat.beq p 43 then some (6, 0, 0, 1, []) else none) else (bif Nat.beq p 42 then some (0, 0, 3, 1, []) else none)) else (bif Nat.beq p 39 then some (35, 0, 59, 3, []) else none)) else (bif Nat.ble 38 p then (bif Nat.beq p 38 then some (19, 0, 0, 1, []) else none) else (bif Nat.beq p 37 then some (1, 0, 0, 1, []) else none))))) else (bif Nat.ble 16 p then (bif Nat.ble 27 p then (bif Nat.ble 31 p then (bif Nat.ble 33 p then (bif Nat.ble 36 p then (bif Nat.beq p 36 then some (50, 0, 0, 1, []) else none) else (bif Nat.beq p 33 then some (46, 0, 121, 3, []) else none)) else (bif Nat.beq p 31 then some (2, 6, 0, 2, []) else none)) else (bif Nat.ble 28 p then (bif Nat.beq p 28 then some (35, 0, 38, 3, []) else none) else (bif Nat.beq p 27 then some (1, 0, 0, 1, []) else none))) else (bif Nat.ble 20 p then (bif Nat.ble 23 p then (bif Nat.ble 24 p then (bif Nat.beq p 24 then some (27, 0, 37, 3, []) else none) else (bif Nat.beq p 23 then some (7, 0, 0, 1, []) else none)) else (bif Nat.beq p 20 then some (35, 0, 59, 3, []) else none)) else (bif Nat.ble 19 p then (bif Nat.beq p 19 then some (1, 0, 0, 1, []) else none) else (bif Nat.beq p 16 then some (35, 0, 62, 3, []) else none)))) else (bif Nat.ble 9 p then (bif Nat.ble 13 p then (bif Nat.ble 14 p then (bif Nat.ble 15 p then (bif Nat.beq p 15 then some (1, 0, 0, 1, []) else none) else (bif Nat.beq p 14 then some (0, 0, 3, 1, []) else none)) else (bif Nat.beq p 13 then some (3, 0, 3, 1, []) else none)) else (bif Nat.ble 10 p then (bif Nat.beq p 10 then some (46, 0, 103, 3, []) else none) else (bif Nat.beq p 9 then some (7, 0, 0, 1, []) else none))) else (bif Nat.ble 4 p then (bif Nat.ble 5 p then (bif Nat.ble 6 p then (bif Nat.beq p 6 then some (35, 0, 59, 3, []) else none) else (bif Nat.beq p 5 then some (1, 0, 0, 1, []) else none)) else (bif Nat.beq p 4 then some (0, 0, 1, 1, []) else none)) else (bif Nat.ble 1 p then (bif Nat.beq p 1 then some (35, 0, 34, 3, []) else none) else (bif Nat.beq p 0 then some (1, 0, 0, 1, []) else none))))))
def ca_X7_hearKnown (y : Nat) (as : List sl_V) (m : sl_M) : Option (sl_PL × sl_M) := bif Nat.ble 55 y then (bif Nat.ble 59 y then (bif Nat.beq y 59 then F_X9_add as m else none) else (bif Nat.beq y 55 then F_X8_inRing as m else none)) else (bif Nat.ble 54 y then (bif Nat.beq y 54 then F_X8_eachByItself as m else none) else (bif Nat.beq y 48 then F_X7_keepKnown as m else none))
def sp_X7_hearKnown (p : Nat) : Bool := false
def mk_X7_hearKnown (p : Nat) : List Bool := []
def cl_X7_hearKnown (p : Nat) : Option sl_C := bif Nat.ble 127 p then none else (bif Nat.ble 121 p then (bif Nat.ble 126 p then (bif Nat.beq p 126 then some (48, 2, 0, 0, 0, 8) else none) else (bif Nat.beq p 121 then some (59, 2, 0, 0, 0, 10) else none)) else (bif Nat.ble 103 p then (bif Nat.beq p 103 then some (55, 2, 1, 0, 0, 9) else none) else (bif Nat.beq p 65 then some (54, 1, 1, 0, 0, 9) else none)))
def R_X7_hearKnown (ca : Nat → List sl_V → sl_M → Option (sl_PL × sl_M)) : Nat → sl_S → sl_M → Option (sl_PL × sl_M) := sl_B tb_X7_hearKnown fl_X7 pf_X7 cl_X7_hearKnown nw_X7 sl_rd sl_wr sl_al sl_ln 0 (fun _ => 0) ca sp_X7_hearKnown mk_X7_hearKnown
def F_X7_hearKnown (as : List sl_V) (m : sl_M) : Option (sl_PL × sl_M) := R_X7_hearKnown ca_X7_hearKnown 100000 (0, sl_lo 4 as, []) m
def f_X7_hearKnown (this : Nat) (a0 : Int32) (a1 : Nat) (m : sl_M) : Option (sl_PL × sl_M) := F_X7_hearKnown [.inr (.inl (some (7, this))), .inl a0, .inr (.inl (some (6, a1)))] m
def r_X7_hearKnown_0 (ca : Nat → List sl_V → sl_M → Option (sl_PL × sl_M)) (n : Nat) (this : Nat) (a0 : Int32) (a1 : Nat) (m : sl_M) : Option (sl_PL × sl_M) := R_X7_hearKnown ca n (0, sl_lo 4 [.inr (.inl (some (7, this))), .inl a0, .inr (.inl (some (6, a1)))], []) m
set_option maxRecDepth 100000 in
theorem g_X7_hearKnown_0 (ca : Nat → List sl_V → sl_M → Option (sl_PL × sl_M)) (n : Nat) (this : Nat) (a0 : Int32) (a1 : Nat) (m : sl_M) : r_X7_hearKnown_0 ca (n + 1) this a0 a1 m =
  (ca 55 [.inr (.inl (some (8, 0))), .inl (a0 - (m.1 7 this 7))] m).bind (fun q1 =>
  if q1.1.1 ≤ ((q1.2.1 7 this 8) - (q1.2.1 7 this 7)) then
    (ca 54 [.inr (.inl (some (8, 0)))] (sl_up q1.2 7 this 7 ((q1.2.1 7 this 7) + q1.1.1))).bind (fun q2 =>
    if q2.1.1 = 0 then
      if q1.1.1 ≤ 0 then
        some ((0, 0, 0), q2.2)
      else
        some ((0, 0, 0), (sl_up q2.2 7 this 6 (q2.2.1 7 this 5)))
    else
      (ca 48 [.inr (.inl (some (7, this))), .inr (.inl (some (6, a1)))] q2.2).bind (fun q3 =>
      some ((0, 0, 0), q3.2)))
  else
    (ca 59 [.inr (.inl (some (9, 0))), .inl (6 : Int32)] q1.2).bind (fun q4 =>
    some ((0, 0, 0), q4.2))) := by rfl
theorem cq_X7_hearKnown_X7_keepKnown (this : Nat) (a0 : Nat) (m : sl_M) : ca_X7_hearKnown 48 [.inr (.inl (some (7, this))), .inr (.inl (some (6, a0)))] m = f_X7_keepKnown this a0 m := by
  unfold ca_X7_hearKnown f_X7_keepKnown
  rw [show Nat.ble 55 48 = false from rfl, cond_false, show Nat.ble 54 48 = false from rfl, cond_false, show Nat.beq 48 48 = true from rfl, cond_true]
theorem cq_X7_hearKnown_X8_eachByItself  (m : sl_M) : ca_X7_hearKnown 54 [.inr (.inl (some (8, 0)))] m = f_X8_eachByItself m := by
  unfold ca_X7_hearKnown f_X8_eachByItself
  rw [show Nat.ble 55 54 = false from rfl, cond_false, show Nat.ble 54 54 = true from rfl, cond_true, show Nat.beq 54 54 = true from rfl, cond_true]
theorem cq_X7_hearKnown_X8_inRing (a0 : Int32) (m : sl_M) : ca_X7_hearKnown 55 [.inr (.inl (some (8, 0))), .inl a0] m = f_X8_inRing a0 m := by
  unfold ca_X7_hearKnown f_X8_inRing
  rw [show Nat.ble 55 55 = true from rfl, cond_true, show Nat.ble 59 55 = false from rfl, cond_false, show Nat.beq 55 55 = true from rfl, cond_true]
theorem cq_X7_hearKnown_X9_add (a0 : Int32) (m : sl_M) : ca_X7_hearKnown 59 [.inr (.inl (some (9, 0))), .inl a0] m = f_X9_add a0 m := by
  unfold ca_X7_hearKnown f_X9_add
  rw [show Nat.ble 55 59 = true from rfl, cond_true, show Nat.ble 59 59 = true from rfl, cond_true, show Nat.beq 59 59 = true from rfl, cond_true]
theorem e_X7_hearKnown (this : Nat) (a0 : Int32) (a1 : Nat) (m : sl_M) : f_X7_hearKnown this a0 a1 m =
  (f_X8_inRing (a0 - (m.1 7 this 7)) m).bind (fun q1 =>
  if q1.1.1 ≤ ((q1.2.1 7 this 8) - (q1.2.1 7 this 7)) then
    (f_X8_eachByItself (sl_up q1.2 7 this 7 ((q1.2.1 7 this 7) + q1.1.1))).bind (fun q2 =>
    if q2.1.1 = 0 then
      if q1.1.1 ≤ 0 then
        some ((0, 0, 0), q2.2)
      else
        some ((0, 0, 0), (sl_up q2.2 7 this 6 (q2.2.1 7 this 5)))
    else
      (f_X7_keepKnown this a1 q2.2).bind (fun q3 =>
      some ((0, 0, 0), q3.2)))
  else
    (f_X9_add (6 : Int32) q1.2).bind (fun q4 =>
    some ((0, 0, 0), q4.2))) := by
  have h := g_X7_hearKnown_0 ca_X7_hearKnown 99999 this a0 a1 m
  simp only [cq_X7_hearKnown_X7_keepKnown, cq_X7_hearKnown_X8_eachByItself, cq_X7_hearKnown_X8_inRing, cq_X7_hearKnown_X9_add] at h
  exact h

def tb_X1_endBody (p : Nat) : Option sl_E := bif Nat.ble 120 p then none else (bif Nat.ble 59 p then (bif Nat.ble 84 p then (bif Nat.ble 102 p then (bif Nat.ble 112 p then (bif Nat.ble 116 p then (bif Nat.ble 119 p then (bif Nat.beq p 119 then some (50, 0, 0, 1, []) else none) else (bif Nat.beq p 116 then some (46, 0, 101, 3, []) else none)) else (bif Nat.ble 113 p then (bif Nat.beq p 113 then some (35, 0, 50, 3, []) else none) else (bif Nat.beq p 112 then some (1, 0, 0, 1, []) else none))) else (bif Nat.ble 106 p then (bif Nat.ble 109 p then (bif Nat.beq p 109 then some (28, 0, 119, 3, []) else none) else (bif Nat.beq p 106 then some (46, 0, 97, 3, []) else none)) else (bif Nat.ble 103 p then (bif Nat.beq p 103 then some (46, 0, 94, 3, []) else none) else (bif Nat.beq p 102 then some (1, 0, 0, 1, []) else none)))) else (bif Nat.ble 94 p then (bif Nat.ble 98 p then (bif Nat.ble 99 p then (bif Nat.beq p 99 then some (35, 0, 20, 3, []) else none) else (bif Nat.beq p 98 then some (1, 0, 0, 1, []) else none)) else (bif Nat.ble 97 p then (bif Nat.beq p 97 then some (0, 0, 3, 1, []) else none) else (bif Nat.beq p 94 then some (35, 0, 50, 3, []) else none))) else (bif Nat.ble 90 p then (bif Nat.ble 93 p then (bif Nat.beq p 93 then some (1, 0, 0, 1, []) else none) else (bif Nat.beq p 90 then some (34, 0, 119, 3, []) else none)) else (bif Nat.ble 87 p then (bif Nat.beq p 87 then some (46, 0, 90, 3, []) else none) else (bif Nat.beq p 84 then some (35, 0, 20, 3, []) else none))))) else (bif Nat.ble 71 p then (bif Nat.ble 78 p then (bif Nat.ble 82 p then (bif Nat.ble 83 p then (bif Nat.beq p 83 then some (1, 0, 0, 1, []) else none) else (bif Nat.beq p 82 then some (0, 0, 3, 1, []) else none)) else (bif Nat.ble 79 p then (bif Nat.beq p 79 then some (35, 0, 43, 3, []) else none) else (bif Nat.beq p 78 then some (1, 0, 0, 1, []) else none))) else (bif Nat.ble 74 p then (bif Nat.ble 75 p then (bif Nat.beq p 75 then some (23, 0, 93, 3, []) else none) else (bif Nat.beq p 74 then some (2, 1, 0, 1, []) else none)) else (bif Nat.ble 73 p then (bif Nat.beq p 73 then some (9, 0, 0, 1, []) else none) else (bif Nat.beq p 71 then some (2, 64, 0, 2, []) else none)))) else (bif Nat.ble 63 p then (bif Nat.ble 67 p then (bif Nat.ble 68 p then (bif Nat.beq p 68 then some (46, 0, 86, 3, []) else none) else (bif Nat.beq p 67 then some (2, 0, 0, 1, []) else none)) else (bif Nat.ble 64 p then (bif Nat.beq p 64 then some (35, 0, 20, 3, []) else none) else (bif Nat.beq p 63 then some (1, 0, 0, 1, []) else none))) else (bif Nat.ble 61 p then (bif Nat.ble 62 p then (bif Nat.beq p 62 then some (3, 0, 3, 1, []) else none) else (bif Nat.beq p 61 then some (10, 0, 0, 1, []) else none)) else (bif Nat.beq p 59 then some (2, 64, 0, 2, []) else none))))) else (bif Nat.ble 29 p then (bif Nat.ble 42 p then (bif Nat.ble 51 p then (bif Nat.ble 55 p then (bif Nat.ble 56 p then (bif Nat.beq p 56 then some (46, 0, 86, 3, []) else none) else (bif Nat.beq p 55 then some (2, 0, 0, 1, []) else none)) else (bif Nat.ble 52 p then (bif Nat.beq p 52 then some (35, 0, 20, 3, []) else none) else (bif Nat.beq p 51 then some (1, 0, 0, 1, []) else none))) else (bif Nat.ble 46 p then (bif Nat.ble 48 p then (bif Nat.beq p 48 then some (46, 0, 82, 3, []) else none) else (bif Nat.beq p 46 then some (2, 8, 0, 2, []) else none)) else (bif Nat.ble 43 p then (bif Nat.beq p 43 then some (35, 0, 34, 3, []) else none) else (bif Nat.beq p 42 then some (1, 0, 0, 1, []) else none)))) else (bif Nat.ble 34 p then (bif Nat.ble 38 p then (bif Nat.ble 39 p then (bif Nat.beq p 39 then some (29, 0, 51, 3, []) else none) else (bif Nat.beq p 38 then some (0, 0, 1, 1, []) else none)) else (bif Nat.ble 35 p then (bif Nat.beq p 35 then some (46, 0, 82, 3, []) else none) else (bif Nat.beq p 34 then some (2, 4, 0, 1, []) else none))) else (bif Nat.ble 30 p then (bif Nat.ble 31 p then (bif Nat.beq p 31 then some (35, 0, 34, 3, []) else none) else (bif Nat.beq p 30 then some (1, 0, 0, 1, []) else none)) else (bif Nat.beq p 29 then some (50, 0, 0, 1, []) else none)))) else (bif Nat.ble 13 p then (bif Nat.ble 22 p then (bif Nat.ble 25 p then (bif Nat.ble 26 p then (bif Nat.beq p 26 then some (46, 0, 82, 3, []) else none) else (bif Nat.beq p 25 then some (6, 0, 0, 1, []) else none)) else (bif Nat.ble 24 p then (bif Nat.beq p 24 then some (0, 0, 2, 1, []) else none) else (bif Nat.beq p 22 then some (2, 10, 0, 2, []) else none))) else (bif Nat.ble 18 p then (bif Nat.ble 19 p then (bif Nat.beq p 19 then some (35, 0, 34, 3, []) else none) else (bif Nat.beq p 18 then some (1, 0, 0, 1, []) else none)) else (bif Nat.ble 15 p then (bif Nat.beq p 15 then some (46, 0, 82, 3, []) else none) else (bif Nat.beq p 13 then some (2, 7, 0, 2, []) else none)))) else (bif Nat.ble 5 p then (bif Nat.ble 9 p then (bif Nat.ble 10 p then (bif Nat.beq p 10 then some (35, 0, 34, 3, []) else none) else (bif Nat.beq p 9 then some (1, 0, 0, 1, []) else none)) else (bif Nat.ble 6 p then (bif Nat.beq p 6 then some (28, 0, 30, 3, []) else none) else (bif Nat.beq p 5 then some (0, 0, 2, 1, []) else none))) else (bif Nat.ble 1 p then (bif Nat.ble 4 p then (bif Nat.beq p 4 then some (3, 0, 2, 1, []) else none) else (bif Nat.beq p 1 then some (46, 0, 78, 3, []) else none)) else (bif Nat.beq p 0 then some (1, 0, 0, 1, []) else none))))))
def ca_X1_endBody (y : Nat) (as : List sl_V) (m : sl_M) : Option (sl_PL × sl_M) := bif Nat.ble 29 y then (bif Nat.ble 47 y then (bif Nat.ble 59 y then (bif Nat.beq y 59 then F_X9_add as m else none) else (bif Nat.beq y 47 then F_X7_hearKnown as m else none)) else (bif Nat.ble 36 y then (bif Nat.beq y 36 then F_X6_at as m else none) else (bif Nat.beq y 29 then F_X5_layKnown as m else none))) else (bif Nat.ble 9 y then (bif Nat.ble 26 y then (bif Nat.beq y 26 then F_X5_hearData as m else none) else (bif Nat.beq y 9 then F_X1_kindOfWrong as m else none)) else (bif Nat.beq y 8 then F_X1_loadOfBody as m else none))
def sp_X1_endBody (p : Nat) : Bool := false
def mk_X1_endBody (p : Nat) : List Bool := []
def cl_X1_endBody (p : Nat) : Option sl_C := bif Nat.ble 102 p then none else (bif Nat.ble 90 p then (bif Nat.ble 97 p then (bif Nat.ble 101 p then (bif Nat.beq p 101 then some (29, 1, 0, 0, 0, 6) else none) else (bif Nat.beq p 97 then some (26, 4, 1, 0, 0, 6) else none)) else (bif Nat.ble 94 p then (bif Nat.beq p 94 then some (8, 1, 1, 0, 0, 2) else none) else (bif Nat.beq p 90 then some (47, 3, 0, 0, 0, 8) else none))) else (bif Nat.ble 82 p then (bif Nat.ble 86 p then (bif Nat.beq p 86 then some (36, 2, 1, 0, 0, 7) else none) else (bif Nat.beq p 82 then some (59, 2, 0, 0, 0, 10) else none)) else (bif Nat.beq p 78 then some (9, 1, 1, 0, 0, 2) else none)))
def R_X1_endBody (ca : Nat → List sl_V → sl_M → Option (sl_PL × sl_M)) : Nat → sl_S → sl_M → Option (sl_PL × sl_M) := sl_B tb_X1_endBody fl_X1 pf_X1 cl_X1_endBody nw_X1 sl_rd sl_wr sl_al sl_ln 0 (fun _ => 0) ca sp_X1_endBody mk_X1_endBody
def F_X1_endBody (as : List sl_V) (m : sl_M) : Option (sl_PL × sl_M) := R_X1_endBody ca_X1_endBody 100000 (0, sl_lo 4 as, []) m
def f_X1_endBody (this : Nat) (a0 : Int32) (m : sl_M) : Option (sl_PL × sl_M) := F_X1_endBody [.inr (.inl (some (1, this))), .inl a0] m
def r_X1_endBody_0 (ca : Nat → List sl_V → sl_M → Option (sl_PL × sl_M)) (n : Nat) (this : Nat) (a0 : Int32) (m : sl_M) : Option (sl_PL × sl_M) := R_X1_endBody ca n (0, sl_lo 4 [.inr (.inl (some (1, this))), .inl a0], []) m
set_option maxRecDepth 100000 in
theorem g_X1_endBody_0 (ca : Nat → List sl_V → sl_M → Option (sl_PL × sl_M)) (n : Nat) (this : Nat) (a0 : Int32) (m : sl_M) : r_X1_endBody_0 ca (n + 1) this a0 m =
  (ca 9 [.inr (.inl (some (1, this)))] m).bind (fun q1 =>
  if q1.1.1 = 0 then
    (ca 59 [.inr (.inl (some (9, 0))), .inl (4 : Int32)] q1.2).bind (fun q2 =>
    if a0 = 0 then
      (ca 59 [.inr (.inl (some (9, 0))), .inl (8 : Int32)] q2.2).bind (fun q3 =>
      (ca 36 [.inr (.inl (some (6, (12 + this)))), .inl (0 : Int32)] q3.2).bind (fun q4 =>
      (ca 36 [.inr (.inl (some (6, (12 + this)))), .inl (0 : Int32)] q4.2).bind (fun q5 =>
      if (q5.1.1 / (64 : Int32)) = (1 : Int32) then
        (ca 47 [.inr (.inl (some (7, this))), .inl (q4.1.1 - q4.1.1 / (64 : Int32) * (64 : Int32)), .inr (.inl (some (6, (12 + this))))] q5.2).bind (fun q6 =>
        some ((0, 0, 0), q6.2))
      else
        (ca 8 [.inr (.inl (some (1, this)))] q5.2).bind (fun q7 =>
        (ca 26 [.inr (.inl (some (5, this))), .inl (q4.1.1 - q4.1.1 / (64 : Int32) * (64 : Int32)), .inr (.inl (some (6, (12 + this)))), .inl q7.1.1] q7.2).bind (fun q8 =>
        if q8.1.1 = 0 then
          some ((0, 0, 0), q8.2)
        else
          (ca 29 [.inr (.inl (some (5, this)))] q8.2).bind (fun q9 =>
          some ((0, 0, 0), q9.2)))))))
    else
      (ca 36 [.inr (.inl (some (6, (12 + this)))), .inl (0 : Int32)] q2.2).bind (fun q10 =>
      (ca 36 [.inr (.inl (some (6, (12 + this)))), .inl (0 : Int32)] q10.2).bind (fun q11 =>
      if (q11.1.1 / (64 : Int32)) = (1 : Int32) then
        (ca 47 [.inr (.inl (some (7, this))), .inl (q10.1.1 - q10.1.1 / (64 : Int32) * (64 : Int32)), .inr (.inl (some (6, (12 + this))))] q11.2).bind (fun q12 =>
        some ((0, 0, 0), q12.2))
      else
        (ca 8 [.inr (.inl (some (1, this)))] q11.2).bind (fun q13 =>
        (ca 26 [.inr (.inl (some (5, this))), .inl (q10.1.1 - q10.1.1 / (64 : Int32) * (64 : Int32)), .inr (.inl (some (6, (12 + this)))), .inl q13.1.1] q13.2).bind (fun q14 =>
        if q14.1.1 = 0 then
          some ((0, 0, 0), q14.2)
        else
          (ca 29 [.inr (.inl (some (5, this)))] q14.2).bind (fun q15 =>
          some ((0, 0, 0), q15.2)))))))
  else
    (ca 59 [.inr (.inl (some (9, 0))), .inl (7 : Int32)] q1.2).bind (fun q16 =>
    (ca 59 [.inr (.inl (some (9, 0))), .inl ((10 : Int32) + q1.1.1)] q16.2).bind (fun q17 =>
    some ((0, 0, 0), q17.2)))) := by rfl
theorem cq_X1_endBody_X1_loadOfBody (this : Nat) (m : sl_M) : ca_X1_endBody 8 [.inr (.inl (some (1, this)))] m = f_X1_loadOfBody this m := by
  unfold ca_X1_endBody f_X1_loadOfBody
  rw [show Nat.ble 29 8 = false from rfl, cond_false, show Nat.ble 9 8 = false from rfl, cond_false, show Nat.beq 8 8 = true from rfl, cond_true]
theorem cq_X1_endBody_X1_kindOfWrong (this : Nat) (m : sl_M) : ca_X1_endBody 9 [.inr (.inl (some (1, this)))] m = f_X1_kindOfWrong this m := by
  unfold ca_X1_endBody f_X1_kindOfWrong
  rw [show Nat.ble 29 9 = false from rfl, cond_false, show Nat.ble 9 9 = true from rfl, cond_true, show Nat.ble 26 9 = false from rfl, cond_false, show Nat.beq 9 9 = true from rfl, cond_true]
theorem cq_X1_endBody_X5_hearData (this : Nat) (a0 : Int32) (a1 : Nat) (a2 : Int32) (m : sl_M) : ca_X1_endBody 26 [.inr (.inl (some (5, this))), .inl a0, .inr (.inl (some (6, a1))), .inl a2] m = f_X5_hearData this a0 a1 a2 m := by
  unfold ca_X1_endBody f_X5_hearData
  rw [show Nat.ble 29 26 = false from rfl, cond_false, show Nat.ble 9 26 = true from rfl, cond_true, show Nat.ble 26 26 = true from rfl, cond_true, show Nat.beq 26 26 = true from rfl, cond_true]
theorem cq_X1_endBody_X5_layKnown (this : Nat) (m : sl_M) : ca_X1_endBody 29 [.inr (.inl (some (5, this)))] m = f_X5_layKnown this m := by
  unfold ca_X1_endBody f_X5_layKnown
  rw [show Nat.ble 29 29 = true from rfl, cond_true, show Nat.ble 47 29 = false from rfl, cond_false, show Nat.ble 36 29 = false from rfl, cond_false, show Nat.beq 29 29 = true from rfl, cond_true]
theorem cq_X1_endBody_X6_at (this : Nat) (a0 : Int32) (m : sl_M) : ca_X1_endBody 36 [.inr (.inl (some (6, this))), .inl a0] m = f_X6_at this a0 m := by
  unfold ca_X1_endBody f_X6_at
  rw [show Nat.ble 29 36 = true from rfl, cond_true, show Nat.ble 47 36 = false from rfl, cond_false, show Nat.ble 36 36 = true from rfl, cond_true, show Nat.beq 36 36 = true from rfl, cond_true]
theorem cq_X1_endBody_X7_hearKnown (this : Nat) (a0 : Int32) (a1 : Nat) (m : sl_M) : ca_X1_endBody 47 [.inr (.inl (some (7, this))), .inl a0, .inr (.inl (some (6, a1)))] m = f_X7_hearKnown this a0 a1 m := by
  unfold ca_X1_endBody f_X7_hearKnown
  rw [show Nat.ble 29 47 = true from rfl, cond_true, show Nat.ble 47 47 = true from rfl, cond_true, show Nat.ble 59 47 = false from rfl, cond_false, show Nat.beq 47 47 = true from rfl, cond_true]
theorem cq_X1_endBody_X9_add (a0 : Int32) (m : sl_M) : ca_X1_endBody 59 [.inr (.inl (some (9, 0))), .inl a0] m = f_X9_add a0 m := by
  unfold ca_X1_endBody f_X9_add
  rw [show Nat.ble 29 59 = true from rfl, cond_true, show Nat.ble 47 59 = true from rfl, cond_true, show Nat.ble 59 59 = true from rfl, cond_true, show Nat.beq 59 59 = true from rfl, cond_true]
theorem e_X1_endBody (this : Nat) (a0 : Int32) (m : sl_M) : f_X1_endBody this a0 m =
  (f_X1_kindOfWrong this m).bind (fun q1 =>
  if q1.1.1 = 0 then
    (f_X9_add (4 : Int32) q1.2).bind (fun q2 =>
    if a0 = 0 then
      (f_X9_add (8 : Int32) q2.2).bind (fun q3 =>
      (f_X6_at (12 + this) (0 : Int32) q3.2).bind (fun q4 =>
      (f_X6_at (12 + this) (0 : Int32) q4.2).bind (fun q5 =>
      if (q5.1.1 / (64 : Int32)) = (1 : Int32) then
        (f_X7_hearKnown this (q4.1.1 - q4.1.1 / (64 : Int32) * (64 : Int32)) (12 + this) q5.2).bind (fun q6 =>
        some ((0, 0, 0), q6.2))
      else
        (f_X1_loadOfBody this q5.2).bind (fun q7 =>
        (f_X5_hearData this (q4.1.1 - q4.1.1 / (64 : Int32) * (64 : Int32)) (12 + this) q7.1.1 q7.2).bind (fun q8 =>
        if q8.1.1 = 0 then
          some ((0, 0, 0), q8.2)
        else
          (f_X5_layKnown this q8.2).bind (fun q9 =>
          some ((0, 0, 0), q9.2)))))))
    else
      (f_X6_at (12 + this) (0 : Int32) q2.2).bind (fun q10 =>
      (f_X6_at (12 + this) (0 : Int32) q10.2).bind (fun q11 =>
      if (q11.1.1 / (64 : Int32)) = (1 : Int32) then
        (f_X7_hearKnown this (q10.1.1 - q10.1.1 / (64 : Int32) * (64 : Int32)) (12 + this) q11.2).bind (fun q12 =>
        some ((0, 0, 0), q12.2))
      else
        (f_X1_loadOfBody this q11.2).bind (fun q13 =>
        (f_X5_hearData this (q10.1.1 - q10.1.1 / (64 : Int32) * (64 : Int32)) (12 + this) q13.1.1 q13.2).bind (fun q14 =>
        if q14.1.1 = 0 then
          some ((0, 0, 0), q14.2)
        else
          (f_X5_layKnown this q14.2).bind (fun q15 =>
          some ((0, 0, 0), q15.2)))))))
  else
    (f_X9_add (7 : Int32) q1.2).bind (fun q16 =>
    (f_X9_add ((10 : Int32) + q1.1.1) q16.2).bind (fun q17 =>
    some ((0, 0, 0), q17.2)))) := by
  have h := g_X1_endBody_0 ca_X1_endBody 99999 this a0 m
  simp only [cq_X1_endBody_X1_loadOfBody, cq_X1_endBody_X1_kindOfWrong, cq_X1_endBody_X5_hearData, cq_X1_endBody_X5_layKnown, cq_X1_endBody_X6_at, cq_X1_endBody_X7_hearKnown, cq_X1_endBody_X9_add] at h
  exact h

def tb_X1_hear (p : Nat) : Option sl_E := bif Nat.ble 43 p then none else (bif Nat.ble 20 p then (bif Nat.ble 33 p then (bif Nat.ble 38 p then (bif Nat.ble 39 p then (bif Nat.ble 42 p then (bif Nat.beq p 42 then some (50, 0, 0, 1, []) else none) else (bif Nat.beq p 39 then some (46, 0, 58, 3, []) else none)) else (bif Nat.beq p 38 then some (1, 0, 0, 1, []) else none)) else (bif Nat.ble 34 p then (bif Nat.ble 35 p then (bif Nat.beq p 35 then some (46, 0, 74, 3, []) else none) else (bif Nat.beq p 34 then some (0, 0, 2, 1, []) else none)) else (bif Nat.beq p 33 then some (1, 0, 0, 1, []) else none))) else (bif Nat.ble 24 p then (bif Nat.ble 27 p then (bif Nat.ble 30 p then (bif Nat.beq p 30 then some (33, 0, 42, 3, []) else none) else (bif Nat.beq p 27 then some (35, 0, 70, 3, []) else none)) else (bif Nat.beq p 24 then some (35, 0, 14, 3, []) else none)) else (bif Nat.ble 23 p then (bif Nat.beq p 23 then some (1, 0, 0, 1, []) else none) else (bif Nat.beq p 20 then some (34, 0, 42, 3, []) else none)))) else (bif Nat.ble 9 p then (bif Nat.ble 15 p then (bif Nat.ble 16 p then (bif Nat.ble 17 p then (bif Nat.beq p 17 then some (36, 0, 62, 3, []) else none) else (bif Nat.beq p 16 then some (2, 1, 0, 1, []) else none)) else (bif Nat.beq p 15 then some (1, 0, 0, 1, []) else none)) else (bif Nat.ble 12 p then (bif Nat.beq p 12 then some (29, 0, 42, 3, []) else none) else (bif Nat.beq p 9 then some (46, 0, 66, 3, []) else none))) else (bif Nat.ble 4 p then (bif Nat.ble 5 p then (bif Nat.ble 8 p then (bif Nat.beq p 8 then some (0, 0, 1, 1, []) else none) else (bif Nat.beq p 5 then some (35, 0, 14, 3, []) else none)) else (bif Nat.beq p 4 then some (1, 0, 0, 1, []) else none)) else (bif Nat.ble 1 p then (bif Nat.beq p 1 then some (28, 0, 23, 3, []) else none) else (bif Nat.beq p 0 then some (0, 0, 1, 1, []) else none)))))
def ca_X1_hear (y : Nat) (as : List sl_V) (m : sl_M) : Option (sl_PL × sl_M) := bif Nat.ble 7 y then (bif Nat.ble 37 y then (bif Nat.beq y 37 then F_X6_add as m else none) else (bif Nat.beq y 7 then F_X1_endBody as m else none)) else (bif Nat.beq y 5 then F_X1_forgetHeard as m else none)
def sp_X1_hear (p : Nat) : Bool := false
def mk_X1_hear (p : Nat) : List Bool := []
def cl_X1_hear (p : Nat) : Option sl_C := bif Nat.ble 75 p then none else (bif Nat.ble 66 p then (bif Nat.ble 74 p then (bif Nat.beq p 74 then some (7, 2, 0, 0, 0, 2) else none) else (bif Nat.beq p 66 then some (37, 2, 1, 0, 0, 7) else none)) else (bif Nat.beq p 58 then some (5, 1, 0, 0, 0, 2) else none))
def R_X1_hear (ca : Nat → List sl_V → sl_M → Option (sl_PL × sl_M)) : Nat → sl_S → sl_M → Option (sl_PL × sl_M) := sl_B tb_X1_hear fl_X1 pf_X1 cl_X1_hear nw_X1 sl_rd sl_wr sl_al sl_ln 0 (fun _ => 0) ca sp_X1_hear mk_X1_hear
def F_X1_hear (as : List sl_V) (m : sl_M) : Option (sl_PL × sl_M) := R_X1_hear ca_X1_hear 100000 (0, sl_lo 3 as, []) m
def f_X1_hear (this : Nat) (a0 : Int32) (a1 : Int32) (m : sl_M) : Option (sl_PL × sl_M) := F_X1_hear [.inr (.inl (some (1, this))), .inl a0, .inl a1] m
def r_X1_hear_0 (ca : Nat → List sl_V → sl_M → Option (sl_PL × sl_M)) (n : Nat) (this : Nat) (a0 : Int32) (a1 : Int32) (m : sl_M) : Option (sl_PL × sl_M) := R_X1_hear ca n (0, sl_lo 3 [.inr (.inl (some (1, this))), .inl a0, .inl a1], []) m
set_option maxRecDepth 100000 in
theorem g_X1_hear_0 (ca : Nat → List sl_V → sl_M → Option (sl_PL × sl_M)) (n : Nat) (this : Nat) (a0 : Int32) (a1 : Int32) (m : sl_M) : r_X1_hear_0 ca (n + 1) this a0 a1 m =
  if a0 = 0 then
    if (m.1 6 (10 + this) 1) ≤ 0 then
      some ((0, 0, 0), m)
    else
      (ca 7 [.inr (.inl (some (1, this))), .inl a1] m).bind (fun q1 =>
      (ca 5 [.inr (.inl (some (1, this)))] q1.2).bind (fun q2 =>
      some ((0, 0, 0), q2.2)))
  else
    (ca 37 [.inr (.inl (some (6, (10 + this)))), .inl a0] m).bind (fun q3 =>
    if q3.1.1 = 0 then
      some ((0, 0, 0), (sl_up q3.2 1 this 5 (1 : Int32)))
    else
      some ((0, 0, 0), q3.2)) := by rfl
theorem cq_X1_hear_X1_forgetHeard (this : Nat) (m : sl_M) : ca_X1_hear 5 [.inr (.inl (some (1, this)))] m = f_X1_forgetHeard this m := by
  unfold ca_X1_hear f_X1_forgetHeard
  rw [show Nat.ble 7 5 = false from rfl, cond_false, show Nat.beq 5 5 = true from rfl, cond_true]
theorem cq_X1_hear_X1_endBody (this : Nat) (a0 : Int32) (m : sl_M) : ca_X1_hear 7 [.inr (.inl (some (1, this))), .inl a0] m = f_X1_endBody this a0 m := by
  unfold ca_X1_hear f_X1_endBody
  rw [show Nat.ble 7 7 = true from rfl, cond_true, show Nat.ble 37 7 = false from rfl, cond_false, show Nat.beq 7 7 = true from rfl, cond_true]
theorem cq_X1_hear_X6_add (this : Nat) (a0 : Int32) (m : sl_M) : ca_X1_hear 37 [.inr (.inl (some (6, this))), .inl a0] m = f_X6_add this a0 m := by
  unfold ca_X1_hear f_X6_add
  rw [show Nat.ble 7 37 = true from rfl, cond_true, show Nat.ble 37 37 = true from rfl, cond_true, show Nat.beq 37 37 = true from rfl, cond_true]
theorem e_X1_hear (this : Nat) (a0 : Int32) (a1 : Int32) (m : sl_M) : f_X1_hear this a0 a1 m =
  if a0 = 0 then
    if (m.1 6 (10 + this) 1) ≤ 0 then
      some ((0, 0, 0), m)
    else
      (f_X1_endBody this a1 m).bind (fun q1 =>
      (f_X1_forgetHeard this q1.2).bind (fun q2 =>
      some ((0, 0, 0), q2.2)))
  else
    (f_X6_add (10 + this) a0 m).bind (fun q3 =>
    if q3.1.1 = 0 then
      some ((0, 0, 0), (sl_up q3.2 1 this 5 (1 : Int32)))
    else
      some ((0, 0, 0), q3.2)) := by
  have h := g_X1_hear_0 ca_X1_hear 99999 this a0 a1 m
  simp only [cq_X1_hear_X1_forgetHeard, cq_X1_hear_X1_endBody, cq_X1_hear_X6_add] at h
  exact h

def tb_X4_clear (p : Nat) : Option sl_E := bif Nat.ble 11 p then none else (bif Nat.ble 5 p then (bif Nat.ble 7 p then (bif Nat.ble 10 p then (bif Nat.beq p 10 then some (50, 0, 0, 1, []) else none) else (bif Nat.beq p 7 then some (36, 0, 35, 3, []) else none)) else (bif Nat.ble 6 p then (bif Nat.beq p 6 then some (2, 0, 0, 1, []) else none) else (bif Nat.beq p 5 then some (1, 0, 0, 1, []) else none))) else (bif Nat.ble 1 p then (bif Nat.ble 2 p then (bif Nat.beq p 2 then some (36, 0, 31, 3, []) else none) else (bif Nat.beq p 1 then some (2, 0, 0, 1, []) else none)) else (bif Nat.beq p 0 then some (1, 0, 0, 1, []) else none)))
def ca_X4_clear (y : Nat) (as : List sl_V) (m : sl_M) : Option (sl_PL × sl_M) := none
def sp_X4_clear (p : Nat) : Bool := false
def mk_X4_clear (p : Nat) : List Bool := []
def cl_X4_clear (p : Nat) : Option sl_C := none
def R_X4_clear (ca : Nat → List sl_V → sl_M → Option (sl_PL × sl_M)) : Nat → sl_S → sl_M → Option (sl_PL × sl_M) := sl_B tb_X4_clear fl_X4 pf_X4 cl_X4_clear nw_X4 sl_rd sl_wr sl_al sl_ln 0 (fun _ => 0) ca sp_X4_clear mk_X4_clear
def F_X4_clear (as : List sl_V) (m : sl_M) : Option (sl_PL × sl_M) := R_X4_clear ca_X4_clear 100000 (0, sl_lo 1 as, []) m
def f_X4_clear (this : Nat) (m : sl_M) : Option (sl_PL × sl_M) := F_X4_clear [.inr (.inl (some (4, this)))] m
def r_X4_clear_0 (ca : Nat → List sl_V → sl_M → Option (sl_PL × sl_M)) (n : Nat) (this : Nat) (m : sl_M) : Option (sl_PL × sl_M) := R_X4_clear ca n (0, sl_lo 1 [.inr (.inl (some (4, this)))], []) m
set_option maxRecDepth 100000 in
theorem g_X4_clear_0 (ca : Nat → List sl_V → sl_M → Option (sl_PL × sl_M)) (n : Nat) (this : Nat) (m : sl_M) : r_X4_clear_0 ca (n + 1) this m =
  some ((0, 0, 0), (sl_up (sl_up m 4 this 3 (0 : Int32)) 4 this 4 (0 : Int32))) := by rfl
theorem e_X4_clear (this : Nat) (m : sl_M) : f_X4_clear this m =
  some ((0, 0, 0), (sl_up (sl_up m 4 this 3 (0 : Int32)) 4 this 4 (0 : Int32))) := by
  have h := g_X4_clear_0 ca_X4_clear 99999 this m
  exact h

def tb_X4_nth (p : Nat) : Option sl_E := bif Nat.ble 22 p then none else (bif Nat.ble 12 p then (bif Nat.ble 17 p then (bif Nat.ble 20 p then (bif Nat.ble 21 p then (bif Nat.beq p 21 then some (49, 0, 2, 1, []) else none) else (bif Nat.beq p 20 then some (51, 0, 0, 1, []) else none)) else (bif Nat.beq p 17 then some (34, 0, 21, 3, []) else none)) else (bif Nat.ble 13 p then (bif Nat.ble 14 p then (bif Nat.beq p 14 then some (46, 0, 38, 3, []) else none) else (bif Nat.beq p 13 then some (0, 0, 1, 1, []) else none)) else (bif Nat.beq p 12 then some (1, 0, 0, 1, []) else none))) else (bif Nat.ble 5 p then (bif Nat.ble 6 p then (bif Nat.ble 9 p then (bif Nat.beq p 9 then some (25, 0, 20, 3, []) else none) else (bif Nat.beq p 6 then some (35, 0, 35, 3, []) else none)) else (bif Nat.beq p 5 then some (1, 0, 0, 1, []) else none)) else (bif Nat.ble 1 p then (bif Nat.ble 4 p then (bif Nat.beq p 4 then some (0, 0, 1, 1, []) else none) else (bif Nat.beq p 1 then some (30, 0, 20, 3, []) else none)) else (bif Nat.beq p 0 then some (0, 0, 1, 1, []) else none))))
def ca_X4_nth (y : Nat) (as : List sl_V) (m : sl_M) : Option (sl_PL × sl_M) := bif Nat.beq y 20 then F_X4_slot as m else none
def sp_X4_nth (p : Nat) : Bool := false
def mk_X4_nth (p : Nat) : List Bool := []
def cl_X4_nth (p : Nat) : Option sl_C := bif Nat.ble 39 p then none else (bif Nat.beq p 38 then some (20, 2, 3, 2, 0, 5) else none)
def R_X4_nth (ca : Nat → List sl_V → sl_M → Option (sl_PL × sl_M)) : Nat → sl_S → sl_M → Option (sl_PL × sl_M) := sl_B tb_X4_nth fl_X4 pf_X4 cl_X4_nth nw_X4 sl_rd sl_wr sl_al sl_ln 0 (fun _ => 0) ca sp_X4_nth mk_X4_nth
def F_X4_nth (as : List sl_V) (m : sl_M) : Option (sl_PL × sl_M) := R_X4_nth ca_X4_nth 100000 (0, sl_lo 2 as, []) m
def f_X4_nth (this : Nat) (a0 : Int32) (m : sl_M) : Option (sl_PL × sl_M) := F_X4_nth [.inr (.inl (some (4, this))), .inl a0] m
def r_X4_nth_0 (ca : Nat → List sl_V → sl_M → Option (sl_PL × sl_M)) (n : Nat) (this : Nat) (a0 : Int32) (m : sl_M) : Option (sl_PL × sl_M) := R_X4_nth ca n (0, sl_lo 2 [.inr (.inl (some (4, this))), .inl a0], []) m
set_option maxRecDepth 100000 in
theorem g_X4_nth_0 (ca : Nat → List sl_V → sl_M → Option (sl_PL × sl_M)) (n : Nat) (this : Nat) (a0 : Int32) (m : sl_M) : r_X4_nth_0 ca (n + 1) this a0 m =
  if a0 < 0 then
    some ((0, 0, 1), m)
  else
    if (m.1 4 this 4) ≤ a0 then
      some ((0, 0, 1), m)
    else
      (ca 20 [.inr (.inl (some (4, this))), .inl a0] m).bind (fun q1 =>
      if q1.1.2.2 = 1 then
        some ((0, 0, 1), q1.2)
      else
        some ((0, q1.1.2.1, 0), q1.2)) := by rfl
theorem cq_X4_nth_X4_slot (this : Nat) (a0 : Int32) (m : sl_M) : ca_X4_nth 20 [.inr (.inl (some (4, this))), .inl a0] m = f_X4_slot this a0 m := by
  unfold ca_X4_nth f_X4_slot
  rw [show Nat.beq 20 20 = true from rfl, cond_true]
theorem e_X4_nth (this : Nat) (a0 : Int32) (m : sl_M) : f_X4_nth this a0 m =
  if a0 < 0 then
    some ((0, 0, 1), m)
  else
    if (m.1 4 this 4) ≤ a0 then
      some ((0, 0, 1), m)
    else
      (f_X4_slot this a0 m).bind (fun q1 =>
      if q1.1.2.2 = 1 then
        some ((0, 0, 1), q1.2)
      else
        some ((0, q1.1.2.1, 0), q1.2)) := by
  have h := g_X4_nth_0 ca_X4_nth 99999 this a0 m
  simp only [cq_X4_nth_X4_slot] at h
  exact h

def tb_X4_dropFirst (p : Nat) : Option sl_E := bif Nat.ble 31 p then none else (bif Nat.ble 16 p then (bif Nat.ble 22 p then (bif Nat.ble 26 p then (bif Nat.ble 27 p then (bif Nat.ble 30 p then (bif Nat.beq p 30 then some (50, 0, 0, 1, []) else none) else (bif Nat.beq p 27 then some (36, 0, 35, 3, []) else none)) else (bif Nat.beq p 26 then some (7, 0, 0, 1, []) else none)) else (bif Nat.ble 25 p then (bif Nat.beq p 25 then some (2, 1, 0, 1, []) else none) else (bif Nat.beq p 22 then some (35, 0, 35, 3, []) else none))) else (bif Nat.ble 20 p then (bif Nat.ble 21 p then (bif Nat.beq p 21 then some (19, 0, 0, 1, []) else none) else (bif Nat.beq p 20 then some (1, 0, 0, 1, []) else none)) else (bif Nat.ble 17 p then (bif Nat.beq p 17 then some (36, 0, 31, 3, []) else none) else (bif Nat.beq p 16 then some (10, 0, 0, 1, []) else none)))) else (bif Nat.ble 8 p then (bif Nat.ble 12 p then (bif Nat.ble 13 p then (bif Nat.ble 14 p then (bif Nat.beq p 14 then some (2, 40, 0, 2, []) else none) else (bif Nat.beq p 13 then some (6, 0, 0, 1, []) else none)) else (bif Nat.beq p 12 then some (2, 1, 0, 1, []) else none)) else (bif Nat.ble 9 p then (bif Nat.beq p 9 then some (35, 0, 31, 3, []) else none) else (bif Nat.beq p 8 then some (1, 0, 0, 1, []) else none))) else (bif Nat.ble 4 p then (bif Nat.ble 7 p then (bif Nat.beq p 7 then some (1, 0, 0, 1, []) else none) else (bif Nat.beq p 4 then some (33, 0, 30, 3, []) else none)) else (bif Nat.ble 1 p then (bif Nat.beq p 1 then some (35, 0, 35, 3, []) else none) else (bif Nat.beq p 0 then some (1, 0, 0, 1, []) else none)))))
def ca_X4_dropFirst (y : Nat) (as : List sl_V) (m : sl_M) : Option (sl_PL × sl_M) := none
def sp_X4_dropFirst (p : Nat) : Bool := false
def mk_X4_dropFirst (p : Nat) : List Bool := []
def cl_X4_dropFirst (p : Nat) : Option sl_C := none
def R_X4_dropFirst (ca : Nat → List sl_V → sl_M → Option (sl_PL × sl_M)) : Nat → sl_S → sl_M → Option (sl_PL × sl_M) := sl_B tb_X4_dropFirst fl_X4 pf_X4 cl_X4_dropFirst nw_X4 sl_rd sl_wr sl_al sl_ln 0 (fun _ => 0) ca sp_X4_dropFirst mk_X4_dropFirst
def F_X4_dropFirst (as : List sl_V) (m : sl_M) : Option (sl_PL × sl_M) := R_X4_dropFirst ca_X4_dropFirst 100000 (0, sl_lo 1 as, []) m
def f_X4_dropFirst (this : Nat) (m : sl_M) : Option (sl_PL × sl_M) := F_X4_dropFirst [.inr (.inl (some (4, this)))] m
def r_X4_dropFirst_0 (ca : Nat → List sl_V → sl_M → Option (sl_PL × sl_M)) (n : Nat) (this : Nat) (m : sl_M) : Option (sl_PL × sl_M) := R_X4_dropFirst ca n (0, sl_lo 1 [.inr (.inl (some (4, this)))], []) m
set_option maxRecDepth 100000 in
theorem g_X4_dropFirst_0 (ca : Nat → List sl_V → sl_M → Option (sl_PL × sl_M)) (n : Nat) (this : Nat) (m : sl_M) : r_X4_dropFirst_0 ca (n + 1) this m =
  if (m.1 4 this 4) ≤ 0 then
    some ((0, 0, 0), m)
  else
    some ((0, 0, 0), (sl_up (sl_up m 4 this 3 (((m.1 4 this 3) + (1 : Int32)) - ((m.1 4 this 3) + (1 : Int32)) / (40 : Int32) * (40 : Int32))) 4 this 4 ((m.1 4 this 4) - (1 : Int32)))) := by rfl
theorem e_X4_dropFirst (this : Nat) (m : sl_M) : f_X4_dropFirst this m =
  if (m.1 4 this 4) ≤ 0 then
    some ((0, 0, 0), m)
  else
    some ((0, 0, 0), (sl_up (sl_up m 4 this 3 (((m.1 4 this 3) + (1 : Int32)) - ((m.1 4 this 3) + (1 : Int32)) / (40 : Int32) * (40 : Int32))) 4 this 4 ((m.1 4 this 4) - (1 : Int32)))) := by
  have h := g_X4_dropFirst_0 ca_X4_dropFirst 99999 this m
  exact h

def tb_X5_heldPieces (p : Nat) : Option sl_E := bif Nat.ble 38 p then none else (bif Nat.ble 18 p then (bif Nat.ble 28 p then (bif Nat.ble 33 p then (bif Nat.ble 36 p then (bif Nat.ble 37 p then (bif Nat.beq p 37 then some (47, 0, 1, 1, []) else none) else (bif Nat.beq p 36 then some (0, 0, 1, 1, []) else none)) else (bif Nat.beq p 33 then some (34, 0, 4, 3, []) else none)) else (bif Nat.ble 29 p then (bif Nat.ble 30 p then (bif Nat.beq p 30 then some (5, 1, 2, 3, []) else none) else (bif Nat.beq p 29 then some (3, 0, 1, 1, []) else none)) else (bif Nat.beq p 28 then some (6, 0, 0, 1, []) else none))) else (bif Nat.ble 23 p then (bif Nat.ble 24 p then (bif Nat.ble 27 p then (bif Nat.beq p 27 then some (2, 0, 0, 1, []) else none) else (bif Nat.beq p 24 then some (34, 0, 28, 3, []) else none)) else (bif Nat.beq p 23 then some (2, 1, 0, 1, []) else none)) else (bif Nat.ble 19 p then (bif Nat.ble 20 p then (bif Nat.beq p 20 then some (33, 0, 27, 3, []) else none) else (bif Nat.beq p 19 then some (37, 0, 0, 1, []) else none)) else (bif Nat.beq p 18 then some (0, 0, 2, 1, []) else none)))) else (bif Nat.ble 6 p then (bif Nat.ble 13 p then (bif Nat.ble 14 p then (bif Nat.ble 15 p then (bif Nat.beq p 15 then some (35, 0, 20, 3, []) else none) else (bif Nat.beq p 14 then some (1, 0, 0, 1, []) else none)) else (bif Nat.beq p 13 then some (0, 0, 1, 1, []) else none)) else (bif Nat.ble 9 p then (bif Nat.ble 10 p then (bif Nat.beq p 10 then some (25, 0, 36, 3, []) else none) else (bif Nat.beq p 9 then some (45, 0, 0, 1, []) else none)) else (bif Nat.beq p 6 then some (35, 0, 20, 3, []) else none))) else (bif Nat.ble 3 p then (bif Nat.ble 4 p then (bif Nat.ble 5 p then (bif Nat.beq p 5 then some (1, 0, 0, 1, []) else none) else (bif Nat.beq p 4 then some (0, 0, 2, 1, []) else none)) else (bif Nat.beq p 3 then some (3, 0, 2, 1, []) else none)) else (bif Nat.ble 1 p then (bif Nat.ble 2 p then (bif Nat.beq p 2 then some (2, 0, 0, 1, []) else none) else (bif Nat.beq p 1 then some (3, 0, 1, 1, []) else none)) else (bif Nat.beq p 0 then some (2, 0, 0, 1, []) else none)))))
def ca_X5_heldPieces (y : Nat) (as : List sl_V) (m : sl_M) : Option (sl_PL × sl_M) := none
def sp_X5_heldPieces (p : Nat) : Bool := Nat.beq p 4
def mk_X5_heldPieces (p : Nat) : List Bool := bif Nat.beq p 4 then [true, true, true] else []
def cl_X5_heldPieces (p : Nat) : Option sl_C := none
def R_X5_heldPieces (ca : Nat → List sl_V → sl_M → Option (sl_PL × sl_M)) : Nat → sl_S → sl_M → Option (sl_PL × sl_M) := sl_B tb_X5_heldPieces fl_X5 pf_X5 cl_X5_heldPieces nw_X5 sl_rd sl_wr sl_al sl_ln 0 (fun _ => 0) ca sp_X5_heldPieces mk_X5_heldPieces
def F_X5_heldPieces (as : List sl_V) (m : sl_M) : Option (sl_PL × sl_M) := R_X5_heldPieces ca_X5_heldPieces 100000 (0, sl_lo 3 as, []) m
def f_X5_heldPieces (this : Nat) (m : sl_M) : Option (sl_PL × sl_M) := F_X5_heldPieces [.inr (.inl (some (5, this)))] m
def r_X5_heldPieces_0 (ca : Nat → List sl_V → sl_M → Option (sl_PL × sl_M)) (n : Nat) (this : Nat) (m : sl_M) : Option (sl_PL × sl_M) := R_X5_heldPieces ca n (0, sl_lo 3 [.inr (.inl (some (5, this)))], []) m
def r_X5_heldPieces_4 (ca : Nat → List sl_V → sl_M → Option (sl_PL × sl_M)) (n : Nat) (v0 : Nat) (v1 : Int32) (v2 : Int32) (m : sl_M) : Option (sl_PL × sl_M) := R_X5_heldPieces ca n (4, [some (.inr (.inl (some (5, v0)))), some (.inl v1), some (.inl v2)], []) m
def b_X5_heldPieces_4 (n : Nat) (v0 : Nat) (v1 : Int32) (v2 : Int32) (m : sl_M) : Option (sl_PL × sl_M) := r_X5_heldPieces_4 ca_X5_heldPieces n v0 v1 v2 m
set_option maxRecDepth 100000 in
theorem g_X5_heldPieces_0 (ca : Nat → List sl_V → sl_M → Option (sl_PL × sl_M)) (n : Nat) (this : Nat) (m : sl_M) : r_X5_heldPieces_0 ca (n + 1) this m =
  r_X5_heldPieces_4 ca n this (0 : Int32) (0 : Int32) m := by rfl
set_option maxRecDepth 100000 in
theorem g_X5_heldPieces_4 (ca : Nat → List sl_V → sl_M → Option (sl_PL × sl_M)) (n : Nat) (v0 : Nat) (v1 : Int32) (v2 : Int32) (m : sl_M) : r_X5_heldPieces_4 ca (n + 1) v0 v1 v2 m =
  if (Int32.ofNat (sl_l7 v0)) ≤ v2 then
    some ((v1, 0, 0), m)
  else
    if 0 ≤ v2 ∧ v2.toNatClampNeg < sl_l7 v0 then
    if (m.1 27 v0 v2.toNatClampNeg) ≤ 0 then
      r_X5_heldPieces_4 ca n v0 (v1 + (0 : Int32)) (v2 + (1 : Int32)) m
    else
      r_X5_heldPieces_4 ca n v0 (v1 + (1 : Int32)) (v2 + (1 : Int32)) m
    else none := by rfl
theorem bq_X5_heldPieces_4 (n : Nat) (v0 : Nat) (v1 : Int32) (v2 : Int32) (m : sl_M) : r_X5_heldPieces_4 ca_X5_heldPieces n v0 v1 v2 m = b_X5_heldPieces_4 n v0 v1 v2 m := rfl
theorem e_X5_heldPieces (this : Nat) (m : sl_M) : f_X5_heldPieces this m =
  b_X5_heldPieces_4 99999 this (0 : Int32) (0 : Int32) m := by
  have h := g_X5_heldPieces_0 ca_X5_heldPieces 99999 this m
  simp only [bq_X5_heldPieces_4] at h
  exact h
theorem e_X5_heldPieces_4 (n : Nat) (v0 : Nat) (v1 : Int32) (v2 : Int32) (m : sl_M) : b_X5_heldPieces_4 (n + 1) v0 v1 v2 m =
  if (Int32.ofNat (sl_l7 v0)) ≤ v2 then
    some ((v1, 0, 0), m)
  else
    if 0 ≤ v2 ∧ v2.toNatClampNeg < sl_l7 v0 then
    if (m.1 27 v0 v2.toNatClampNeg) ≤ 0 then
      b_X5_heldPieces_4 n v0 (v1 + (0 : Int32)) (v2 + (1 : Int32)) m
    else
      b_X5_heldPieces_4 n v0 (v1 + (1 : Int32)) (v2 + (1 : Int32)) m
    else none := by
  have h := g_X5_heldPieces_4 ca_X5_heldPieces n v0 v1 v2 m
  simp only [bq_X5_heldPieces_4] at h
  exact h

def tb_J9_max_7cf53 (p : Nat) : Option sl_E := bif Nat.ble 11 p then none else (bif Nat.ble 5 p then (bif Nat.ble 9 p then (bif Nat.ble 10 p then (bif Nat.beq p 10 then some (47, 0, 1, 1, []) else none) else (bif Nat.beq p 9 then some (0, 0, 1, 1, []) else none)) else (bif Nat.ble 6 p then (bif Nat.beq p 6 then some (34, 0, 10, 3, []) else none) else (bif Nat.beq p 5 then some (0, 0, 0, 1, []) else none))) else (bif Nat.ble 1 p then (bif Nat.ble 2 p then (bif Nat.beq p 2 then some (24, 0, 9, 3, []) else none) else (bif Nat.beq p 1 then some (0, 0, 1, 1, []) else none)) else (bif Nat.beq p 0 then some (0, 0, 0, 1, []) else none)))
def ca_J9_max_7cf53 (y : Nat) (as : List sl_V) (m : sl_M) : Option (sl_PL × sl_M) := none
def sp_J9_max_7cf53 (p : Nat) : Bool := false
def mk_J9_max_7cf53 (p : Nat) : List Bool := []
def cl_J9_max_7cf53 (p : Nat) : Option sl_C := none
def R_J9_max_7cf53 (ca : Nat → List sl_V → sl_M → Option (sl_PL × sl_M)) : Nat → sl_S → sl_M → Option (sl_PL × sl_M) := sl_B tb_J9_max_7cf53 fl_J9 pf_J9 cl_J9_max_7cf53 nw_J9 sl_rd sl_wr sl_al sl_ln 0 (fun _ => 0) ca sp_J9_max_7cf53 mk_J9_max_7cf53
def F_J9_max_7cf53 (as : List sl_V) (m : sl_M) : Option (sl_PL × sl_M) := R_J9_max_7cf53 ca_J9_max_7cf53 100000 (0, sl_lo 2 as, []) m
def f_J9_max_7cf53 (a0 : Int32) (a1 : Int32) (m : sl_M) : Option (sl_PL × sl_M) := F_J9_max_7cf53 [.inl a0, .inl a1] m
def r_J9_max_7cf53_0 (ca : Nat → List sl_V → sl_M → Option (sl_PL × sl_M)) (n : Nat) (a0 : Int32) (a1 : Int32) (m : sl_M) : Option (sl_PL × sl_M) := R_J9_max_7cf53 ca n (0, sl_lo 2 [.inl a0, .inl a1], []) m
set_option maxRecDepth 100000 in
theorem g_J9_max_7cf53_0 (ca : Nat → List sl_V → sl_M → Option (sl_PL × sl_M)) (n : Nat) (a0 : Int32) (a1 : Int32) (m : sl_M) : r_J9_max_7cf53_0 ca (n + 1) a0 a1 m =
  if a0 < a1 then
    some ((a1, 0, 0), m)
  else
    some ((a0, 0, 0), m) := by rfl
theorem e_J9_max_7cf53 (a0 : Int32) (a1 : Int32) (m : sl_M) : f_J9_max_7cf53 a0 a1 m =
  if a0 < a1 then
    some ((a1, 0, 0), m)
  else
    some ((a0, 0, 0), m) := by
  have h := g_J9_max_7cf53_0 ca_J9_max_7cf53 99999 a0 a1 m
  exact h

def tb_J9_min_7cf53 (p : Nat) : Option sl_E := bif Nat.ble 11 p then none else (bif Nat.ble 5 p then (bif Nat.ble 9 p then (bif Nat.ble 10 p then (bif Nat.beq p 10 then some (47, 0, 1, 1, []) else none) else (bif Nat.beq p 9 then some (0, 0, 1, 1, []) else none)) else (bif Nat.ble 6 p then (bif Nat.beq p 6 then some (34, 0, 10, 3, []) else none) else (bif Nat.beq p 5 then some (0, 0, 0, 1, []) else none))) else (bif Nat.ble 1 p then (bif Nat.ble 2 p then (bif Nat.beq p 2 then some (26, 0, 9, 3, []) else none) else (bif Nat.beq p 1 then some (0, 0, 1, 1, []) else none)) else (bif Nat.beq p 0 then some (0, 0, 0, 1, []) else none)))
def ca_J9_min_7cf53 (y : Nat) (as : List sl_V) (m : sl_M) : Option (sl_PL × sl_M) := none
def sp_J9_min_7cf53 (p : Nat) : Bool := false
def mk_J9_min_7cf53 (p : Nat) : List Bool := []
def cl_J9_min_7cf53 (p : Nat) : Option sl_C := none
def R_J9_min_7cf53 (ca : Nat → List sl_V → sl_M → Option (sl_PL × sl_M)) : Nat → sl_S → sl_M → Option (sl_PL × sl_M) := sl_B tb_J9_min_7cf53 fl_J9 pf_J9 cl_J9_min_7cf53 nw_J9 sl_rd sl_wr sl_al sl_ln 0 (fun _ => 0) ca sp_J9_min_7cf53 mk_J9_min_7cf53
def F_J9_min_7cf53 (as : List sl_V) (m : sl_M) : Option (sl_PL × sl_M) := R_J9_min_7cf53 ca_J9_min_7cf53 100000 (0, sl_lo 2 as, []) m
def f_J9_min_7cf53 (a0 : Int32) (a1 : Int32) (m : sl_M) : Option (sl_PL × sl_M) := F_J9_min_7cf53 [.inl a0, .inl a1] m
def r_J9_min_7cf53_0 (ca : Nat → List sl_V → sl_M → Option (sl_PL × sl_M)) (n : Nat) (a0 : Int32) (a1 : Int32) (m : sl_M) : Option (sl_PL × sl_M) := R_J9_min_7cf53 ca n (0, sl_lo 2 [.inl a0, .inl a1], []) m
set_option maxRecDepth 100000 in
theorem g_J9_min_7cf53_0 (ca : Nat → List sl_V → sl_M → Option (sl_PL × sl_M)) (n : Nat) (a0 : Int32) (a1 : Int32) (m : sl_M) : r_J9_min_7cf53_0 ca (n + 1) a0 a1 m =
  if a1 < a0 then
    some ((a1, 0, 0), m)
  else
    some ((a0, 0, 0), m) := by rfl
theorem e_J9_min_7cf53 (a0 : Int32) (a1 : Int32) (m : sl_M) : f_J9_min_7cf53 a0 a1 m =
  if a1 < a0 then
    some ((a1, 0, 0), m)
  else
    some ((a0, 0, 0), m) := by
  have h := g_J9_min_7cf53_0 ca_J9_min_7cf53 99999 a0 a1 m
  exact h

def tb_X6_cutTo (p : Nat) : Option sl_E := bif Nat.ble 17 p then none else (bif Nat.ble 4 p then (bif Nat.ble 10 p then (bif Nat.ble 13 p then (bif Nat.ble 16 p then (bif Nat.beq p 16 then some (50, 0, 0, 1, []) else none) else (bif Nat.beq p 13 then some (36, 0, 15, 3, []) else none)) else (bif Nat.beq p 10 then some (46, 0, 25, 3, []) else none)) else (bif Nat.ble 7 p then (bif Nat.beq p 7 then some (46, 0, 19, 3, []) else none) else (bif Nat.beq p 4 then some (35, 0, 15, 3, []) else none))) else (bif Nat.ble 2 p then (bif Nat.ble 3 p then (bif Nat.beq p 3 then some (1, 0, 0, 1, []) else none) else (bif Nat.beq p 2 then some (0, 0, 1, 1, []) else none)) else (bif Nat.ble 1 p then (bif Nat.beq p 1 then some (2, 0, 0, 1, []) else none) else (bif Nat.beq p 0 then some (1, 0, 0, 1, []) else none))))
def ca_X6_cutTo (y : Nat) (as : List sl_V) (m : sl_M) : Option (sl_PL × sl_M) := bif Nat.ble 136 y then (bif Nat.beq y 136 then F_J9_min_7cf53 as m else none) else (bif Nat.beq y 135 then F_J9_max_7cf53 as m else none)
def sp_X6_cutTo (p : Nat) : Bool := false
def mk_X6_cutTo (p : Nat) : List Bool := []
def cl_X6_cutTo (p : Nat) : Option sl_C := bif Nat.ble 26 p then none else (bif Nat.ble 25 p then (bif Nat.beq p 25 then some (135, 2, 1, 0, 0, 0) else none) else (bif Nat.beq p 19 then some (136, 2, 1, 0, 0, 0) else none))
def R_X6_cutTo (ca : Nat → List sl_V → sl_M → Option (sl_PL × sl_M)) : Nat → sl_S → sl_M → Option (sl_PL × sl_M) := sl_B tb_X6_cutTo fl_X6 pf_X6 cl_X6_cutTo nw_X6 sl_rd sl_wr sl_al sl_ln 0 (fun _ => 0) ca sp_X6_cutTo mk_X6_cutTo
def F_X6_cutTo (as : List sl_V) (m : sl_M) : Option (sl_PL × sl_M) := R_X6_cutTo ca_X6_cutTo 100000 (0, sl_lo 2 as, []) m
def f_X6_cutTo (this : Nat) (a0 : Int32) (m : sl_M) : Option (sl_PL × sl_M) := F_X6_cutTo [.inr (.inl (some (6, this))), .inl a0] m
def r_X6_cutTo_0 (ca : Nat → List sl_V → sl_M → Option (sl_PL × sl_M)) (n : Nat) (this : Nat) (a0 : Int32) (m : sl_M) : Option (sl_PL × sl_M) := R_X6_cutTo ca n (0, sl_lo 2 [.inr (.inl (some (6, this))), .inl a0], []) m
set_option maxRecDepth 100000 in
theorem g_X6_cutTo_0 (ca : Nat → List sl_V → sl_M → Option (sl_PL × sl_M)) (n : Nat) (this : Nat) (a0 : Int32) (m : sl_M) : r_X6_cutTo_0 ca (n + 1) this a0 m =
  (ca 136 [.inl a0, .inl (m.1 6 this 1)] m).bind (fun q1 =>
  (ca 135 [.inl (0 : Int32), .inl q1.1.1] q1.2).bind (fun q2 =>
  some ((0, 0, 0), (sl_up q2.2 6 this 1 q2.1.1)))) := by rfl
theorem cq_X6_cutTo_J9_max_7cf53 (a0 : Int32) (a1 : Int32) (m : sl_M) : ca_X6_cutTo 135 [.inl a0, .inl a1] m = f_J9_max_7cf53 a0 a1 m := by
  unfold ca_X6_cutTo f_J9_max_7cf53
  rw [show Nat.ble 136 135 = false from rfl, cond_false, show Nat.beq 135 135 = true from rfl, cond_true]
theorem cq_X6_cutTo_J9_min_7cf53 (a0 : Int32) (a1 : Int32) (m : sl_M) : ca_X6_cutTo 136 [.inl a0, .inl a1] m = f_J9_min_7cf53 a0 a1 m := by
  unfold ca_X6_cutTo f_J9_min_7cf53
  rw [show Nat.ble 136 136 = true from rfl, cond_true, show Nat.beq 136 136 = true from rfl, cond_true]
theorem e_X6_cutTo (this : Nat) (a0 : Int32) (m : sl_M) : f_X6_cutTo this a0 m =
  (f_J9_min_7cf53 a0 (m.1 6 this 1) m).bind (fun q1 =>
  (f_J9_max_7cf53 (0 : Int32) q1.1.1 q1.2).bind (fun q2 =>
  some ((0, 0, 0), (sl_up q2.2 6 this 1 q2.1.1)))) := by
  have h := g_X6_cutTo_0 ca_X6_cutTo 99999 this a0 m
  simp only [cq_X6_cutTo_J9_max_7cf53, cq_X6_cutTo_J9_min_7cf53] at h
  exact h

def tb_X7_layPiece (p : Nat) : Option sl_E := bif Nat.ble 53 p then none else (bif Nat.ble 26 p then (bif Nat.ble 39 p then (bif Nat.ble 45 p then (bif Nat.ble 49 p then (bif Nat.ble 52 p then (bif Nat.beq p 52 then some (50, 0, 0, 1, []) else none) else (bif Nat.beq p 49 then some (46, 0, 117, 3, []) else none)) else (bif Nat.ble 48 p then (bif Nat.beq p 48 then some (0, 0, 2, 1, []) else none) else (bif Nat.beq p 45 then some (35, 0, 42, 3, []) else none))) else (bif Nat.ble 41 p then (bif Nat.ble 44 p then (bif Nat.beq p 44 then some (1, 0, 0, 1, []) else none) else (bif Nat.beq p 41 then some (46, 0, 113, 3, []) else none)) else (bif Nat.ble 40 p then (bif Nat.beq p 40 then some (37, 0, 0, 1, []) else none) else (bif Nat.beq p 39 then some (0, 0, 3, 1, []) else none)))) else (bif Nat.ble 33 p then (bif Nat.ble 35 p then (bif Nat.ble 36 p then (bif Nat.beq p 36 then some (35, 0, 24, 3, []) else none) else (bif Nat.beq p 35 then some (1, 0, 0, 1, []) else none)) else (bif Nat.ble 34 p then (bif Nat.beq p 34 then some (37, 0, 0, 1, []) else none) else (bif Nat.beq p 33 then some (0, 0, 3, 1, []) else none))) else (bif Nat.ble 29 p then (bif Nat.ble 30 p then (bif Nat.beq p 30 then some (35, 0, 20, 3, []) else none) else (bif Nat.beq p 29 then some (1, 0, 0, 1, []) else none)) else (bif Nat.beq p 26 then some (35, 0, 14, 3, []) else none)))) else (bif Nat.ble 10 p then (bif Nat.ble 18 p then (bif Nat.ble 23 p then (bif Nat.ble 25 p then (bif Nat.beq p 25 then some (1, 0, 0, 1, []) else none) else (bif Nat.beq p 23 then some (1, 0, 4, 2, []) else none)) else (bif Nat.ble 21 p then (bif Nat.beq p 21 then some (4, 0, 4, 2, []) else none) else (bif Nat.beq p 18 then some (46, 0, 107, 3, []) else none))) else (bif Nat.ble 14 p then (bif Nat.ble 15 p then (bif Nat.beq p 15 then some (46, 0, 103, 3, []) else none) else (bif Nat.beq p 14 then some (0, 0, 1, 1, []) else none)) else (bif Nat.ble 11 p then (bif Nat.beq p 11 then some (35, 0, 34, 3, []) else none) else (bif Nat.beq p 10 then some (1, 0, 0, 1, []) else none)))) else (bif Nat.ble 4 p then (bif Nat.ble 6 p then (bif Nat.ble 9 p then (bif Nat.beq p 9 then some (2, 0, 0, 1, []) else none) else (bif Nat.beq p 6 then some (35, 0, 42, 3, []) else none)) else (bif Nat.ble 5 p then (bif Nat.beq p 5 then some (1, 0, 0, 1, []) else none) else (bif Nat.beq p 4 then some (3, 0, 3, 1, []) else none))) else (bif Nat.ble 1 p then (bif Nat.ble 3 p then (bif Nat.beq p 3 then some (11, 0, 0, 1, []) else none) else (bif Nat.beq p 1 then some (2, 63, 0, 2, []) else none)) else (bif Nat.beq p 0 then some (0, 0, 1, 1, []) else none)))))
def ca_X7_layPiece (y : Nat) (as : List sl_V) (m : sl_M) : Option (sl_PL × sl_M) := bif Nat.ble 39 y then (bif Nat.ble 55 y then (bif Nat.beq y 55 then F_X8_inRing as m else none) else (bif Nat.beq y 39 then F_X6_addPart as m else none)) else (bif Nat.ble 23 y then (bif Nat.beq y 23 then F_X4_lay as m else none) else (bif Nat.beq y 22 then F_X4_startBody as m else none))
def sp_X7_layPiece (p : Nat) : Bool := false
def mk_X7_layPiece (p : Nat) : List Bool := []
def cl_X7_layPiece (p : Nat) : Option sl_C := bif Nat.ble 118 p then none else (bif Nat.ble 113 p then (bif Nat.ble 117 p then (bif Nat.beq p 117 then some (23, 2, 0, 0, 0, 5) else none) else (bif Nat.beq p 113 then some (39, 4, 0, 0, 0, 7) else none)) else (bif Nat.ble 107 p then (bif Nat.beq p 107 then some (22, 3, 2, 6, 0, 5) else none) else (bif Nat.beq p 103 then some (55, 2, 1, 0, 0, 9) else none)))
def R_X7_layPiece (ca : Nat → List sl_V → sl_M → Option (sl_PL × sl_M)) : Nat → sl_S → sl_M → Option (sl_PL × sl_M) := sl_B tb_X7_layPiece fl_X7 pf_X7 cl_X7_layPiece nw_X7 sl_rd sl_wr sl_al sl_ln 0 (fun _ => 0) ca sp_X7_layPiece mk_X7_layPiece
def F_X7_layPiece (as : List sl_V) (m : sl_M) : Option (sl_PL × sl_M) := R_X7_layPiece ca_X7_layPiece 100000 (0, sl_lo 5 as, []) m
def f_X7_layPiece (this : Nat) (a0 : Int32) (a1 : Int32) (m : sl_M) : Option (sl_PL × sl_M) := F_X7_layPiece [.inr (.inl (some (7, this))), .inl a0, .inl a1] m
def r_X7_layPiece_0 (ca : Nat → List sl_V → sl_M → Option (sl_PL × sl_M)) (n : Nat) (this : Nat) (a0 : Int32) (a1 : Int32) (m : sl_M) : Option (sl_PL × sl_M) := R_X7_layPiece ca n (0, sl_lo 5 [.inr (.inl (some (7, this))), .inl a0, .inl a1], []) m
set_option maxRecDepth 100000 in
theorem g_X7_layPiece_0 (ca : Nat → List sl_V → sl_M → Option (sl_PL × sl_M)) (n : Nat) (this : Nat) (a0 : Int32) (a1 : Int32) (m : sl_M) : r_X7_layPiece_0 ca (n + 1) this a0 a1 m =
  (ca 55 [.inr (.inl (some (8, 0))), .inl a0] m).bind (fun q1 =>
  (ca 22 [.inr (.inl (some (4, this))), .inl (0 : Int32), .inl q1.1.1] q1.2).bind (fun q2 =>
  if 0 ≤ (a0 &&& (63 : Int32)) ∧ (a0 &&& (63 : Int32)).toNatClampNeg < 64 then
  if 0 ≤ (a0 &&& (63 : Int32)) ∧ (a0 &&& (63 : Int32)).toNatClampNeg < 64 then
  (ca 39 [.inr (.inl (some (6, q2.1.2.1))), .inr (.inl (some (6, (4 + this)))), .inl (q2.2.1 23 this ((a0 &&& (63 : Int32)).toNatClampNeg)), .inl (q2.2.1 24 this ((a0 &&& (63 : Int32)).toNatClampNeg))] q2.2).bind (fun q3 =>
  (ca 23 [.inr (.inl (some (4, this))), .inl a1] q3.2).bind (fun q4 =>
  some ((0, 0, 0), q4.2)))
  else none
  else none)) := by rfl
theorem cq_X7_layPiece_X4_startBody (this : Nat) (a0 : Int32) (a1 : Int32) (m : sl_M) : ca_X7_layPiece 22 [.inr (.inl (some (4, this))), .inl a0, .inl a1] m = f_X4_startBody this a0 a1 m := by
  unfold ca_X7_layPiece f_X4_startBody
  rw [show Nat.ble 39 22 = false from rfl, cond_false, show Nat.ble 23 22 = false from rfl, cond_false, show Nat.beq 22 22 = true from rfl, cond_true]
theorem cq_X7_layPiece_X4_lay (this : Nat) (a0 : Int32) (m : sl_M) : ca_X7_layPiece 23 [.inr (.inl (some (4, this))), .inl a0] m = f_X4_lay this a0 m := by
  unfold ca_X7_layPiece f_X4_lay
  rw [show Nat.ble 39 23 = false from rfl, cond_false, show Nat.ble 23 23 = true from rfl, cond_true, show Nat.beq 23 23 = true from rfl, cond_true]
theorem cq_X7_layPiece_X6_addPart (this : Nat) (a0 : Nat) (a1 : Int32) (a2 : Int32) (m : sl_M) : ca_X7_layPiece 39 [.inr (.inl (some (6, this))), .inr (.inl (some (6, a0))), .inl a1, .inl a2] m = f_X6_addPart this a0 a1 a2 m := by
  unfold ca_X7_layPiece f_X6_addPart
  rw [show Nat.ble 39 39 = true from rfl, cond_true, show Nat.ble 55 39 = false from rfl, cond_false, show Nat.beq 39 39 = true from rfl, cond_true]
theorem cq_X7_layPiece_X8_inRing (a0 : Int32) (m : sl_M) : ca_X7_layPiece 55 [.inr (.inl (some (8, 0))), .inl a0] m = f_X8_inRing a0 m := by
  unfold ca_X7_layPiece f_X8_inRing
  rw [show Nat.ble 39 55 = true from rfl, cond_true, show Nat.ble 55 55 = true from rfl, cond_true, show Nat.beq 55 55 = true from rfl, cond_true]
theorem e_X7_layPiece (this : Nat) (a0 : Int32) (a1 : Int32) (m : sl_M) : f_X7_layPiece this a0 a1 m =
  (f_X8_inRing a0 m).bind (fun q1 =>
  (f_X4_startBody this (0 : Int32) q1.1.1 q1.2).bind (fun q2 =>
  if 0 ≤ (a0 &&& (63 : Int32)) ∧ (a0 &&& (63 : Int32)).toNatClampNeg < 64 then
  if 0 ≤ (a0 &&& (63 : Int32)) ∧ (a0 &&& (63 : Int32)).toNatClampNeg < 64 then
  (f_X6_addPart q2.1.2.1 (4 + this) (q2.2.1 23 this ((a0 &&& (63 : Int32)).toNatClampNeg)) (q2.2.1 24 this ((a0 &&& (63 : Int32)).toNatClampNeg)) q2.2).bind (fun q3 =>
  (f_X4_lay this a1 q3.2).bind (fun q4 =>
  some ((0, 0, 0), q4.2)))
  else none
  else none)) := by
  have h := g_X7_layPiece_0 ca_X7_layPiece 99999 this a0 a1 m
  simp only [cq_X7_layPiece_X4_startBody, cq_X7_layPiece_X4_lay, cq_X7_layPiece_X6_addPart, cq_X7_layPiece_X8_inRing] at h
  exact h

def tb_X7_layAllIfLate (p : Nat) : Option sl_E := bif Nat.ble 75 p then none else (bif Nat.ble 35 p then (bif Nat.ble 57 p then (bif Nat.ble 66 p then (bif Nat.ble 70 p then (bif Nat.ble 73 p then (bif Nat.ble 74 p then (bif Nat.beq p 74 then some (47, 0, 1, 1, []) else none) else (bif Nat.beq p 73 then some (7, 0, 0, 1, []) else none)) else (bif Nat.beq p 70 then some (35, 0, 59, 3, []) else none)) else (bif Nat.ble 69 p then (bif Nat.beq p 69 then some (1, 0, 0, 1, []) else none) else (bif Nat.beq p 66 then some (35, 0, 62, 3, []) else none))) else (bif Nat.ble 59 p then (bif Nat.ble 62 p then (bif Nat.ble 65 p then (bif Nat.beq p 65 then some (1, 0, 0, 1, []) else none) else (bif Nat.beq p 62 then some (36, 0, 56, 3, []) else none)) else (bif Nat.beq p 59 then some (35, 0, 53, 3, []) else none)) else (bif Nat.ble 58 p then (bif Nat.beq p 58 then some (1, 0, 0, 1, []) else none) else (bif Nat.beq p 57 then some (1, 0, 0, 1, []) else none)))) else (bif Nat.ble 46 p then (bif Nat.ble 50 p then (bif Nat.ble 51 p then (bif Nat.ble 54 p then (bif Nat.beq p 54 then some (25, 0, 65, 3, []) else none) else (bif Nat.beq p 51 then some (35, 0, 62, 3, []) else none)) else (bif Nat.beq p 50 then some (1, 0, 0, 1, []) else none)) else (bif Nat.ble 47 p then (bif Nat.beq p 47 then some (35, 0, 59, 3, []) else none) else (bif Nat.beq p 46 then some (1, 0, 0, 1, []) else none))) else (bif Nat.ble 37 p then (bif Nat.ble 40 p then (bif Nat.ble 43 p then (bif Nat.beq p 43 then some (34, 0, 26, 3, []) else none) else (bif Nat.beq p 40 then some (5, 1, 1, 3, []) else none)) else (bif Nat.beq p 37 then some (46, 0, 90, 3, []) else none)) else (bif Nat.ble 36 p then (bif Nat.beq p 36 then some (2, 1, 0, 1, []) else none) else (bif Nat.beq p 35 then some (0, 0, 1, 1, []) else none))))) else (bif Nat.ble 19 p then (bif Nat.ble 26 p then (bif Nat.ble 28 p then (bif Nat.ble 31 p then (bif Nat.ble 34 p then (bif Nat.beq p 34 then some (1, 0, 0, 1, []) else none) else (bif Nat.beq p 31 then some (25, 0, 46, 3, []) else none)) else (bif Nat.beq p 28 then some (35, 0, 62, 3, []) else none)) else (bif Nat.ble 27 p then (bif Nat.beq p 27 then some (1, 0, 0, 1, []) else none) else (bif Nat.beq p 26 then some (0, 0, 1, 1, []) else none))) else (bif Nat.ble 21 p then (bif Nat.ble 22 p then (bif Nat.ble 25 p then (bif Nat.beq p 25 then some (3, 0, 1, 1, []) else none) else (bif Nat.beq p 22 then some (35, 0, 59, 3, []) else none)) else (bif Nat.beq p 21 then some (1, 0, 0, 1, []) else none)) else (bif Nat.ble 20 p then (bif Nat.beq p 20 then some (47, 0, 1, 1, []) else none) else (bif Nat.beq p 19 then some (2, 0, 0, 1, []) else none)))) else (bif Nat.ble 8 p then (bif Nat.ble 10 p then (bif Nat.ble 13 p then (bif Nat.ble 16 p then (bif Nat.beq p 16 then some (25, 0, 21, 3, []) else none) else (bif Nat.beq p 13 then some (35, 0, 87, 3, []) else none)) else (bif Nat.beq p 10 then some (35, 0, 34, 3, []) else none)) else (bif Nat.ble 9 p then (bif Nat.beq p 9 then some (1, 0, 0, 1, []) else none) else (bif Nat.beq p 8 then some (7, 0, 0, 1, []) else none))) else (bif Nat.ble 4 p then (bif Nat.ble 5 p then (bif Nat.beq p 5 then some (35, 0, 56, 3, []) else none) else (bif Nat.beq p 4 then some (1, 0, 0, 1, []) else none)) else (bif Nat.ble 1 p then (bif Nat.beq p 1 then some (35, 0, 53, 3, []) else none) else (bif Nat.beq p 0 then some (1, 0, 0, 1, []) else none))))))
def ca_X7_layAllIfLate (y : Nat) (as : List sl_V) (m : sl_M) : Option (sl_PL × sl_M) := bif Nat.beq y 46 then F_X7_layPiece as m else none
def sp_X7_layAllIfLate (p : Nat) : Bool := Nat.beq p 26
def mk_X7_layAllIfLate (p : Nat) : List Bool := bif Nat.beq p 26 then [true, true] else []
def cl_X7_layAllIfLate (p : Nat) : Option sl_C := bif Nat.ble 91 p then none else (bif Nat.beq p 90 then some (46, 3, 0, 0, 0, 8) else none)
def R_X7_layAllIfLate (ca : Nat → List sl_V → sl_M → Option (sl_PL × sl_M)) : Nat → sl_S → sl_M → Option (sl_PL × sl_M) := sl_B tb_X7_layAllIfLate fl_X7 pf_X7 cl_X7_layAllIfLate nw_X7 sl_rd sl_wr sl_al sl_ln 0 (fun _ => 0) ca sp_X7_layAllIfLate mk_X7_layAllIfLate
def F_X7_layAllIfLate (as : List sl_V) (m : sl_M) : Option (sl_PL × sl_M) := R_X7_layAllIfLate ca_X7_layAllIfLate 100000 (0, sl_lo 2 as, []) m
def f_X7_layAllIfLate (this : Nat) (m : sl_M) : Option (sl_PL × sl_M) := F_X7_layAllIfLate [.inr (.inl (some (7, this)))] m
def r_X7_layAllIfLate_0 (ca : Nat → List sl_V → sl_M → Option (sl_PL × sl_M)) (n : Nat) (this : Nat) (m : sl_M) : Option (sl_PL × sl_M) := R_X7_layAllIfLate ca n (0, sl_lo 2 [.inr (.inl (some (7, this)))], []) m
def r_X7_layAllIfLate_26 (ca : Nat → List sl_V → sl_M → Option (sl_PL × sl_M)) (n : Nat) (v0 : Nat) (v1 : Int32) (m : sl_M) : Option (sl_PL × sl_M) := R_X7_layAllIfLate ca n (26, [some (.inr (.inl (some (7, v0)))), some (.inl v1)], []) m
def b_X7_layAllIfLate_26 (n : Nat) (v0 : Nat) (v1 : Int32) (m : sl_M) : Option (sl_PL × sl_M) := r_X7_layAllIfLate_26 ca_X7_layAllIfLate n v0 v1 m
set_option maxRecDepth 100000 in
theorem g_X7_layAllIfLate_0 (ca : Nat → List sl_V → sl_M → Option (sl_PL × sl_M)) (n : Nat) (this : Nat) (m : sl_M) : r_X7_layAllIfLate_0 ca (n + 1) this m =
  if (m.1 8 0 4) ≤ ((m.1 7 this 5) - (m.1 7 this 6)) then
    r_X7_layAllIfLate_26 ca n this (m.1 7 this 7) m
  else
    some (((0 : Int32), 0, 0), m) := by rfl
set_option maxRecDepth 100000 in
theorem g_X7_layAllIfLate_26 (ca : Nat → List sl_V → sl_M → Option (sl_PL × sl_M)) (n : Nat) (v0 : Nat) (v1 : Int32) (m : sl_M) : r_X7_layAllIfLate_26 ca (n + 1) v0 v1 m =
  if (m.1 7 v0 8) ≤ v1 then
    if (m.1 7 v0 8) ≤ (m.1 7 v0 7) then
      some ((((m.1 7 v0 8) - (m.1 7 v0 7)), 0, 0), m)
    else
      some ((((m.1 7 v0 8) - (m.1 7 v0 7)), 0, 0), (sl_up m 7 v0 6 (m.1 7 v0 5)))
  else
    (ca 46 [.inr (.inl (some (7, v0))), .inl v1, .inl (1 : Int32)] m).bind (fun q1 =>
    r_X7_layAllIfLate_26 ca n v0 (v1 + (1 : Int32)) q1.2) := by rfl
theorem cq_X7_layAllIfLate_X7_layPiece (this : Nat) (a0 : Int32) (a1 : Int32) (m : sl_M) : ca_X7_layAllIfLate 46 [.inr (.inl (some (7, this))), .inl a0, .inl a1] m = f_X7_layPiece this a0 a1 m := by
  unfold ca_X7_layAllIfLate f_X7_layPiece
  rw [show Nat.beq 46 46 = true from rfl, cond_true]
theorem bq_X7_layAllIfLate_26 (n : Nat) (v0 : Nat) (v1 : Int32) (m : sl_M) : r_X7_layAllIfLate_26 ca_X7_layAllIfLate n v0 v1 m = b_X7_layAllIfLate_26 n v0 v1 m := rfl
theorem e_X7_layAllIfLate (this : Nat) (m : sl_M) : f_X7_layAllIfLate this m =
  if (m.1 8 0 4) ≤ ((m.1 7 this 5) - (m.1 7 this 6)) then
    b_X7_layAllIfLate_26 99999 this (m.1 7 this 7) m
  else
    some (((0 : Int32), 0, 0), m) := by
  have h := g_X7_layAllIfLate_0 ca_X7_layAllIfLate 99999 this m
  simp only [cq_X7_layAllIfLate_X7_layPiece, bq_X7_layAllIfLate_26] at h
  exact h
theorem e_X7_layAllIfLate_26 (n : Nat) (v0 : Nat) (v1 : Int32) (m : sl_M) : b_X7_layAllIfLate_26 (n + 1) v0 v1 m =
  if (m.1 7 v0 8) ≤ v1 then
    if (m.1 7 v0 8) ≤ (m.1 7 v0 7) then
      some ((((m.1 7 v0 8) - (m.1 7 v0 7)), 0, 0), m)
    else
      some ((((m.1 7 v0 8) - (m.1 7 v0 7)), 0, 0), (sl_up m 7 v0 6 (m.1 7 v0 5)))
  else
    (f_X7_layPiece v0 v1 (1 : Int32) m).bind (fun q1 =>
    b_X7_layAllIfLate_26 n v0 (v1 + (1 : Int32)) q1.2) := by
  have h := g_X7_layAllIfLate_26 ca_X7_layAllIfLate n v0 v1 m
  simp only [cq_X7_layAllIfLate_X7_layPiece, bq_X7_layAllIfLate_26] at h
  exact h

def tb_X7_layLateOnes (p : Nat) : Option sl_E := bif Nat.ble 77 p then none else (bif Nat.ble 37 p then (bif Nat.ble 56 p then (bif Nat.ble 65 p then (bif Nat.ble 72 p then (bif Nat.ble 75 p then (bif Nat.ble 76 p then (bif Nat.beq p 76 then some (47, 0, 1, 1, []) else none) else (bif Nat.beq p 75 then some (0, 0, 1, 1, []) else none)) else (bif Nat.beq p 72 then some (34, 0, 7, 3, []) else none)) else (bif Nat.ble 66 p then (bif Nat.ble 69 p then (bif Nat.beq p 69 then some (5, 1, 2, 3, []) else none) else (bif Nat.beq p 66 then some (5, 1, 1, 3, []) else none)) else (bif Nat.beq p 65 then some (41, 0, 0, 1, []) else none))) else (bif Nat.ble 60 p then (bif Nat.ble 61 p then (bif Nat.ble 62 p then (bif Nat.beq p 62 then some (35, 0, 53, 3, []) else none) else (bif Nat.beq p 61 then some (1, 0, 0, 1, []) else none)) else (bif Nat.beq p 60 then some (0, 0, 3, 1, []) else none)) else (bif Nat.ble 57 p then (bif Nat.beq p 57 then some (35, 0, 27, 3, []) else none) else (bif Nat.beq p 56 then some (1, 0, 0, 1, []) else none)))) else (bif Nat.ble 44 p then (bif Nat.ble 51 p then (bif Nat.ble 52 p then (bif Nat.ble 53 p then (bif Nat.beq p 53 then some (46, 0, 90, 3, []) else none) else (bif Nat.beq p 52 then some (2, 1, 0, 1, []) else none)) else (bif Nat.beq p 51 then some (0, 0, 2, 1, []) else none)) else (bif Nat.ble 47 p then (bif Nat.ble 50 p then (bif Nat.beq p 50 then some (1, 0, 0, 1, []) else none) else (bif Nat.beq p 47 then some (24, 0, 69, 3, []) else none)) else (bif Nat.beq p 44 then some (35, 0, 87, 3, []) else none))) else (bif Nat.ble 39 p then (bif Nat.ble 40 p then (bif Nat.ble 41 p then (bif Nat.beq p 41 then some (35, 0, 34, 3, []) else none) else (bif Nat.beq p 40 then some (1, 0, 0, 1, []) else none)) else (bif Nat.beq p 39 then some (7, 0, 0, 1, []) else none)) else (bif Nat.ble 38 p then (bif Nat.beq p 38 then some (37, 0, 0, 1, []) else none) else (bif Nat.beq p 37 then some (0, 0, 3, 1, []) else none))))) else (bif Nat.ble 18 p then (bif Nat.ble 25 p then (bif Nat.ble 30 p then (bif Nat.ble 33 p then (bif Nat.ble 34 p then (bif Nat.beq p 34 then some (35, 0, 27, 3, []) else none) else (bif Nat.beq p 33 then some (1, 0, 0, 1, []) else none)) else (bif Nat.beq p 30 then some (35, 0, 53, 3, []) else none)) else (bif Nat.ble 26 p then (bif Nat.ble 29 p then (bif Nat.beq p 29 then some (1, 0, 0, 1, []) else none) else (bif Nat.beq p 26 then some (29, 0, 69, 3, []) else none)) else (bif Nat.beq p 25 then some (38, 0, 0, 1, []) else none))) else (bif Nat.ble 20 p then (bif Nat.ble 21 p then (bif Nat.ble 24 p then (bif Nat.beq p 24 then some (0, 0, 3, 1, []) else none) else (bif Nat.beq p 21 then some (35, 0, 30, 3, []) else none)) else (bif Nat.beq p 20 then some (1, 0, 0, 1, []) else none)) else (bif Nat.ble 19 p then (bif Nat.beq p 19 then some (3, 0, 3, 1, []) else none) else (bif Nat.beq p 18 then some (11, 0, 0, 1, []) else none)))) else (bif Nat.ble 7 p then (bif Nat.ble 12 p then (bif Nat.ble 15 p then (bif Nat.ble 16 p then (bif Nat.beq p 16 then some (2, 63, 0, 2, []) else none) else (bif Nat.beq p 15 then some (0, 0, 2, 1, []) else none)) else (bif Nat.beq p 12 then some (25, 0, 75, 3, []) else none)) else (bif Nat.ble 8 p then (bif Nat.ble 9 p then (bif Nat.beq p 9 then some (35, 0, 62, 3, []) else none) else (bif Nat.beq p 8 then some (1, 0, 0, 1, []) else none)) else (bif Nat.beq p 7 then some (0, 0, 2, 1, []) else none))) else (bif Nat.ble 2 p then (bif Nat.ble 3 p then (bif Nat.ble 6 p then (bif Nat.beq p 6 then some (3, 0, 2, 1, []) else none) else (bif Nat.beq p 3 then some (35, 0, 59, 3, []) else none)) else (bif Nat.beq p 2 then some (1, 0, 0, 1, []) else none)) else (bif Nat.ble 1 p then (bif Nat.beq p 1 then some (3, 0, 1, 1, []) else none) else (bif Nat.beq p 0 then some (2, 0, 0, 1, []) else none))))))
def ca_X7_layLateOnes (y : Nat) (as : List sl_V) (m : sl_M) : Option (sl_PL × sl_M) := bif Nat.beq y 46 then F_X7_layPiece as m else none
def sp_X7_layLateOnes (p : Nat) : Bool := Nat.beq p 7
def mk_X7_layLateOnes (p : Nat) : List Bool := bif Nat.beq p 7 then [true, true, true, false] else []
def cl_X7_layLateOnes (p : Nat) : Option sl_C := bif Nat.ble 91 p then none else (bif Nat.beq p 90 then some (46, 3, 0, 0, 0, 8) else none)
def R_X7_layLateOnes (ca : Nat → List sl_V → sl_M → Option (sl_PL × sl_M)) : Nat → sl_S → sl_M → Option (sl_PL × sl_M) := sl_B tb_X7_layLateOnes fl_X7 pf_X7 cl_X7_layLateOnes nw_X7 sl_rd sl_wr sl_al sl_ln 0 (fun _ => 0) ca sp_X7_layLateOnes mk_X7_layLateOnes
def F_X7_layLateOnes (as : List sl_V) (m : sl_M) : Option (sl_PL × sl_M) := R_X7_layLateOnes ca_X7_layLateOnes 100000 (0, sl_lo 4 as, []) m
def f_X7_layLateOnes (this : Nat) (m : sl_M) : Option (sl_PL × sl_M) := F_X7_layLateOnes [.inr (.inl (some (7, this)))] m
def r_X7_layLateOnes_0 (ca : Nat → List sl_V → sl_M → Option (sl_PL × sl_M)) (n : Nat) (this : Nat) (m : sl_M) : Option (sl_PL × sl_M) := R_X7_layLateOnes ca n (0, sl_lo 4 [.inr (.inl (some (7, this)))], []) m
def r_X7_layLateOnes_7 (ca : Nat → List sl_V → sl_M → Option (sl_PL × sl_M)) (n : Nat) (v0 : Nat) (v1 : Int32) (v2 : Int32) (m : sl_M) : Option (sl_PL × sl_M) := R_X7_layLateOnes ca n (7, [some (.inr (.inl (some (7, v0)))), some (.inl v1), some (.inl v2), none], []) m
def b_X7_layLateOnes_7 (n : Nat) (v0 : Nat) (v1 : Int32) (v2 : Int32) (m : sl_M) : Option (sl_PL × sl_M) := r_X7_layLateOnes_7 ca_X7_layLateOnes n v0 v1 v2 m
set_option maxRecDepth 100000 in
theorem g_X7_layLateOnes_0 (ca : Nat → List sl_V → sl_M → Option (sl_PL × sl_M)) (n : Nat) (this : Nat) (m : sl_M) : r_X7_layLateOnes_0 ca (n + 1) this m =
  r_X7_layLateOnes_7 ca n this (0 : Int32) (m.1 7 this 7) m := by rfl
set_option maxRecDepth 100000 in
theorem g_X7_layLateOnes_7 (ca : Nat → List sl_V → sl_M → Option (sl_PL × sl_M)) (n : Nat) (v0 : Nat) (v1 : Int32) (v2 : Int32) (m : sl_M) : r_X7_layLateOnes_7 ca (n + 1) v0 v1 v2 m =
  if (m.1 7 v0 8) ≤ v2 then
    some ((v1, 0, 0), m)
  else
    if 0 ≤ (v2 &&& (63 : Int32)) ∧ (v2 &&& (63 : Int32)).toNatClampNeg < 64 then
    if ((m.1 26 v0 ((v2 &&& (63 : Int32)).toNatClampNeg)) &&& 1) = 0 then
      if 0 ≤ (v2 &&& (63 : Int32)) ∧ (v2 &&& (63 : Int32)).toNatClampNeg < 64 then
      if ((m.1 7 v0 5) - (m.1 25 v0 ((v2 &&& (63 : Int32)).toNatClampNeg))) < (m.1 8 0 4) then
        r_X7_layLateOnes_7 ca n v0 v1 (v2 + (1 : Int32)) m
      else
        (ca 46 [.inr (.inl (some (7, v0))), .inl v2, .inl (1 : Int32)] m).bind (fun q1 =>
        if 0 ≤ (v2 &&& (63 : Int32)) ∧ (v2 &&& (63 : Int32)).toNatClampNeg < 64 then
        r_X7_layLateOnes_7 ca n v0 (v1 + (1 : Int32)) (v2 + (1 : Int32)) (sl_up q1.2 25 v0 ((v2 &&& (63 : Int32)).toNatClampNeg) (q1.2.1 7 v0 5))
        else none)
      else none
    else
      r_X7_layLateOnes_7 ca n v0 v1 (v2 + (1 : Int32)) m
    else none := by rfl
theorem cq_X7_layLateOnes_X7_layPiece (this : Nat) (a0 : Int32) (a1 : Int32) (m : sl_M) : ca_X7_layLateOnes 46 [.inr (.inl (some (7, this))), .inl a0, .inl a1] m = f_X7_layPiece this a0 a1 m := by
  unfold ca_X7_layLateOnes f_X7_layPiece
  rw [show Nat.beq 46 46 = true from rfl, cond_true]
theorem bq_X7_layLateOnes_7 (n : Nat) (v0 : Nat) (v1 : Int32) (v2 : Int32) (m : sl_M) : r_X7_layLateOnes_7 ca_X7_layLateOnes n v0 v1 v2 m = b_X7_layLateOnes_7 n v0 v1 v2 m := rfl
theorem e_X7_layLateOnes (this : Nat) (m : sl_M) : f_X7_layLateOnes this m =
  b_X7_layLateOnes_7 99999 this (0 : Int32) (m.1 7 this 7) m := by
  have h := g_X7_layLateOnes_0 ca_X7_layLateOnes 99999 this m
  simp only [cq_X7_layLateOnes_X7_layPiece, bq_X7_layLateOnes_7] at h
  exact h
theorem e_X7_layLateOnes_7 (n : Nat) (v0 : Nat) (v1 : Int32) (v2 : Int32) (m : sl_M) : b_X7_layLateOnes_7 (n + 1) v0 v1 v2 m =
  if (m.1 7 v0 8) ≤ v2 then
    some ((v1, 0, 0), m)
  else
    if 0 ≤ (v2 &&& (63 : Int32)) ∧ (v2 &&& (63 : Int32)).toNatClampNeg < 64 then
    if ((m.1 26 v0 ((v2 &&& (63 : Int32)).toNatClampNeg)) &&& 1) = 0 then
      if 0 ≤ (v2 &&& (63 : Int32)) ∧ (v2 &&& (63 : Int32)).toNatClampNeg < 64 then
      if ((m.1 7 v0 5) - (m.1 25 v0 ((v2 &&& (63 : Int32)).toNatClampNeg))) < (m.1 8 0 4) then
        b_X7_layLateOnes_7 n v0 v1 (v2 + (1 : Int32)) m
      else
        (f_X7_layPiece v0 v2 (1 : Int32) m).bind (fun q1 =>
        if 0 ≤ (v2 &&& (63 : Int32)) ∧ (v2 &&& (63 : Int32)).toNatClampNeg < 64 then
        b_X7_layLateOnes_7 n v0 (v1 + (1 : Int32)) (v2 + (1 : Int32)) (sl_up q1.2 25 v0 ((v2 &&& (63 : Int32)).toNatClampNeg) (q1.2.1 7 v0 5))
        else none)
      else none
    else
      b_X7_layLateOnes_7 n v0 v1 (v2 + (1 : Int32)) m
    else none := by
  have h := g_X7_layLateOnes_7 ca_X7_layLateOnes n v0 v1 v2 m
  simp only [cq_X7_layLateOnes_X7_layPiece, bq_X7_layLateOnes_7] at h
  exact h
