def tb_X6_at (p : Nat) : Option sl_E := bif Nat.ble 36 p then none else (bif Nat.ble 18 p then (bif Nat.ble 27 p then (bif Nat.ble 31 p then (bif Nat.ble 34 p then (bif Nat.ble 35 p then (bif Nat.beq p 35 then some (47, 0, 1, 1, []) else none) else (bif Nat.beq p 34 then some (2, (-1), 0, 1, []) else none)) else (bif Nat.beq p 31 then some (34, 0, 35, 3, []) else none)) else (bif Nat.ble 30 p then (bif Nat.beq p 30 then some (11, 0, 0, 1, []) else none) else (bif Nat.beq p 27 then some (2, 255, 0, 3, []) else none))) else (bif Nat.ble 22 p then (bif Nat.ble 25 p then (bif Nat.ble 26 p then (bif Nat.beq p 26 then some (38, 0, 0, 1, []) else none) else (bif Nat.beq p 25 then some (0, 0, 1, 1, []) else none)) else (bif Nat.beq p 22 then some (35, 0, 9, 3, []) else none)) else (bif Nat.ble 21 p then (bif Nat.beq p 21 then some (1, 0, 0, 1, []) else none) else (bif Nat.beq p 18 then some (25, 0, 34, 3, []) else none)))) else (bif Nat.ble 9 p then (bif Nat.ble 13 p then (bif Nat.ble 14 p then (bif Nat.ble 17 p then (bif Nat.beq p 17 then some (45, 0, 0, 1, []) else none) else (bif Nat.beq p 14 then some (35, 0, 9, 3, []) else none)) else (bif Nat.beq p 13 then some (1, 0, 0, 1, []) else none)) else (bif Nat.ble 12 p then (bif Nat.beq p 12 then some (0, 0, 1, 1, []) else none) else (bif Nat.beq p 9 then some (25, 0, 34, 3, []) else none))) else (bif Nat.ble 4 p then (bif Nat.ble 5 p then (bif Nat.ble 6 p then (bif Nat.beq p 6 then some (35, 0, 15, 3, []) else none) else (bif Nat.beq p 5 then some (1, 0, 0, 1, []) else none)) else (bif Nat.beq p 4 then some (0, 0, 1, 1, []) else none)) else (bif Nat.ble 1 p then (bif Nat.beq p 1 then some (30, 0, 34, 3, []) else none) else (bif Nat.beq p 0 then some (0, 0, 1, 1, []) else none)))))
def ca_X6_at (y : Nat) (as : List sl_V) (m : sl_M) : Option (sl_PL × sl_M) := none
def sp_X6_at (p : Nat) : Bool := false
def mk_X6_at (p : Nat) : List Bool := []
def cl_X6_at (p : Nat) : Option sl_C := none
def R_X6_at (ca : Nat → List sl_V → sl_M → Option (sl_PL × sl_M)) : Nat → sl_S → sl_M → Option (sl_PL × sl_M) := sl_B tb_X6_at fl_X6 pf_X6 cl_X6_at nw_X6 sl_rd sl_wr sl_al sl_ln 0 (fun _ => 0) ca sp_X6_at mk_X6_at
def F_X6_at (as : List sl_V) (m : sl_M) : Option (sl_PL × sl_M) := R_X6_at ca_X6_at 100000 (0, sl_lo 2 as, []) m
def f_X6_at (this : Nat) (a0 : Int32) (m : sl_M) : Option (sl_PL × sl_M) := F_X6_at [.inr (.inl (some (6, this))), .inl a0] m
def r_X6_at_0 (ca : Nat → List sl_V → sl_M → Option (sl_PL × sl_M)) (n : Nat) (this : Nat) (a0 : Int32) (m : sl_M) : Option (sl_PL × sl_M) := R_X6_at ca n (0, sl_lo 2 [.inr (.inl (some (6, this))), .inl a0], []) m
set_option maxRecDepth 100000 in
theorem g_X6_at_0 (ca : Nat → List sl_V → sl_M → Option (sl_PL × sl_M)) (n : Nat) (this : Nat) (a0 : Int32) (m : sl_M) : r_X6_at_0 ca (n + 1) this a0 m =
  if a0 < 0 then
    some (((-1 : Int32), 0, 0), m)
  else
    if (m.1 6 this 1) ≤ a0 then
      some (((-1 : Int32), 0, 0), m)
    else
      if (Int32.ofNat (sl_lr this)) ≤ a0 then
        some (((-1 : Int32), 0, 0), m)
      else
        if 0 ≤ a0 ∧ a0.toNatClampNeg < sl_lr this then
        some ((((sl_sx (m.1 20 this a0.toNatClampNeg)) &&& (255 : Int32)), 0, 0), m)
        else none := by rfl
theorem e_X6_at (this : Nat) (a0 : Int32) (m : sl_M) : f_X6_at this a0 m =
  if a0 < 0 then
    some (((-1 : Int32), 0, 0), m)
  else
    if (m.1 6 this 1) ≤ a0 then
      some (((-1 : Int32), 0, 0), m)
    else
      if (Int32.ofNat (sl_lr this)) ≤ a0 then
        some (((-1 : Int32), 0, 0), m)
      else
        if 0 ≤ a0 ∧ a0.toNatClampNeg < sl_lr this then
        some ((((sl_sx (m.1 20 this a0.toNatClampNeg)) &&& (255 : Int32)), 0, 0), m)
        else none := by
  have h := g_X6_at_0 ca_X6_at 99999 this a0 m
  exact h

def tb_X0_checkOf (p : Nat) : Option sl_E := bif Nat.ble 62 p then none else (bif Nat.ble 29 p then (bif Nat.ble 44 p then (bif Nat.ble 55 p then (bif Nat.ble 59 p then (bif Nat.ble 60 p then (bif Nat.ble 61 p then (bif Nat.beq p 61 then some (47, 0, 1, 1, []) else none) else (bif Nat.beq p 60 then some (13, 0, 0, 1, []) else none)) else (bif Nat.beq p 59 then some (2, (-1), 0, 1, []) else none)) else (bif Nat.ble 58 p then (bif Nat.beq p 58 then some (0, 0, 2, 1, []) else none) else (bif Nat.beq p 55 then some (34, 0, 4, 3, []) else none))) else (bif Nat.ble 46 p then (bif Nat.ble 49 p then (bif Nat.ble 52 p then (bif Nat.beq p 52 then some (5, 1, 3, 3, []) else none) else (bif Nat.beq p 49 then some (34, 0, 20, 3, []) else none)) else (bif Nat.beq p 46 then some (5, 1, 4, 3, []) else none)) else (bif Nat.ble 45 p then (bif Nat.beq p 45 then some (3, 0, 2, 1, []) else none) else (bif Nat.beq p 44 then some (16, 0, 0, 1, []) else none)))) else (bif Nat.ble 36 p then (bif Nat.ble 39 p then (bif Nat.ble 42 p then (bif Nat.ble 43 p then (bif Nat.beq p 43 then some (2, 1, 0, 1, []) else none) else (bif Nat.beq p 42 then some (0, 0, 2, 1, []) else none)) else (bif Nat.beq p 39 then some (34, 0, 45, 3, []) else none)) else (bif Nat.ble 38 p then (bif Nat.beq p 38 then some (13, 0, 0, 1, []) else none) else (bif Nat.beq p 36 then some (60, (-306674912), 15, 2, []) else none))) else (bif Nat.ble 33 p then (bif Nat.ble 34 p then (bif Nat.ble 35 p then (bif Nat.beq p 35 then some (16, 0, 0, 1, []) else none) else (bif Nat.beq p 34 then some (2, 1, 0, 1, []) else none)) else (bif Nat.beq p 33 then some (0, 0, 2, 1, []) else none)) else (bif Nat.ble 30 p then (bif Nat.beq p 30 then some (28, 0, 42, 3, []) else none) else (bif Nat.beq p 29 then some (11, 0, 0, 1, []) else none))))) else (bif Nat.ble 12 p then (bif Nat.ble 20 p then (bif Nat.ble 24 p then (bif Nat.ble 27 p then (bif Nat.ble 28 p then (bif Nat.beq p 28 then some (2, 1, 0, 1, []) else none) else (bif Nat.beq p 27 then some (0, 0, 2, 1, []) else none)) else (bif Nat.beq p 24 then some (25, 0, 52, 3, []) else none)) else (bif Nat.ble 22 p then (bif Nat.beq p 22 then some (2, 8, 0, 2, []) else none) else (bif Nat.beq p 20 then some (0, 0, 4, 2, []) else none))) else (bif Nat.ble 16 p then (bif Nat.ble 17 p then (bif Nat.ble 18 p then (bif Nat.beq p 18 then some (3, 0, 4, 2, []) else none) else (bif Nat.beq p 17 then some (2, 0, 0, 1, []) else none)) else (bif Nat.beq p 16 then some (3, 0, 2, 1, []) else none)) else (bif Nat.ble 15 p then (bif Nat.beq p 15 then some (13, 0, 0, 1, []) else none) else (bif Nat.beq p 12 then some (46, 0, 9, 3, []) else none)))) else (bif Nat.ble 5 p then (bif Nat.ble 9 p then (bif Nat.ble 10 p then (bif Nat.ble 11 p then (bif Nat.beq p 11 then some (0, 0, 3, 1, []) else none) else (bif Nat.beq p 10 then some (1, 0, 0, 1, []) else none)) else (bif Nat.beq p 9 then some (0, 0, 2, 1, []) else none)) else (bif Nat.ble 6 p then (bif Nat.beq p 6 then some (25, 0, 58, 3, []) else none) else (bif Nat.beq p 5 then some (0, 0, 1, 1, []) else none))) else (bif Nat.ble 2 p then (bif Nat.ble 3 p then (bif Nat.ble 4 p then (bif Nat.beq p 4 then some (0, 0, 3, 1, []) else none) else (bif Nat.beq p 3 then some (3, 0, 3, 1, []) else none)) else (bif Nat.beq p 2 then some (2, 0, 0, 1, []) else none)) else (bif Nat.ble 1 p then (bif Nat.beq p 1 then some (3, 0, 2, 1, []) else none) else (bif Nat.beq p 0 then some (2, (-1), 0, 1, []) else none))))))
def ca_X0_checkOf (y : Nat) (as : List sl_V) (m : sl_M) : Option (sl_PL × sl_M) := bif Nat.beq y 36 then F_X6_at as m else none
def sp_X0_checkOf (p : Nat) : Bool := Nat.beq p 4 || Nat.beq p 20
def mk_X0_checkOf (p : Nat) : List Bool := bif Nat.ble 20 p then (bif Nat.beq p 20 then [true, true, true, true, true] else []) else (bif Nat.beq p 4 then [true, true, true, true, false] else [])
def cl_X0_checkOf (p : Nat) : Option sl_C := bif Nat.ble 10 p then none else (bif Nat.beq p 9 then some (36, 2, 1, 0, 0, 7) else none)
def R_X0_checkOf (ca : Nat → List sl_V → sl_M → Option (sl_PL × sl_M)) : Nat → sl_S → sl_M → Option (sl_PL × sl_M) := sl_B tb_X0_checkOf fl_X0 pf_X0 cl_X0_checkOf nw_X0 sl_rd sl_wr sl_al sl_ln 0 (fun _ => 0) ca sp_X0_checkOf mk_X0_checkOf
def F_X0_checkOf (as : List sl_V) (m : sl_M) : Option (sl_PL × sl_M) := R_X0_checkOf ca_X0_checkOf 100000 (0, sl_lo 5 as, []) m
def f_X0_checkOf (a0 : Nat) (a1 : Int32) (m : sl_M) : Option (sl_PL × sl_M) := F_X0_checkOf [.inr (.inl (some (6, a0))), .inl a1] m
def r_X0_checkOf_0 (ca : Nat → List sl_V → sl_M → Option (sl_PL × sl_M)) (n : Nat) (a0 : Nat) (a1 : Int32) (m : sl_M) : Option (sl_PL × sl_M) := R_X0_checkOf ca n (0, sl_lo 5 [.inr (.inl (some (6, a0))), .inl a1], []) m
def r_X0_checkOf_4 (ca : Nat → List sl_V → sl_M → Option (sl_PL × sl_M)) (n : Nat) (v0 : Nat) (v1 : Int32) (v2 : Int32) (v3 : Int32) (m : sl_M) : Option (sl_PL × sl_M) := R_X0_checkOf ca n (4, [some (.inr (.inl (some (6, v0)))), some (.inl v1), some (.inl v2), some (.inl v3), none], []) m
def b_X0_checkOf_4 (n : Nat) (v0 : Nat) (v1 : Int32) (v2 : Int32) (v3 : Int32) (m : sl_M) : Option (sl_PL × sl_M) := r_X0_checkOf_4 ca_X0_checkOf n v0 v1 v2 v3 m
def r_X0_checkOf_20 (ca : Nat → List sl_V → sl_M → Option (sl_PL × sl_M)) (n : Nat) (v0 : Nat) (v1 : Int32) (v2 : Int32) (v3 : Int32) (v4 : Int32) (m : sl_M) : Option (sl_PL × sl_M) := R_X0_checkOf ca n (20, [some (.inr (.inl (some (6, v0)))), some (.inl v1), some (.inl v2), some (.inl v3), some (.inl v4)], []) m
def b_X0_checkOf_20 (n : Nat) (v0 : Nat) (v1 : Int32) (v2 : Int32) (v3 : Int32) (v4 : Int32) (m : sl_M) : Option (sl_PL × sl_M) := r_X0_checkOf_20 ca_X0_checkOf n v0 v1 v2 v3 v4 m
set_option maxRecDepth 100000 in
theorem g_X0_checkOf_0 (ca : Nat → List sl_V → sl_M → Option (sl_PL × sl_M)) (n : Nat) (a0 : Nat) (a1 : Int32) (m : sl_M) : r_X0_checkOf_0 ca (n + 1) a0 a1 m =
  r_X0_checkOf_4 ca n a0 a1 (-1 : Int32) (0 : Int32) m := by rfl
set_option maxRecDepth 100000 in
theorem g_X0_checkOf_4 (ca : Nat → List sl_V → sl_M → Option (sl_PL × sl_M)) (n : Nat) (v0 : Nat) (v1 : Int32) (v2 : Int32) (v3 : Int32) (m : sl_M) : r_X0_checkOf_4 ca (n + 1) v0 v1 v2 v3 m =
  if v1 ≤ v3 then
    some (((v2 ^^^ (-1 : Int32)), 0, 0), m)
  else
    (ca 36 [.inr (.inl (some (6, v0))), .inl v3] m).bind (fun q1 =>
    r_X0_checkOf_20 ca n v0 v1 (v2 ^^^ q1.1.1) v3 (0 : Int32) q1.2) := by rfl
set_option maxRecDepth 100000 in
theorem g_X0_checkOf_20 (ca : Nat → List sl_V → sl_M → Option (sl_PL × sl_M)) (n : Nat) (v0 : Nat) (v1 : Int32) (v2 : Int32) (v3 : Int32) (v4 : Int32) (m : sl_M) : r_X0_checkOf_20 ca (n + 1) v0 v1 v2 v3 v4 m =
  if (8 : Int32) ≤ v4 then
    r_X0_checkOf_4 ca n v0 v1 v2 (v3 + (1 : Int32)) m
  else
    if (v2 &&& (1 : Int32)) = 0 then
      r_X0_checkOf_20 ca n v0 v1 (sl_ush v2 (1 : Int32)) v3 (v4 + (1 : Int32)) m
    else
      r_X0_checkOf_20 ca n v0 v1 ((sl_ush v2 (1 : Int32)) ^^^ (-306674912 : Int32)) v3 (v4 + (1 : Int32)) m := by rfl
theorem cq_X0_checkOf_X6_at (this : Nat) (a0 : Int32) (m : sl_M) : ca_X0_checkOf 36 [.inr (.inl (some (6, this))), .inl a0] m = f_X6_at this a0 m := by
  unfold ca_X0_checkOf f_X6_at
  rw [show Nat.beq 36 36 = true from rfl, cond_true]
theorem bq_X0_checkOf_4 (n : Nat) (v0 : Nat) (v1 : Int32) (v2 : Int32) (v3 : Int32) (m : sl_M) : r_X0_checkOf_4 ca_X0_checkOf n v0 v1 v2 v3 m = b_X0_checkOf_4 n v0 v1 v2 v3 m := rfl
theorem bq_X0_checkOf_20 (n : Nat) (v0 : Nat) (v1 : Int32) (v2 : Int32) (v3 : Int32) (v4 : Int32) (m : sl_M) : r_X0_checkOf_20 ca_X0_checkOf n v0 v1 v2 v3 v4 m = b_X0_checkOf_20 n v0 v1 v2 v3 v4 m := rfl
theorem e_X0_checkOf (a0 : Nat) (a1 : Int32) (m : sl_M) : f_X0_checkOf a0 a1 m =
  b_X0_checkOf_4 99999 a0 a1 (-1 : Int32) (0 : Int32) m := by
  have h := g_X0_checkOf_0 ca_X0_checkOf 99999 a0 a1 m
  simp only [cq_X0_checkOf_X6_at, bq_X0_checkOf_4, bq_X0_checkOf_20] at h
  exact h
theorem e_X0_checkOf_4 (n : Nat) (v0 : Nat) (v1 : Int32) (v2 : Int32) (v3 : Int32) (m : sl_M) : b_X0_checkOf_4 (n + 1) v0 v1 v2 v3 m =
  if v1 ≤ v3 then
    some (((v2 ^^^ (-1 : Int32)), 0, 0), m)
  else
    (f_X6_at v0 v3 m).bind (fun q1 =>
    b_X0_checkOf_20 n v0 v1 (v2 ^^^ q1.1.1) v3 (0 : Int32) q1.2) := by
  have h := g_X0_checkOf_4 ca_X0_checkOf n v0 v1 v2 v3 m
  simp only [cq_X0_checkOf_X6_at, bq_X0_checkOf_4, bq_X0_checkOf_20] at h
  exact h
theorem e_X0_checkOf_20 (n : Nat) (v0 : Nat) (v1 : Int32) (v2 : Int32) (v3 : Int32) (v4 : Int32) (m : sl_M) : b_X0_checkOf_20 (n + 1) v0 v1 v2 v3 v4 m =
  if (8 : Int32) ≤ v4 then
    b_X0_checkOf_4 n v0 v1 v2 (v3 + (1 : Int32)) m
  else
    if (v2 &&& (1 : Int32)) = 0 then
      b_X0_checkOf_20 n v0 v1 (sl_ush v2 (1 : Int32)) v3 (v4 + (1 : Int32)) m
    else
      b_X0_checkOf_20 n v0 v1 ((sl_ush v2 (1 : Int32)) ^^^ (-306674912 : Int32)) v3 (v4 + (1 : Int32)) m := by
  have h := g_X0_checkOf_20 ca_X0_checkOf n v0 v1 v2 v3 v4 m
  simp only [cq_X0_checkOf_X6_at, bq_X0_checkOf_4, bq_X0_checkOf_20] at h
  exact h

def tb_X6_clear (p : Nat) : Option sl_E := bif Nat.ble 6 p then none else (bif Nat.ble 2 p then (bif Nat.ble 5 p then (bif Nat.beq p 5 then some (50, 0, 0, 1, []) else none) else (bif Nat.beq p 2 then some (36, 0, 15, 3, []) else none)) else (bif Nat.ble 1 p then (bif Nat.beq p 1 then some (2, 0, 0, 1, []) else none) else (bif Nat.beq p 0 then some (1, 0, 0, 1, []) else none)))
def ca_X6_clear (y : Nat) (as : List sl_V) (m : sl_M) : Option (sl_PL × sl_M) := none
def sp_X6_clear (p : Nat) : Bool := false
def mk_X6_clear (p : Nat) : List Bool := []
def cl_X6_clear (p : Nat) : Option sl_C := none
def R_X6_clear (ca : Nat → List sl_V → sl_M → Option (sl_PL × sl_M)) : Nat → sl_S → sl_M → Option (sl_PL × sl_M) := sl_B tb_X6_clear fl_X6 pf_X6 cl_X6_clear nw_X6 sl_rd sl_wr sl_al sl_ln 0 (fun _ => 0) ca sp_X6_clear mk_X6_clear
def F_X6_clear (as : List sl_V) (m : sl_M) : Option (sl_PL × sl_M) := R_X6_clear ca_X6_clear 100000 (0, sl_lo 1 as, []) m
def f_X6_clear (this : Nat) (m : sl_M) : Option (sl_PL × sl_M) := F_X6_clear [.inr (.inl (some (6, this)))] m
def r_X6_clear_0 (ca : Nat → List sl_V → sl_M → Option (sl_PL × sl_M)) (n : Nat) (this : Nat) (m : sl_M) : Option (sl_PL × sl_M) := R_X6_clear ca n (0, sl_lo 1 [.inr (.inl (some (6, this)))], []) m
set_option maxRecDepth 100000 in
theorem g_X6_clear_0 (ca : Nat → List sl_V → sl_M → Option (sl_PL × sl_M)) (n : Nat) (this : Nat) (m : sl_M) : r_X6_clear_0 ca (n + 1) this m =
  some ((0, 0, 0), (sl_up m 6 this 1 (0 : Int32))) := by rfl
theorem e_X6_clear (this : Nat) (m : sl_M) : f_X6_clear this m =
  some ((0, 0, 0), (sl_up m 6 this 1 (0 : Int32))) := by
  have h := g_X6_clear_0 ca_X6_clear 99999 this m
  exact h

def tb_X6_add (p : Nat) : Option sl_E := bif Nat.ble 44 p then none else (bif Nat.ble 25 p then (bif Nat.ble 33 p then (bif Nat.ble 38 p then (bif Nat.ble 42 p then (bif Nat.ble 43 p then (bif Nat.beq p 43 then some (47, 0, 2, 1, []) else none) else (bif Nat.beq p 42 then some (2, 1, 0, 1, []) else none)) else (bif Nat.ble 39 p then (bif Nat.beq p 39 then some (36, 0, 15, 3, []) else none) else (bif Nat.beq p 38 then some (6, 0, 0, 1, []) else none))) else (bif Nat.ble 34 p then (bif Nat.ble 37 p then (bif Nat.beq p 37 then some (2, 1, 0, 1, []) else none) else (bif Nat.beq p 34 then some (35, 0, 15, 3, []) else none)) else (bif Nat.beq p 33 then some (19, 0, 0, 1, []) else none))) else (bif Nat.ble 30 p then (bif Nat.ble 31 p then (bif Nat.ble 32 p then (bif Nat.beq p 32 then some (1, 0, 0, 1, []) else none) else (bif Nat.beq p 31 then some (42, 0, 0, 1, []) else none)) else (bif Nat.beq p 30 then some (17, 0, 0, 1, []) else none)) else (bif Nat.ble 26 p then (bif Nat.ble 29 p then (bif Nat.beq p 29 then some (0, 0, 1, 1, []) else none) else (bif Nat.beq p 26 then some (35, 0, 15, 3, []) else none)) else (bif Nat.beq p 25 then some (1, 0, 0, 1, []) else none)))) else (bif Nat.ble 12 p then (bif Nat.ble 19 p then (bif Nat.ble 21 p then (bif Nat.ble 22 p then (bif Nat.beq p 22 then some (35, 0, 9, 3, []) else none) else (bif Nat.beq p 21 then some (1, 0, 0, 1, []) else none)) else (bif Nat.ble 20 p then (bif Nat.beq p 20 then some (47, 0, 2, 1, []) else none) else (bif Nat.beq p 19 then some (2, 0, 0, 1, []) else none))) else (bif Nat.ble 15 p then (bif Nat.ble 16 p then (bif Nat.beq p 16 then some (24, 0, 21, 3, []) else none) else (bif Nat.beq p 15 then some (45, 0, 0, 1, []) else none)) else (bif Nat.beq p 12 then some (35, 0, 9, 3, []) else none))) else (bif Nat.ble 7 p then (bif Nat.ble 8 p then (bif Nat.ble 11 p then (bif Nat.beq p 11 then some (1, 0, 0, 1, []) else none) else (bif Nat.beq p 8 then some (35, 0, 15, 3, []) else none)) else (bif Nat.beq p 7 then some (1, 0, 0, 1, []) else none)) else (bif Nat.ble 1 p then (bif Nat.ble 4 p then (bif Nat.beq p 4 then some (30, 0, 19, 3, []) else none) else (bif Nat.beq p 1 then some (35, 0, 15, 3, []) else none)) else (bif Nat.beq p 0 then some (1, 0, 0, 1, []) else none)))))
def ca_X6_add (y : Nat) (as : List sl_V) (m : sl_M) : Option (sl_PL × sl_M) := none
def sp_X6_add (p : Nat) : Bool := false
def mk_X6_add (p : Nat) : List Bool := []
def cl_X6_add (p : Nat) : Option sl_C := none
def R_X6_add (ca : Nat → List sl_V → sl_M → Option (sl_PL × sl_M)) : Nat → sl_S → sl_M → Option (sl_PL × sl_M) := sl_B tb_X6_add fl_X6 pf_X6 cl_X6_add nw_X6 sl_rd sl_wr sl_al sl_ln 0 (fun _ => 0) ca sp_X6_add mk_X6_add
def F_X6_add (as : List sl_V) (m : sl_M) : Option (sl_PL × sl_M) := R_X6_add ca_X6_add 100000 (0, sl_lo 2 as, []) m
def f_X6_add (this : Nat) (a0 : Int32) (m : sl_M) : Option (sl_PL × sl_M) := F_X6_add [.inr (.inl (some (6, this))), .inl a0] m
def r_X6_add_0 (ca : Nat → List sl_V → sl_M → Option (sl_PL × sl_M)) (n : Nat) (this : Nat) (a0 : Int32) (m : sl_M) : Option (sl_PL × sl_M) := R_X6_add ca n (0, sl_lo 2 [.inr (.inl (some (6, this))), .inl a0], []) m
set_option maxRecDepth 100000 in
theorem g_X6_add_0 (ca : Nat → List sl_V → sl_M → Option (sl_PL × sl_M)) (n : Nat) (this : Nat) (a0 : Int32) (m : sl_M) : r_X6_add_0 ca (n + 1) this a0 m =
  if (m.1 6 this 1) < 0 then
    some (((0 : Int32), 0, 0), m)
  else
    if (m.1 6 this 1) < (Int32.ofNat (sl_lr this)) then
      if 0 ≤ (m.1 6 this 1) ∧ (m.1 6 this 1).toNatClampNeg < sl_lr this then
      some (((1 : Int32), 0, 0), (sl_up (sl_up m 20 this ((m.1 6 this 1).toNatClampNeg) (sl_sx a0)) 6 this 1 ((m.1 6 this 1) + (1 : Int32))))
      else none
    else
      some (((0 : Int32), 0, 0), m) := by rfl
theorem e_X6_add (this : Nat) (a0 : Int32) (m : sl_M) : f_X6_add this a0 m =
  if (m.1 6 this 1) < 0 then
    some (((0 : Int32), 0, 0), m)
  else
    if (m.1 6 this 1) < (Int32.ofNat (sl_lr this)) then
      if 0 ≤ (m.1 6 this 1) ∧ (m.1 6 this 1).toNatClampNeg < sl_lr this then
      some (((1 : Int32), 0, 0), (sl_up (sl_up m 20 this ((m.1 6 this 1).toNatClampNeg) (sl_sx a0)) 6 this 1 ((m.1 6 this 1) + (1 : Int32))))
      else none
    else
      some (((0 : Int32), 0, 0), m) := by
  have h := g_X6_add_0 ca_X6_add 99999 this a0 m
  exact h

def tb_X6_put (p : Nat) : Option sl_E := bif Nat.ble 22 p then none else (bif Nat.ble 13 p then (bif Nat.ble 18 p then (bif Nat.ble 20 p then (bif Nat.ble 21 p then (bif Nat.beq p 21 then some (50, 0, 0, 1, []) else none) else (bif Nat.beq p 20 then some (42, 0, 0, 1, []) else none)) else (bif Nat.ble 19 p then (bif Nat.beq p 19 then some (17, 0, 0, 1, []) else none) else (bif Nat.beq p 18 then some (0, 0, 2, 1, []) else none))) else (bif Nat.ble 14 p then (bif Nat.ble 17 p then (bif Nat.beq p 17 then some (0, 0, 1, 1, []) else none) else (bif Nat.beq p 14 then some (35, 0, 9, 3, []) else none)) else (bif Nat.beq p 13 then some (1, 0, 0, 1, []) else none))) else (bif Nat.ble 5 p then (bif Nat.ble 9 p then (bif Nat.ble 10 p then (bif Nat.beq p 10 then some (25, 0, 21, 3, []) else none) else (bif Nat.beq p 9 then some (45, 0, 0, 1, []) else none)) else (bif Nat.ble 6 p then (bif Nat.beq p 6 then some (35, 0, 9, 3, []) else none) else (bif Nat.beq p 5 then some (1, 0, 0, 1, []) else none))) else (bif Nat.ble 1 p then (bif Nat.ble 4 p then (bif Nat.beq p 4 then some (0, 0, 1, 1, []) else none) else (bif Nat.beq p 1 then some (30, 0, 21, 3, []) else none)) else (bif Nat.beq p 0 then some (0, 0, 1, 1, []) else none))))
def ca_X6_put (y : Nat) (as : List sl_V) (m : sl_M) : Option (sl_PL × sl_M) := none
def sp_X6_put (p : Nat) : Bool := false
def mk_X6_put (p : Nat) : List Bool := []
def cl_X6_put (p : Nat) : Option sl_C := none
def R_X6_put (ca : Nat → List sl_V → sl_M → Option (sl_PL × sl_M)) : Nat → sl_S → sl_M → Option (sl_PL × sl_M) := sl_B tb_X6_put fl_X6 pf_X6 cl_X6_put nw_X6 sl_rd sl_wr sl_al sl_ln 0 (fun _ => 0) ca sp_X6_put mk_X6_put
def F_X6_put (as : List sl_V) (m : sl_M) : Option (sl_PL × sl_M) := R_X6_put ca_X6_put 100000 (0, sl_lo 3 as, []) m
def f_X6_put (this : Nat) (a0 : Int32) (a1 : Int32) (m : sl_M) : Option (sl_PL × sl_M) := F_X6_put [.inr (.inl (some (6, this))), .inl a0, .inl a1] m
def r_X6_put_0 (ca : Nat → List sl_V → sl_M → Option (sl_PL × sl_M)) (n : Nat) (this : Nat) (a0 : Int32) (a1 : Int32) (m : sl_M) : Option (sl_PL × sl_M) := R_X6_put ca n (0, sl_lo 3 [.inr (.inl (some (6, this))), .inl a0, .inl a1], []) m
set_option maxRecDepth 100000 in
theorem g_X6_put_0 (ca : Nat → List sl_V → sl_M → Option (sl_PL × sl_M)) (n : Nat) (this : Nat) (a0 : Int32) (a1 : Int32) (m : sl_M) : r_X6_put_0 ca (n + 1) this a0 a1 m =
  if a0 < 0 then
    some ((0, 0, 0), m)
  else
    if (Int32.ofNat (sl_lr this)) ≤ a0 then
      some ((0, 0, 0), m)
    else
      if 0 ≤ a0 ∧ a0.toNatClampNeg < sl_lr this then
      some ((0, 0, 0), (sl_up m 20 this a0.toNatClampNeg (sl_sx a1)))
      else none := by rfl
theorem e_X6_put (this : Nat) (a0 : Int32) (a1 : Int32) (m : sl_M) : f_X6_put this a0 a1 m =
  if a0 < 0 then
    some ((0, 0, 0), m)
  else
    if (Int32.ofNat (sl_lr this)) ≤ a0 then
      some ((0, 0, 0), m)
    else
      if 0 ≤ a0 ∧ a0.toNatClampNeg < sl_lr this then
      some ((0, 0, 0), (sl_up m 20 this a0.toNatClampNeg (sl_sx a1)))
      else none := by
  have h := g_X6_put_0 ca_X6_put 99999 this a0 a1 m
  exact h

def tb_X0_pack (p : Nat) : Option sl_E := bif Nat.ble 93 p then none else (bif Nat.ble 46 p then (bif Nat.ble 72 p then (bif Nat.ble 80 p then (bif Nat.ble 87 p then (bif Nat.ble 89 p then (bif Nat.ble 92 p then (bif Nat.beq p 92 then some (50, 0, 0, 1, []) else none) else (bif Nat.beq p 89 then some (46, 0, 27, 3, []) else none)) else (bif Nat.ble 88 p then (bif Nat.beq p 88 then some (0, 0, 3, 1, []) else none) else (bif Nat.beq p 87 then some (0, 0, 2, 1, []) else none))) else (bif Nat.ble 83 p then (bif Nat.ble 86 p then (bif Nat.beq p 86 then some (1, 0, 1, 1, []) else none) else (bif Nat.beq p 83 then some (34, 0, 17, 3, []) else none)) else (bif Nat.beq p 80 then some (5, 1, 4, 3, []) else none))) else (bif Nat.ble 75 p then (bif Nat.ble 76 p then (bif Nat.ble 79 p then (bif Nat.beq p 79 then some (21, 0, 0, 1, []) else none) else (bif Nat.beq p 76 then some (46, 0, 19, 3, []) else none)) else (bif Nat.beq p 75 then some (0, 0, 3, 1, []) else none)) else (bif Nat.ble 73 p then (bif Nat.ble 74 p then (bif Nat.beq p 74 then some (1, 0, 1, 1, []) else none) else (bif Nat.beq p 73 then some (3, 0, 3, 1, []) else none)) else (bif Nat.beq p 72 then some (2, 1, 0, 1, []) else none)))) else (bif Nat.ble 61 p then (bif Nat.ble 64 p then (bif Nat.ble 68 p then (bif Nat.ble 71 p then (bif Nat.beq p 71 then some (3, 0, 2, 1, []) else none) else (bif Nat.beq p 68 then some (35, 0, 23, 3, []) else none)) else (bif Nat.ble 67 p then (bif Nat.beq p 67 then some (1, 0, 1, 1, []) else none) else (bif Nat.beq p 64 then some (46, 0, 27, 3, []) else none))) else (bif Nat.ble 62 p then (bif Nat.ble 63 p then (bif Nat.beq p 63 then some (0, 0, 3, 1, []) else none) else (bif Nat.beq p 62 then some (0, 0, 2, 1, []) else none)) else (bif Nat.beq p 61 then some (1, 0, 1, 1, []) else none))) else (bif Nat.ble 54 p then (bif Nat.ble 55 p then (bif Nat.ble 58 p then (bif Nat.beq p 58 then some (23, 0, 80, 3, []) else none) else (bif Nat.beq p 55 then some (2, 255, 0, 3, []) else none)) else (bif Nat.beq p 54 then some (0, 0, 3, 1, []) else none)) else (bif Nat.ble 49 p then (bif Nat.ble 51 p then (bif Nat.beq p 51 then some (28, 0, 61, 3, []) else none) else (bif Nat.beq p 49 then some (0, 0, 5, 2, []) else none)) else (bif Nat.beq p 46 then some (5, 1, 3, 3, []) else none))))) else (bif Nat.ble 19 p then (bif Nat.ble 32 p then (bif Nat.ble 39 p then (bif Nat.ble 42 p then (bif Nat.ble 45 p then (bif Nat.beq p 45 then some (21, 0, 0, 1, []) else none) else (bif Nat.beq p 42 then some (46, 0, 19, 3, []) else none)) else (bif Nat.ble 40 p then (bif Nat.beq p 40 then some (0, 0, 5, 2, []) else none) else (bif Nat.beq p 39 then some (1, 0, 1, 1, []) else none))) else (bif Nat.ble 34 p then (bif Nat.ble 36 p then (bif Nat.beq p 36 then some (28, 0, 49, 3, []) else none) else (bif Nat.beq p 34 then some (0, 0, 5, 2, []) else none)) else (bif Nat.beq p 32 then some (3, 0, 5, 2, []) else none))) else (bif Nat.ble 26 p then (bif Nat.ble 27 p then (bif Nat.ble 29 p then (bif Nat.beq p 29 then some (46, 0, 9, 3, []) else none) else (bif Nat.beq p 27 then some (0, 0, 4, 2, []) else none)) else (bif Nat.beq p 26 then some (1, 0, 0, 1, []) else none)) else (bif Nat.ble 20 p then (bif Nat.ble 23 p then (bif Nat.beq p 23 then some (25, 0, 86, 3, []) else none) else (bif Nat.beq p 20 then some (35, 0, 23, 3, []) else none)) else (bif Nat.beq p 19 then some (1, 0, 0, 1, []) else none)))) else (bif Nat.ble 8 p then (bif Nat.ble 13 p then (bif Nat.ble 15 p then (bif Nat.ble 17 p then (bif Nat.beq p 17 then some (0, 0, 4, 2, []) else none) else (bif Nat.beq p 15 then some (3, 0, 4, 2, []) else none)) else (bif Nat.ble 14 p then (bif Nat.beq p 14 then some (2, 0, 0, 1, []) else none) else (bif Nat.beq p 13 then some (21, 0, 0, 1, []) else none))) else (bif Nat.ble 9 p then (bif Nat.ble 10 p then (bif Nat.beq p 10 then some (46, 0, 19, 3, []) else none) else (bif Nat.beq p 9 then some (0, 0, 3, 1, []) else none)) else (bif Nat.beq p 8 then some (1, 0, 1, 1, []) else none))) else (bif Nat.ble 5 p then (bif Nat.ble 6 p then (bif Nat.ble 7 p then (bif Nat.beq p 7 then some (3, 0, 3, 1, []) else none) else (bif Nat.beq p 6 then some (2, 1, 0, 1, []) else none)) else (bif Nat.beq p 5 then some (3, 0, 2, 1, []) else none)) else (bif Nat.ble 1 p then (bif Nat.ble 4 p then (bif Nat.beq p 4 then some (2, 0, 0, 1, []) else none) else (bif Nat.beq p 1 then some (46, 0, 16, 3, []) else none)) else (bif Nat.beq p 0 then some (1, 0, 1, 1, []) else none))))))
def ca_X0_pack (y : Nat) (as : List sl_V) (m : sl_M) : Option (sl_PL × sl_M) := bif Nat.ble 37 y then (bif Nat.ble 38 y then (bif Nat.beq y 38 then F_X6_put as m else none) else (bif Nat.beq y 37 then F_X6_add as m else none)) else (bif Nat.ble 36 y then (bif Nat.beq y 36 then F_X6_at as m else none) else (bif Nat.beq y 33 then F_X6_clear as m else none))
def sp_X0_pack (p : Nat) : Bool := Nat.beq p 17
def mk_X0_pack (p : Nat) : List Bool := bif Nat.beq p 17 then [true, true, true, true, true, false] else []
def cl_X0_pack (p : Nat) : Option sl_C := bif Nat.ble 28 p then none else (bif Nat.ble 19 p then (bif Nat.ble 27 p then (bif Nat.beq p 27 then some (38, 3, 0, 0, 0, 7) else none) else (bif Nat.beq p 19 then some (37, 2, 1, 0, 0, 7) else none)) else (bif Nat.ble 16 p then (bif Nat.beq p 16 then some (33, 1, 0, 0, 0, 7) else none) else (bif Nat.beq p 9 then some (36, 2, 1, 0, 0, 7) else none)))
def R_X0_pack (ca : Nat → List sl_V → sl_M → Option (sl_PL × sl_M)) : Nat → sl_S → sl_M → Option (sl_PL × sl_M) := sl_B tb_X0_pack fl_X0 pf_X0 cl_X0_pack nw_X0 sl_rd sl_wr sl_al sl_ln 0 (fun _ => 0) ca sp_X0_pack mk_X0_pack
def F_X0_pack (as : List sl_V) (m : sl_M) : Option (sl_PL × sl_M) := R_X0_pack ca_X0_pack 100000 (0, sl_lo 6 as, []) m
def f_X0_pack (a0 : Nat) (a1 : Nat) (m : sl_M) : Option (sl_PL × sl_M) := F_X0_pack [.inr (.inl (some (6, a0))), .inr (.inl (some (6, a1)))] m
def r_X0_pack_0 (ca : Nat → List sl_V → sl_M → Option (sl_PL × sl_M)) (n : Nat) (a0 : Nat) (a1 : Nat) (m : sl_M) : Option (sl_PL × sl_M) := R_X0_pack ca n (0, sl_lo 6 [.inr (.inl (some (6, a0))), .inr (.inl (some (6, a1)))], []) m
def r_X0_pack_17 (ca : Nat → List sl_V → sl_M → Option (sl_PL × sl_M)) (n : Nat) (v0 : Nat) (v1 : Nat) (v2 : Int32) (v3 : Int32) (v4 : Int32) (m : sl_M) : Option (sl_PL × sl_M) := R_X0_pack ca n (17, [some (.inr (.inl (some (6, v0)))), some (.inr (.inl (some (6, v1)))), some (.inl v2), some (.inl v3), some (.inl v4), none], []) m
def b_X0_pack_17 (n : Nat) (v0 : Nat) (v1 : Nat) (v2 : Int32) (v3 : Int32) (v4 : Int32) (m : sl_M) : Option (sl_PL × sl_M) := r_X0_pack_17 ca_X0_pack n v0 v1 v2 v3 v4 m
set_option maxRecDepth 100000 in
theorem g_X0_pack_0 (ca : Nat → List sl_V → sl_M → Option (sl_PL × sl_M)) (n : Nat) (a0 : Nat) (a1 : Nat) (m : sl_M) : r_X0_pack_0 ca (n + 1) a0 a1 m =
  (ca 33 [.inr (.inl (some (6, a1)))] m).bind (fun q1 =>
  (ca 37 [.inr (.inl (some (6, a1))), .inl (1 : Int32)] q1.2).bind (fun q2 =>
  r_X0_pack_17 ca n a0 a1 (0 : Int32) (1 : Int32) (0 : Int32) q2.2)) := by rfl
set_option maxRecDepth 100000 in
theorem g_X0_pack_17 (ca : Nat → List sl_V → sl_M → Option (sl_PL × sl_M)) (n : Nat) (v0 : Nat) (v1 : Nat) (v2 : Int32) (v3 : Int32) (v4 : Int32) (m : sl_M) : r_X0_pack_17 ca (n + 1) v0 v1 v2 v3 v4 m =
  if (m.1 6 v0 1) ≤ v4 then
    (ca 38 [.inr (.inl (some (6, v1))), .inl v2, .inl v3] m).bind (fun q1 =>
    some ((0, 0, 0), q1.2))
  else
    (ca 36 [.inr (.inl (some (6, v0))), .inl v4] m).bind (fun q2 =>
    if q2.1.1 = 0 then
      if q2.1.1 = 0 then
        (ca 38 [.inr (.inl (some (6, v1))), .inl v2, .inl v3] q2.2).bind (fun q3 =>
        (ca 37 [.inr (.inl (some (6, v1))), .inl (1 : Int32)] q3.2).bind (fun q4 =>
        r_X0_pack_17 ca n v0 v1 (q3.2.1 6 v1 1) (1 : Int32) (v4 + (1 : Int32)) q4.2))
      else
        if v3 = (255 : Int32) then
          (ca 38 [.inr (.inl (some (6, v1))), .inl v2, .inl v3] q2.2).bind (fun q5 =>
          (ca 37 [.inr (.inl (some (6, v1))), .inl (1 : Int32)] q5.2).bind (fun q6 =>
          r_X0_pack_17 ca n v0 v1 (q5.2.1 6 v1 1) (1 : Int32) (v4 + (1 : Int32)) q6.2))
        else
          r_X0_pack_17 ca n v0 v1 v2 v3 (v4 + (1 : Int32)) q2.2
    else
      (ca 37 [.inr (.inl (some (6, v1))), .inl q2.1.1] q2.2).bind (fun q7 =>
      if q2.1.1 = 0 then
        (ca 38 [.inr (.inl (some (6, v1))), .inl v2, .inl (v3 + (1 : Int32))] q7.2).bind (fun q8 =>
        (ca 37 [.inr (.inl (some (6, v1))), .inl (1 : Int32)] q8.2).bind (fun q9 =>
        r_X0_pack_17 ca n v0 v1 (q8.2.1 6 v1 1) (1 : Int32) (v4 + (1 : Int32)) q9.2))
      else
        if (v3 + (1 : Int32)) = (255 : Int32) then
          (ca 38 [.inr (.inl (some (6, v1))), .inl v2, .inl (v3 + (1 : Int32))] q7.2).bind (fun q10 =>
          (ca 37 [.inr (.inl (some (6, v1))), .inl (1 : Int32)] q10.2).bind (fun q11 =>
          r_X0_pack_17 ca n v0 v1 (q10.2.1 6 v1 1) (1 : Int32) (v4 + (1 : Int32)) q11.2))
        else
          r_X0_pack_17 ca n v0 v1 v2 (v3 + (1 : Int32)) (v4 + (1 : Int32)) q7.2)) := by rfl
theorem cq_X0_pack_X6_clear (this : Nat) (m : sl_M) : ca_X0_pack 33 [.inr (.inl (some (6, this)))] m = f_X6_clear this m := by
  unfold ca_X0_pack f_X6_clear
  rw [show Nat.ble 37 33 = false from rfl, cond_false, show Nat.ble 36 33 = false from rfl, cond_false, show Nat.beq 33 33 = true from rfl, cond_true]
theorem cq_X0_pack_X6_at (this : Nat) (a0 : Int32) (m : sl_M) : ca_X0_pack 36 [.inr (.inl (some (6, this))), .inl a0] m = f_X6_at this a0 m := by
  unfold ca_X0_pack f_X6_at
  rw [show Nat.ble 37 36 = false from rfl, cond_false, show Nat.ble 36 36 = true from rfl, cond_true, show Nat.beq 36 36 = true from rfl, cond_true]
theorem cq_X0_pack_X6_add (this : Nat) (a0 : Int32) (m : sl_M) : ca_X0_pack 37 [.inr (.inl (some (6, this))), .inl a0] m = f_X6_add this a0 m := by
  unfold ca_X0_pack f_X6_add
  rw [show Nat.ble 37 37 = true from rfl, cond_true, show Nat.ble 38 37 = false from rfl, cond_false, show Nat.beq 37 37 = true from rfl, cond_true]
theorem cq_X0_pack_X6_put (this : Nat) (a0 : Int32) (a1 : Int32) (m : sl_M) : ca_X0_pack 38 [.inr (.inl (some (6, this))), .inl a0, .inl a1] m = f_X6_put this a0 a1 m := by
  unfold ca_X0_pack f_X6_put
  rw [show Nat.ble 37 38 = true from rfl, cond_true, show Nat.ble 38 38 = true from rfl, cond_true, show Nat.beq 38 38 = true from rfl, cond_true]
theorem bq_X0_pack_17 (n : Nat) (v0 : Nat) (v1 : Nat) (v2 : Int32) (v3 : Int32) (v4 : Int32) (m : sl_M) : r_X0_pack_17 ca_X0_pack n v0 v1 v2 v3 v4 m = b_X0_pack_17 n v0 v1 v2 v3 v4 m := rfl
theorem e_X0_pack (a0 : Nat) (a1 : Nat) (m : sl_M) : f_X0_pack a0 a1 m =
  (f_X6_clear a1 m).bind (fun q1 =>
  (f_X6_add a1 (1 : Int32) q1.2).bind (fun q2 =>
  b_X0_pack_17 99999 a0 a1 (0 : Int32) (1 : Int32) (0 : Int32) q2.2)) := by
  have h := g_X0_pack_0 ca_X0_pack 99999 a0 a1 m
  simp only [cq_X0_pack_X6_clear, cq_X0_pack_X6_at, cq_X0_pack_X6_add, cq_X0_pack_X6_put, bq_X0_pack_17] at h
  exact h
theorem e_X0_pack_17 (n : Nat) (v0 : Nat) (v1 : Nat) (v2 : Int32) (v3 : Int32) (v4 : Int32) (m : sl_M) : b_X0_pack_17 (n + 1) v0 v1 v2 v3 v4 m =
  if (m.1 6 v0 1) ≤ v4 then
    (f_X6_put v1 v2 v3 m).bind (fun q1 =>
    some ((0, 0, 0), q1.2))
  else
    (f_X6_at v0 v4 m).bind (fun q2 =>
    if q2.1.1 = 0 then
      if q2.1.1 = 0 then
        (f_X6_put v1 v2 v3 q2.2).bind (fun q3 =>
        (f_X6_add v1 (1 : Int32) q3.2).bind (fun q4 =>
        b_X0_pack_17 n v0 v1 (q3.2.1 6 v1 1) (1 : Int32) (v4 + (1 : Int32)) q4.2))
      else
        if v3 = (255 : Int32) then
          (f_X6_put v1 v2 v3 q2.2).bind (fun q5 =>
          (f_X6_add v1 (1 : Int32) q5.2).bind (fun q6 =>
          b_X0_pack_17 n v0 v1 (q5.2.1 6 v1 1) (1 : Int32) (v4 + (1 : Int32)) q6.2))
        else
          b_X0_pack_17 n v0 v1 v2 v3 (v4 + (1 : Int32)) q2.2
    else
      (f_X6_add v1 q2.1.1 q2.2).bind (fun q7 =>
      if q2.1.1 = 0 then
        (f_X6_put v1 v2 (v3 + (1 : Int32)) q7.2).bind (fun q8 =>
        (f_X6_add v1 (1 : Int32) q8.2).bind (fun q9 =>
        b_X0_pack_17 n v0 v1 (q8.2.1 6 v1 1) (1 : Int32) (v4 + (1 : Int32)) q9.2))
      else
        if (v3 + (1 : Int32)) = (255 : Int32) then
          (f_X6_put v1 v2 (v3 + (1 : Int32)) q7.2).bind (fun q10 =>
          (f_X6_add v1 (1 : Int32) q10.2).bind (fun q11 =>
          b_X0_pack_17 n v0 v1 (q10.2.1 6 v1 1) (1 : Int32) (v4 + (1 : Int32)) q11.2))
        else
          b_X0_pack_17 n v0 v1 v2 (v3 + (1 : Int32)) (v4 + (1 : Int32)) q7.2)) := by
  have h := g_X0_pack_17 ca_X0_pack n v0 v1 v2 v3 v4 m
  simp only [cq_X0_pack_X6_clear, cq_X0_pack_X6_at, cq_X0_pack_X6_add, cq_X0_pack_X6_put, bq_X0_pack_17] at h
  exact h

def tb_X0_unpack (p : Nat) : Option sl_E := bif Nat.ble 75 p then none else (bif Nat.ble 37 p then (bif Nat.ble 59 p then (bif Nat.ble 66 p then (bif Nat.ble 68 p then (bif Nat.ble 71 p then (bif Nat.ble 74 p then (bif Nat.beq p 74 then some (50, 0, 0, 1, []) else none) else (bif Nat.beq p 71 then some (34, 0, 13, 3, []) else none)) else (bif Nat.beq p 68 then some (5, 1, 4, 3, []) else none)) else (bif Nat.ble 67 p then (bif Nat.beq p 67 then some (3, 0, 3, 1, []) else none) else (bif Nat.beq p 66 then some (7, 0, 0, 1, []) else none))) else (bif Nat.ble 62 p then (bif Nat.ble 63 p then (bif Nat.ble 65 p then (bif Nat.beq p 65 then some (2, 1, 0, 1, []) else none) else (bif Nat.beq p 63 then some (0, 0, 5, 2, []) else none)) else (bif Nat.beq p 62 then some (3, 0, 2, 1, []) else none)) else (bif Nat.ble 60 p then (bif Nat.beq p 60 then some (0, 0, 5, 2, []) else none) else (bif Nat.beq p 59 then some (21, 0, 0, 1, []) else none)))) else (bif Nat.ble 48 p then (bif Nat.ble 54 p then (bif Nat.ble 55 p then (bif Nat.ble 56 p then (bif Nat.beq p 56 then some (46, 0, 19, 3, []) else none) else (bif Nat.beq p 55 then some (2, 0, 0, 1, []) else none)) else (bif Nat.beq p 54 then some (1, 0, 1, 1, []) else none)) else (bif Nat.ble 51 p then (bif Nat.beq p 51 then some (22, 0, 60, 3, []) else none) else (bif Nat.beq p 48 then some (2, 255, 0, 3, []) else none))) else (bif Nat.ble 41 p then (bif Nat.ble 44 p then (bif Nat.ble 47 p then (bif Nat.beq p 47 then some (0, 0, 2, 1, []) else none) else (bif Nat.beq p 44 then some (34, 0, 68, 3, []) else none)) else (bif Nat.beq p 41 then some (5, (-1), 3, 3, []) else none)) else (bif Nat.ble 40 p then (bif Nat.beq p 40 then some (21, 0, 0, 1, []) else none) else (bif Nat.beq p 37 then some (46, 0, 19, 3, []) else none))))) else (bif Nat.ble 16 p then (bif Nat.ble 28 p then (bif Nat.ble 31 p then (bif Nat.ble 34 p then (bif Nat.ble 35 p then (bif Nat.beq p 35 then some (0, 0, 5, 2, []) else none) else (bif Nat.beq p 34 then some (1, 0, 1, 1, []) else none)) else (bif Nat.beq p 31 then some (33, 0, 47, 3, []) else none)) else (bif Nat.ble 30 p then (bif Nat.beq p 30 then some (0, 0, 3, 1, []) else none) else (bif Nat.beq p 28 then some (3, 0, 5, 2, []) else none))) else (bif Nat.ble 22 p then (bif Nat.ble 23 p then (bif Nat.ble 25 p then (bif Nat.beq p 25 then some (46, 0, 9, 3, []) else none) else (bif Nat.beq p 23 then some (0, 0, 4, 2, []) else none)) else (bif Nat.beq p 22 then some (1, 0, 0, 1, []) else none)) else (bif Nat.ble 19 p then (bif Nat.beq p 19 then some (25, 0, 74, 3, []) else none) else (bif Nat.beq p 16 then some (35, 0, 23, 3, []) else none)))) else (bif Nat.ble 9 p then (bif Nat.ble 11 p then (bif Nat.ble 13 p then (bif Nat.ble 15 p then (bif Nat.beq p 15 then some (1, 0, 0, 1, []) else none) else (bif Nat.beq p 13 then some (0, 0, 4, 2, []) else none)) else (bif Nat.beq p 11 then some (3, 0, 4, 2, []) else none)) else (bif Nat.ble 10 p then (bif Nat.beq p 10 then some (2, 0, 0, 1, []) else none) else (bif Nat.beq p 9 then some (3, 0, 3, 1, []) else none))) else (bif Nat.ble 4 p then (bif Nat.ble 7 p then (bif Nat.ble 8 p then (bif Nat.beq p 8 then some (2, 0, 0, 1, []) else none) else (bif Nat.beq p 7 then some (3, 0, 2, 1, []) else none)) else (bif Nat.beq p 4 then some (2, 255, 0, 3, []) else none)) else (bif Nat.ble 1 p then (bif Nat.beq p 1 then some (46, 0, 16, 3, []) else none) else (bif Nat.beq p 0 then some (1, 0, 1, 1, []) else none))))))
def ca_X0_unpack (y : Nat) (as : List sl_V) (m : sl_M) : Option (sl_PL × sl_M) := bif Nat.ble 36 y then (bif Nat.ble 37 y then (bif Nat.beq y 37 then F_X6_add as m else none) else (bif Nat.beq y 36 then F_X6_at as m else none)) else (bif Nat.beq y 33 then F_X6_clear as m else none)
def sp_X0_unpack (p : Nat) : Bool := Nat.beq p 13
def mk_X0_unpack (p : Nat) : List Bool := bif Nat.beq p 13 then [true, true, true, true, true, false] else []
def cl_X0_unpack (p : Nat) : Option sl_C := bif Nat.ble 20 p then none else (bif Nat.ble 16 p then (bif Nat.ble 19 p then (bif Nat.beq p 19 then some (37, 2, 1, 0, 0, 7) else none) else (bif Nat.beq p 16 then some (33, 1, 0, 0, 0, 7) else none)) else (bif Nat.beq p 9 then some (36, 2, 1, 0, 0, 7) else none))
def R_X0_unpack (ca : Nat → List sl_V → sl_M → Option (sl_PL × sl_M)) : Nat → sl_S → sl_M → Option (sl_PL × sl_M) := sl_B tb_X0_unpack fl_X0 pf_X0 cl_X0_unpack nw_X0 sl_rd sl_wr sl_al sl_ln 0 (fun _ => 0) ca sp_X0_unpack mk_X0_unpack
def F_X0_unpack (as : List sl_V) (m : sl_M) : Option (sl_PL × sl_M) := R_X0_unpack ca_X0_unpack 100000 (0, sl_lo 6 as, []) m
def f_X0_unpack (a0 : Nat) (a1 : Nat) (m : sl_M) : Option (sl_PL × sl_M) := F_X0_unpack [.inr (.inl (some (6, a0))), .inr (.inl (some (6, a1)))] m
def r_X0_unpack_0 (ca : Nat → List sl_V → sl_M → Option (sl_PL × sl_M)) (n : Nat) (a0 : Nat) (a1 : Nat) (m : sl_M) : Option (sl_PL × sl_M) := R_X0_unpack ca n (0, sl_lo 6 [.inr (.inl (some (6, a0))), .inr (.inl (some (6, a1)))], []) m
def r_X0_unpack_13 (ca : Nat → List sl_V → sl_M → Option (sl_PL × sl_M)) (n : Nat) (v0 : Nat) (v1 : Nat) (v2 : Int32) (v3 : Int32) (v4 : Int32) (m : sl_M) : Option (sl_PL × sl_M) := R_X0_unpack ca n (13, [some (.inr (.inl (some (6, v0)))), some (.inr (.inl (some (6, v1)))), some (.inl v2), some (.inl v3), some (.inl v4), none], []) m
def b_X0_unpack_13 (n : Nat) (v0 : Nat) (v1 : Nat) (v2 : Int32) (v3 : Int32) (v4 : Int32) (m : sl_M) : Option (sl_PL × sl_M) := r_X0_unpack_13 ca_X0_unpack n v0 v1 v2 v3 v4 m
set_option maxRecDepth 100000 in
theorem g_X0_unpack_0 (ca : Nat → List sl_V → sl_M → Option (sl_PL × sl_M)) (n : Nat) (a0 : Nat) (a1 : Nat) (m : sl_M) : r_X0_unpack_0 ca (n + 1) a0 a1 m =
  (ca 33 [.inr (.inl (some (6, a1)))] m).bind (fun q1 =>
  r_X0_unpack_13 ca n a0 a1 (255 : Int32) (0 : Int32) (0 : Int32) q1.2) := by rfl
set_option maxRecDepth 100000 in
theorem g_X0_unpack_13 (ca : Nat → List sl_V → sl_M → Option (sl_PL × sl_M)) (n : Nat) (v0 : Nat) (v1 : Nat) (v2 : Int32) (v3 : Int32) (v4 : Int32) (m : sl_M) : r_X0_unpack_13 ca (n + 1) v0 v1 v2 v3 v4 m =
  if (m.1 6 v0 1) ≤ v4 then
    some ((0, 0, 0), m)
  else
    (ca 36 [.inr (.inl (some (6, v0))), .inl v4] m).bind (fun q1 =>
    if v3 ≤ 0 then
      if v2 = (255 : Int32) then
        r_X0_unpack_13 ca n v0 v1 q1.1.1 (q1.1.1 - (1 : Int32)) (v4 + (1 : Int32)) q1.2
      else
        (ca 37 [.inr (.inl (some (6, v1))), .inl (0 : Int32)] q1.2).bind (fun q2 =>
        r_X0_unpack_13 ca n v0 v1 q1.1.1 (q1.1.1 - (1 : Int32)) (v4 + (1 : Int32)) q2.2)
    else
      (ca 37 [.inr (.inl (some (6, v1))), .inl q1.1.1] q1.2).bind (fun q3 =>
      r_X0_unpack_13 ca n v0 v1 v2 (v3 + (-1 : Int32)) (v4 + (1 : Int32)) q3.2)) := by rfl
theorem cq_X0_unpack_X6_clear (this : Nat) (m : sl_M) : ca_X0_unpack 33 [.inr (.inl (some (6, this)))] m = f_X6_clear this m := by
  unfold ca_X0_unpack f_X6_clear
  rw [show Nat.ble 36 33 = false from rfl, cond_false, show Nat.beq 33 33 = true from rfl, cond_true]
theorem cq_X0_unpack_X6_at (this : Nat) (a0 : Int32) (m : sl_M) : ca_X0_unpack 36 [.inr (.inl (some (6, this))), .inl a0] m = f_X6_at this a0 m := by
  unfold ca_X0_unpack f_X6_at
  rw [show Nat.ble 36 36 = true from rfl, cond_true, show Nat.ble 37 36 = false from rfl, cond_false, show Nat.beq 36 36 = true from rfl, cond_true]
theorem cq_X0_unpack_X6_add (this : Nat) (a0 : Int32) (m : sl_M) : ca_X0_unpack 37 [.inr (.inl (some (6, this))), .inl a0] m = f_X6_add this a0 m := by
  unfold ca_X0_unpack f_X6_add
  rw [show Nat.ble 36 37 = true from rfl, cond_true, show Nat.ble 37 37 = true from rfl, cond_true, show Nat.beq 37 37 = true from rfl, cond_true]
theorem bq_X0_unpack_13 (n : Nat) (v0 : Nat) (v1 : Nat) (v2 : Int32) (v3 : Int32) (v4 : Int32) (m : sl_M) : r_X0_unpack_13 ca_X0_unpack n v0 v1 v2 v3 v4 m = b_X0_unpack_13 n v0 v1 v2 v3 v4 m := rfl
theorem e_X0_unpack (a0 : Nat) (a1 : Nat) (m : sl_M) : f_X0_unpack a0 a1 m =
  (f_X6_clear a1 m).bind (fun q1 =>
  b_X0_unpack_13 99999 a0 a1 (255 : Int32) (0 : Int32) (0 : Int32) q1.2) := by
  have h := g_X0_unpack_0 ca_X0_unpack 99999 a0 a1 m
  simp only [cq_X0_unpack_X6_clear, cq_X0_unpack_X6_at, cq_X0_unpack_X6_add, bq_X0_unpack_13] at h
  exact h
theorem e_X0_unpack_13 (n : Nat) (v0 : Nat) (v1 : Nat) (v2 : Int32) (v3 : Int32) (v4 : Int32) (m : sl_M) : b_X0_unpack_13 (n + 1) v0 v1 v2 v3 v4 m =
  if (m.1 6 v0 1) ≤ v4 then
    some ((0, 0, 0), m)
  else
    (f_X6_at v0 v4 m).bind (fun q1 =>
    if v3 ≤ 0 then
      if v2 = (255 : Int32) then
        b_X0_unpack_13 n v0 v1 q1.1.1 (q1.1.1 - (1 : Int32)) (v4 + (1 : Int32)) q1.2
      else
        (f_X6_add v1 (0 : Int32) q1.2).bind (fun q2 =>
        b_X0_unpack_13 n v0 v1 q1.1.1 (q1.1.1 - (1 : Int32)) (v4 + (1 : Int32)) q2.2)
    else
      (f_X6_add v1 q1.1.1 q1.2).bind (fun q3 =>
      b_X0_unpack_13 n v0 v1 v2 (v3 + (-1 : Int32)) (v4 + (1 : Int32)) q3.2)) := by
  have h := g_X0_unpack_13 ca_X0_unpack n v0 v1 v2 v3 v4 m
  simp only [cq_X0_unpack_X6_clear, cq_X0_unpack_X6_at, cq_X0_unpack_X6_add, bq_X0_unpack_13] at h
  exact h

def tb_X1_forgetHeard (p : Nat) : Option sl_E := bif Nat.ble 13 p then none else (bif Nat.ble 7 p then (bif Nat.ble 9 p then (bif Nat.ble 12 p then (bif Nat.beq p 12 then some (50, 0, 0, 1, []) else none) else (bif Nat.beq p 9 then some (36, 0, 62, 3, []) else none)) else (bif Nat.ble 8 p then (bif Nat.beq p 8 then some (2, 0, 0, 1, []) else none) else (bif Nat.beq p 7 then some (1, 0, 0, 1, []) else none))) else (bif Nat.ble 1 p then (bif Nat.ble 4 p then (bif Nat.beq p 4 then some (46, 0, 61, 3, []) else none) else (bif Nat.beq p 1 then some (35, 0, 14, 3, []) else none)) else (bif Nat.beq p 0 then some (1, 0, 0, 1, []) else none)))
def ca_X1_forgetHeard (y : Nat) (as : List sl_V) (m : sl_M) : Option (sl_PL × sl_M) := bif Nat.beq y 33 then F_X6_clear as m else none
def sp_X1_forgetHeard (p : Nat) : Bool := false
def mk_X1_forgetHeard (p : Nat) : List Bool := []
def cl_X1_forgetHeard (p : Nat) : Option sl_C := bif Nat.ble 62 p then none else (bif Nat.beq p 61 then some (33, 1, 0, 0, 0, 7) else none)
def R_X1_forgetHeard (ca : Nat → List sl_V → sl_M → Option (sl_PL × sl_M)) : Nat → sl_S → sl_M → Option (sl_PL × sl_M) := sl_B tb_X1_forgetHeard fl_X1 pf_X1 cl_X1_forgetHeard nw_X1 sl_rd sl_wr sl_al sl_ln 0 (fun _ => 0) ca sp_X1_forgetHeard mk_X1_forgetHeard
def F_X1_forgetHeard (as : List sl_V) (m : sl_M) : Option (sl_PL × sl_M) := R_X1_forgetHeard ca_X1_forgetHeard 100000 (0, sl_lo 1 as, []) m
def f_X1_forgetHeard (this : Nat) (m : sl_M) : Option (sl_PL × sl_M) := F_X1_forgetHeard [.inr (.inl (some (1, this)))] m
def r_X1_forgetHeard_0 (ca : Nat → List sl_V → sl_M → Option (sl_PL × sl_M)) (n : Nat) (this : Nat) (m : sl_M) : Option (sl_PL × sl_M) := R_X1_forgetHeard ca n (0, sl_lo 1 [.inr (.inl (some (1, this)))], []) m
set_option maxRecDepth 100000 in
theorem g_X1_forgetHeard_0 (ca : Nat → List sl_V → sl_M → Option (sl_PL × sl_M)) (n : Nat) (this : Nat) (m : sl_M) : r_X1_forgetHeard_0 ca (n + 1) this m =
  (ca 33 [.inr (.inl (some (6, (10 + this))))] m).bind (fun q1 =>
  some ((0, 0, 0), (sl_up q1.2 1 this 5 (0 : Int32)))) := by rfl
theorem cq_X1_forgetHeard_X6_clear (this : Nat) (m : sl_M) : ca_X1_forgetHeard 33 [.inr (.inl (some (6, this)))] m = f_X6_clear this m := by
  unfold ca_X1_forgetHeard f_X6_clear
  rw [show Nat.beq 33 33 = true from rfl, cond_true]
theorem e_X1_forgetHeard (this : Nat) (m : sl_M) : f_X1_forgetHeard this m =
  (f_X6_clear (10 + this) m).bind (fun q1 =>
  some ((0, 0, 0), (sl_up q1.2 1 this 5 (0 : Int32)))) := by
  have h := g_X1_forgetHeard_0 ca_X1_forgetHeard 99999 this m
  simp only [cq_X1_forgetHeard_X6_clear] at h
  exact h

def tb_J7_fill_53178 (p : Nat) : Option sl_E := bif Nat.ble 21 p then none else (bif Nat.ble 7 p then (bif Nat.ble 13 p then (bif Nat.ble 17 p then (bif Nat.ble 20 p then (bif Nat.beq p 20 then some (50, 0, 0, 1, []) else none) else (bif Nat.beq p 17 then some (34, 0, 5, 3, []) else none)) else (bif Nat.ble 14 p then (bif Nat.beq p 14 then some (5, 1, 2, 3, []) else none) else (bif Nat.beq p 13 then some (41, 0, 0, 1, []) else none))) else (bif Nat.ble 11 p then (bif Nat.ble 12 p then (bif Nat.beq p 12 then some (0, 0, 1, 1, []) else none) else (bif Nat.beq p 11 then some (0, 0, 2, 1, []) else none)) else (bif Nat.ble 10 p then (bif Nat.beq p 10 then some (1, 0, 0, 1, []) else none) else (bif Nat.beq p 7 then some (25, 0, 20, 3, []) else none)))) else (bif Nat.ble 3 p then (bif Nat.ble 5 p then (bif Nat.ble 6 p then (bif Nat.beq p 6 then some (0, 0, 3, 1, []) else none) else (bif Nat.beq p 5 then some (0, 0, 2, 1, []) else none)) else (bif Nat.ble 4 p then (bif Nat.beq p 4 then some (3, 0, 3, 1, []) else none) else (bif Nat.beq p 3 then some (45, 0, 0, 1, []) else none))) else (bif Nat.ble 1 p then (bif Nat.ble 2 p then (bif Nat.beq p 2 then some (1, 0, 0, 1, []) else none) else (bif Nat.beq p 1 then some (3, 0, 2, 1, []) else none)) else (bif Nat.beq p 0 then some (2, 0, 0, 1, []) else none))))
def ca_J7_fill_53178 (y : Nat) (as : List sl_V) (m : sl_M) : Option (sl_PL × sl_M) := none
def sp_J7_fill_53178 (p : Nat) : Bool := Nat.beq p 5
def mk_J7_fill_53178 (p : Nat) : List Bool := bif Nat.beq p 5 then [true, true, true, true] else []
def cl_J7_fill_53178 (p : Nat) : Option sl_C := none
def R_J7_fill_53178 (ca : Nat → List sl_V → sl_M → Option (sl_PL × sl_M)) : Nat → sl_S → sl_M → Option (sl_PL × sl_M) := sl_B tb_J7_fill_53178 fl_J7 pf_J7 cl_J7_fill_53178 nw_J7 sl_rd sl_wr sl_al sl_ln 0 (fun _ => 0) ca sp_J7_fill_53178 mk_J7_fill_53178
def F_J7_fill_53178 (as : List sl_V) (m : sl_M) : Option (sl_PL × sl_M) := R_J7_fill_53178 ca_J7_fill_53178 100000 (0, sl_lo 4 as, []) m
def f_J7_fill_53178 (a0 : Nat) (a1 : Int32) (m : sl_M) : Option (sl_PL × sl_M) := F_J7_fill_53178 [.inr (.inl (some (27, a0))), .inl a1] m
def r_J7_fill_53178_0 (ca : Nat → List sl_V → sl_M → Option (sl_PL × sl_M)) (n : Nat) (a0 : Nat) (a1 : Int32) (m : sl_M) : Option (sl_PL × sl_M) := R_J7_fill_53178 ca n (0, sl_lo 4 [.inr (.inl (some (27, a0))), .inl a1], []) m
def r_J7_fill_53178_5 (ca : Nat → List sl_V → sl_M → Option (sl_PL × sl_M)) (n : Nat) (v0 : Nat) (v1 : Int32) (v2 : Int32) (v3 : Int32) (m : sl_M) : Option (sl_PL × sl_M) := R_J7_fill_53178 ca n (5, [some (.inr (.inl (some (27, v0)))), some (.inl v1), some (.inl v2), some (.inl v3)], []) m
def b_J7_fill_53178_5 (n : Nat) (v0 : Nat) (v1 : Int32) (v2 : Int32) (v3 : Int32) (m : sl_M) : Option (sl_PL × sl_M) := r_J7_fill_53178_5 ca_J7_fill_53178 n v0 v1 v2 v3 m
set_option maxRecDepth 100000 in
theorem g_J7_fill_53178_0 (ca : Nat → List sl_V → sl_M → Option (sl_PL × sl_M)) (n : Nat) (a0 : Nat) (a1 : Int32) (m : sl_M) : r_J7_fill_53178_0 ca (n + 1) a0 a1 m =
  r_J7_fill_53178_5 ca n a0 a1 (0 : Int32) (Int32.ofNat (sl_l7 a0)) m := by rfl
set_option maxRecDepth 100000 in
theorem g_J7_fill_53178_5 (ca : Nat → List sl_V → sl_M → Option (sl_PL × sl_M)) (n : Nat) (v0 : Nat) (v1 : Int32) (v2 : Int32) (v3 : Int32) (m : sl_M) : r_J7_fill_53178_5 ca (n + 1) v0 v1 v2 v3 m =
  if v3 ≤ v2 then
    some ((0, 0, 0), m)
  else
    if 0 ≤ v2 ∧ v2.toNatClampNeg < sl_l7 v0 then
    r_J7_fill_53178_5 ca n v0 v1 (v2 + (1 : Int32)) v3 (sl_up m 27 v0 v2.toNatClampNeg v1)
    else none := by rfl
theorem bq_J7_fill_53178_5 (n : Nat) (v0 : Nat) (v1 : Int32) (v2 : Int32) (v3 : Int32) (m : sl_M) : r_J7_fill_53178_5 ca_J7_fill_53178 n v0 v1 v2 v3 m = b_J7_fill_53178_5 n v0 v1 v2 v3 m := rfl
theorem e_J7_fill_53178 (a0 : Nat) (a1 : Int32) (m : sl_M) : f_J7_fill_53178 a0 a1 m =
  b_J7_fill_53178_5 99999 a0 a1 (0 : Int32) (Int32.ofNat (sl_l7 a0)) m := by
  have h := g_J7_fill_53178_0 ca_J7_fill_53178 99999 a0 a1 m
  simp only [bq_J7_fill_53178_5] at h
  exact h
theorem e_J7_fill_53178_5 (n : Nat) (v0 : Nat) (v1 : Int32) (v2 : Int32) (v3 : Int32) (m : sl_M) : b_J7_fill_53178_5 (n + 1) v0 v1 v2 v3 m =
  if v3 ≤ v2 then
    some ((0, 0, 0), m)
  else
    if 0 ≤ v2 ∧ v2.toNatClampNeg < sl_l7 v0 then
    b_J7_fill_53178_5 n v0 v1 (v2 + (1 : Int32)) v3 (sl_up m 27 v0 v2.toNatClampNeg v1)
    else none := by
  have h := g_J7_fill_53178_5 ca_J7_fill_53178 n v0 v1 v2 v3 m
  simp only [bq_J7_fill_53178_5] at h
  exact h

def tb_X5_clear (p : Nat) : Option sl_E := bif Nat.ble 21 p then none else (bif Nat.ble 9 p then (bif Nat.ble 16 p then (bif Nat.ble 17 p then (bif Nat.ble 20 p then (bif Nat.beq p 20 then some (50, 0, 0, 1, []) else none) else (bif Nat.beq p 17 then some (46, 0, 49, 3, []) else none)) else (bif Nat.beq p 16 then some (2, 0, 0, 1, []) else none)) else (bif Nat.ble 12 p then (bif Nat.ble 13 p then (bif Nat.beq p 13 then some (35, 0, 20, 3, []) else none) else (bif Nat.beq p 12 then some (1, 0, 0, 1, []) else none)) else (bif Nat.beq p 9 then some (36, 0, 46, 3, []) else none))) else (bif Nat.ble 4 p then (bif Nat.ble 7 p then (bif Nat.ble 8 p then (bif Nat.beq p 8 then some (2, 0, 0, 1, []) else none) else (bif Nat.beq p 7 then some (1, 0, 0, 1, []) else none)) else (bif Nat.beq p 4 then some (46, 0, 43, 3, []) else none)) else (bif Nat.ble 1 p then (bif Nat.beq p 1 then some (35, 0, 14, 3, []) else none) else (bif Nat.beq p 0 then some (1, 0, 0, 1, []) else none))))
def ca_X5_clear (y : Nat) (as : List sl_V) (m : sl_M) : Option (sl_PL × sl_M) := bif Nat.ble 137 y then (bif Nat.beq y 137 then F_J7_fill_53178 as m else none) else (bif Nat.beq y 33 then F_X6_clear as m else none)
def sp_X5_clear (p : Nat) : Bool := false
def mk_X5_clear (p : Nat) : List Bool := []
def cl_X5_clear (p : Nat) : Option sl_C := bif Nat.ble 50 p then none else (bif Nat.ble 49 p then (bif Nat.beq p 49 then some (137, 2, 0, 0, 0, 0) else none) else (bif Nat.beq p 43 then some (33, 1, 0, 0, 0, 7) else none))
def R_X5_clear (ca : Nat → List sl_V → sl_M → Option (sl_PL × sl_M)) : Nat → sl_S → sl_M → Option (sl_PL × sl_M) := sl_B tb_X5_clear fl_X5 pf_X5 cl_X5_clear nw_X5 sl_rd sl_wr sl_al sl_ln 0 (fun _ => 0) ca sp_X5_clear mk_X5_clear
def F_X5_clear (as : List sl_V) (m : sl_M) : Option (sl_PL × sl_M) := R_X5_clear ca_X5_clear 100000 (0, sl_lo 1 as, []) m
def f_X5_clear (this : Nat) (m : sl_M) : Option (sl_PL × sl_M) := F_X5_clear [.inr (.inl (some (5, this)))] m
def r_X5_clear_0 (ca : Nat → List sl_V → sl_M → Option (sl_PL × sl_M)) (n : Nat) (this : Nat) (m : sl_M) : Option (sl_PL × sl_M) := R_X5_clear ca n (0, sl_lo 1 [.inr (.inl (some (5, this)))], []) m
set_option maxRecDepth 100000 in
theorem g_X5_clear_0 (ca : Nat → List sl_V → sl_M → Option (sl_PL × sl_M)) (n : Nat) (this : Nat) (m : sl_M) : r_X5_clear_0 ca (n + 1) this m =
  (ca 33 [.inr (.inl (some (6, (6 + this))))] m).bind (fun q1 =>
  (ca 137 [.inr (.inl (some (27, this))), .inl (0 : Int32)] (sl_up q1.2 5 this 4 (0 : Int32))).bind (fun q2 =>
  some ((0, 0, 0), q2.2))) := by rfl
theorem cq_X5_clear_X6_clear (this : Nat) (m : sl_M) : ca_X5_clear 33 [.inr (.inl (some (6, this)))] m = f_X6_clear this m := by
  unfold ca_X5_clear f_X6_clear
  rw [show Nat.ble 137 33 = false from rfl, cond_false, show Nat.beq 33 33 = true from rfl, cond_true]
theorem cq_X5_clear_J7_fill_53178 (a0 : Nat) (a1 : Int32) (m : sl_M) : ca_X5_clear 137 [.inr (.inl (some (27, a0))), .inl a1] m = f_J7_fill_53178 a0 a1 m := by
  unfold ca_X5_clear f_J7_fill_53178
  rw [show Nat.ble 137 137 = true from rfl, cond_true, show Nat.beq 137 137 = true from rfl, cond_true]
theorem e_X5_clear (this : Nat) (m : sl_M) : f_X5_clear this m =
  (f_X6_clear (6 + this) m).bind (fun q1 =>
  (f_J7_fill_53178 this (0 : Int32) (sl_up q1.2 5 this 4 (0 : Int32))).bind (fun q2 =>
  some ((0, 0, 0), q2.2))) := by
  have h := g_X5_clear_0 ca_X5_clear 99999 this m
  simp only [cq_X5_clear_X6_clear, cq_X5_clear_J7_fill_53178] at h
  exact h

def tb_X7_clear (p : Nat) : Option sl_E := bif Nat.ble 33 p then none else (bif Nat.ble 17 p then (bif Nat.ble 24 p then (bif Nat.ble 28 p then (bif Nat.ble 29 p then (bif Nat.ble 32 p then (bif Nat.beq p 32 then some (50, 0, 0, 1, []) else none) else (bif Nat.beq p 29 then some (36, 0, 62, 3, []) else none)) else (bif Nat.beq p 28 then some (2, 0, 0, 1, []) else none)) else (bif Nat.ble 27 p then (bif Nat.beq p 27 then some (1, 0, 0, 1, []) else none) else (bif Nat.beq p 24 then some (36, 0, 59, 3, []) else none))) else (bif Nat.ble 19 p then (bif Nat.ble 22 p then (bif Nat.ble 23 p then (bif Nat.beq p 23 then some (2, 0, 0, 1, []) else none) else (bif Nat.beq p 22 then some (1, 0, 0, 1, []) else none)) else (bif Nat.beq p 19 then some (36, 0, 56, 3, []) else none)) else (bif Nat.ble 18 p then (bif Nat.beq p 18 then some (2, 0, 0, 1, []) else none) else (bif Nat.beq p 17 then some (1, 0, 0, 1, []) else none)))) else (bif Nat.ble 8 p then (bif Nat.ble 12 p then (bif Nat.ble 13 p then (bif Nat.ble 14 p then (bif Nat.beq p 14 then some (36, 0, 53, 3, []) else none) else (bif Nat.beq p 13 then some (2, 0, 0, 1, []) else none)) else (bif Nat.beq p 12 then some (1, 0, 0, 1, []) else none)) else (bif Nat.ble 9 p then (bif Nat.beq p 9 then some (36, 0, 49, 3, []) else none) else (bif Nat.beq p 8 then some (2, 0, 0, 1, []) else none))) else (bif Nat.ble 4 p then (bif Nat.ble 7 p then (bif Nat.beq p 7 then some (1, 0, 0, 1, []) else none) else (bif Nat.beq p 4 then some (46, 0, 46, 3, []) else none)) else (bif Nat.ble 1 p then (bif Nat.beq p 1 then some (35, 0, 14, 3, []) else none) else (bif Nat.beq p 0 then some (1, 0, 0, 1, []) else none)))))
def ca_X7_clear (y : Nat) (as : List sl_V) (m : sl_M) : Option (sl_PL × sl_M) := bif Nat.beq y 33 then F_X6_clear as m else none
def sp_X7_clear (p : Nat) : Bool := false
def mk_X7_clear (p : Nat) : List Bool := []
def cl_X7_clear (p : Nat) : Option sl_C := bif Nat.ble 47 p then none else (bif Nat.beq p 46 then some (33, 1, 0, 0, 0, 7) else none)
def R_X7_clear (ca : Nat → List sl_V → sl_M → Option (sl_PL × sl_M)) : Nat → sl_S → sl_M → Option (sl_PL × sl_M) := sl_B tb_X7_clear fl_X7 pf_X7 cl_X7_clear nw_X7 sl_rd sl_wr sl_al sl_ln 0 (fun _ => 0) ca sp_X7_clear mk_X7_clear
def F_X7_clear (as : List sl_V) (m : sl_M) : Option (sl_PL × sl_M) := R_X7_clear ca_X7_clear 100000 (0, sl_lo 1 as, []) m
def f_X7_clear (this : Nat) (m : sl_M) : Option (sl_PL × sl_M) := F_X7_clear [.inr (.inl (some (7, this)))] m
def r_X7_clear_0 (ca : Nat → List sl_V → sl_M → Option (sl_PL × sl_M)) (n : Nat) (this : Nat) (m : sl_M) : Option (sl_PL × sl_M) := R_X7_clear ca n (0, sl_lo 1 [.inr (.inl (some (7, this)))], []) m
set_option maxRecDepth 100000 in
theorem g_X7_clear_0 (ca : Nat → List sl_V → sl_M → Option (sl_PL × sl_M)) (n : Nat) (this : Nat) (m : sl_M) : r_X7_clear_0 ca (n + 1) this m =
  (ca 33 [.inr (.inl (some (6, (4 + this))))] m).bind (fun q1 =>
  some ((0, 0, 0), (sl_up (sl_up (sl_up (sl_up (sl_up q1.2 7 this 4 (0 : Int32)) 7 this 5 (0 : Int32)) 7 this 6 (0 : Int32)) 7 this 7 (0 : Int32)) 7 this 8 (0 : Int32)))) := by rfl
theorem cq_X7_clear_X6_clear (this : Nat) (m : sl_M) : ca_X7_clear 33 [.inr (.inl (some (6, this)))] m = f_X6_clear this m := by
  unfold ca_X7_clear f_X6_clear
  rw [show Nat.beq 33 33 = true from rfl, cond_true]
theorem e_X7_clear (this : Nat) (m : sl_M) : f_X7_clear this m =
  (f_X6_clear (4 + this) m).bind (fun q1 =>
  some ((0, 0, 0), (sl_up (sl_up (sl_up (sl_up (sl_up q1.2 7 this 4 (0 : Int32)) 7 this 5 (0 : Int32)) 7 this 6 (0 : Int32)) 7 this 7 (0 : Int32)) 7 this 8 (0 : Int32)))) := by
  have h := g_X7_clear_0 ca_X7_clear 99999 this m
  simp only [cq_X7_clear_X6_clear] at h
  exact h

def tb_X1_clear (p : Nat) : Option sl_E := bif Nat.ble 19 p then none else (bif Nat.ble 8 p then (bif Nat.ble 14 p then (bif Nat.ble 15 p then (bif Nat.ble 18 p then (bif Nat.beq p 18 then some (50, 0, 0, 1, []) else none) else (bif Nat.beq p 15 then some (46, 0, 58, 3, []) else none)) else (bif Nat.beq p 14 then some (1, 0, 0, 1, []) else none)) else (bif Nat.ble 11 p then (bif Nat.beq p 11 then some (46, 0, 57, 3, []) else none) else (bif Nat.beq p 8 then some (35, 0, 50, 3, []) else none))) else (bif Nat.ble 4 p then (bif Nat.ble 7 p then (bif Nat.beq p 7 then some (1, 0, 0, 1, []) else none) else (bif Nat.beq p 4 then some (46, 0, 54, 3, []) else none)) else (bif Nat.ble 1 p then (bif Nat.beq p 1 then some (35, 0, 43, 3, []) else none) else (bif Nat.beq p 0 then some (1, 0, 0, 1, []) else none))))
def ca_X1_clear (y : Nat) (as : List sl_V) (m : sl_M) : Option (sl_PL × sl_M) := bif Nat.ble 25 y then (bif Nat.ble 41 y then (bif Nat.beq y 41 then F_X7_clear as m else none) else (bif Nat.beq y 25 then F_X5_clear as m else none)) else (bif Nat.beq y 5 then F_X1_forgetHeard as m else none)
def sp_X1_clear (p : Nat) : Bool := false
def mk_X1_clear (p : Nat) : List Bool := []
def cl_X1_clear (p : Nat) : Option sl_C := bif Nat.ble 59 p then none else (bif Nat.ble 57 p then (bif Nat.ble 58 p then (bif Nat.beq p 58 then some (5, 1, 0, 0, 0, 2) else none) else (bif Nat.beq p 57 then some (25, 1, 0, 0, 0, 6) else none)) else (bif Nat.beq p 54 then some (41, 1, 0, 0, 0, 8) else none))
def R_X1_clear (ca : Nat → List sl_V → sl_M → Option (sl_PL × sl_M)) : Nat → sl_S → sl_M → Option (sl_PL × sl_M) := sl_B tb_X1_clear fl_X1 pf_X1 cl_X1_clear nw_X1 sl_rd sl_wr sl_al sl_ln 0 (fun _ => 0) ca sp_X1_clear mk_X1_clear
def F_X1_clear (as : List sl_V) (m : sl_M) : Option (sl_PL × sl_M) := R_X1_clear ca_X1_clear 100000 (0, sl_lo 1 as, []) m
def f_X1_clear (this : Nat) (m : sl_M) : Option (sl_PL × sl_M) := F_X1_clear [.inr (.inl (some (1, this)))] m
def r_X1_clear_0 (ca : Nat → List sl_V → sl_M → Option (sl_PL × sl_M)) (n : Nat) (this : Nat) (m : sl_M) : Option (sl_PL × sl_M) := R_X1_clear ca n (0, sl_lo 1 [.inr (.inl (some (1, this)))], []) m
set_option maxRecDepth 100000 in
theorem g_X1_clear_0 (ca : Nat → List sl_V → sl_M → Option (sl_PL × sl_M)) (n : Nat) (this : Nat) (m : sl_M) : r_X1_clear_0 ca (n + 1) this m =
  (ca 41 [.inr (.inl (some (7, this)))] m).bind (fun q1 =>
  (ca 25 [.inr (.inl (some (5, this)))] q1.2).bind (fun q2 =>
  (ca 5 [.inr (.inl (some (1, this)))] q2.2).bind (fun q3 =>
  some ((0, 0, 0), q3.2)))) := by rfl
theorem cq_X1_clear_X1_forgetHeard (this : Nat) (m : sl_M) : ca_X1_clear 5 [.inr (.inl (some (1, this)))] m = f_X1_forgetHeard this m := by
  unfold ca_X1_clear f_X1_forgetHeard
  rw [show Nat.ble 25 5 = false from rfl, cond_false, show Nat.beq 5 5 = true from rfl, cond_true]
theorem cq_X1_clear_X5_clear (this : Nat) (m : sl_M) : ca_X1_clear 25 [.inr (.inl (some (5, this)))] m = f_X5_clear this m := by
  unfold ca_X1_clear f_X5_clear
  rw [show Nat.ble 25 25 = true from rfl, cond_true, show Nat.ble 41 25 = false from rfl, cond_false, show Nat.beq 25 25 = true from rfl, cond_true]
theorem cq_X1_clear_X7_clear (this : Nat) (m : sl_M) : ca_X1_clear 41 [.inr (.inl (some (7, this)))] m = f_X7_clear this m := by
  unfold ca_X1_clear f_X7_clear
  rw [show Nat.ble 25 41 = true from rfl, cond_true, show Nat.ble 41 41 = true from rfl, cond_true, show Nat.beq 41 41 = true from rfl, cond_true]
theorem e_X1_clear (this : Nat) (m : sl_M) : f_X1_clear this m =
  (f_X7_clear this m).bind (fun q1 =>
  (f_X5_clear this q1.2).bind (fun q2 =>
  (f_X1_forgetHeard this q2.2).bind (fun q3 =>
  some ((0, 0, 0), q3.2)))) := by
  have h := g_X1_clear_0 ca_X1_clear 99999 this m
  simp only [cq_X1_clear_X1_forgetHeard, cq_X1_clear_X5_clear, cq_X1_clear_X7_clear] at h
  exact h

def tb_X1_loadOfBody (p : Nat) : Option sl_E := bif Nat.ble 12 p then none else (bif Nat.ble 8 p then (bif Nat.ble 10 p then (bif Nat.ble 11 p then (bif Nat.beq p 11 then some (47, 0, 1, 1, []) else none) else (bif Nat.beq p 10 then some (7, 0, 0, 1, []) else none)) else (bif Nat.ble 9 p then (bif Nat.beq p 9 then some (2, 4, 0, 1, []) else none) else (bif Nat.beq p 8 then some (7, 0, 0, 1, []) else none))) else (bif Nat.ble 4 p then (bif Nat.ble 7 p then (bif Nat.beq p 7 then some (2, 1, 0, 1, []) else none) else (bif Nat.beq p 4 then some (35, 0, 70, 3, []) else none)) else (bif Nat.ble 1 p then (bif Nat.beq p 1 then some (35, 0, 20, 3, []) else none) else (bif Nat.beq p 0 then some (1, 0, 0, 1, []) else none))))
def ca_X1_loadOfBody (y : Nat) (as : List sl_V) (m : sl_M) : Option (sl_PL × sl_M) := none
def sp_X1_loadOfBody (p : Nat) : Bool := false
def mk_X1_loadOfBody (p : Nat) : List Bool := []
def cl_X1_loadOfBody (p : Nat) : Option sl_C := none
def R_X1_loadOfBody (ca : Nat → List sl_V → sl_M → Option (sl_PL × sl_M)) : Nat → sl_S → sl_M → Option (sl_PL × sl_M) := sl_B tb_X1_loadOfBody fl_X1 pf_X1 cl_X1_loadOfBody nw_X1 sl_rd sl_wr sl_al sl_ln 0 (fun _ => 0) ca sp_X1_loadOfBody mk_X1_loadOfBody
def F_X1_loadOfBody (as : List sl_V) (m : sl_M) : Option (sl_PL × sl_M) := R_X1_loadOfBody ca_X1_loadOfBody 100000 (0, sl_lo 1 as, []) m
def f_X1_loadOfBody (this : Nat) (m : sl_M) : Option (sl_PL × sl_M) := F_X1_loadOfBody [.inr (.inl (some (1, this)))] m
def r_X1_loadOfBody_0 (ca : Nat → List sl_V → sl_M → Option (sl_PL × sl_M)) (n : Nat) (this : Nat) (m : sl_M) : Option (sl_PL × sl_M) := R_X1_loadOfBody ca n (0, sl_lo 1 [.inr (.inl (some (1, this)))], []) m
set_option maxRecDepth 100000 in
theorem g_X1_loadOfBody_0 (ca : Nat → List sl_V → sl_M → Option (sl_PL × sl_M)) (n : Nat) (this : Nat) (m : sl_M) : r_X1_loadOfBody_0 ca (n + 1) this m =
  some (((((m.1 6 (12 + this) 1) - (1 : Int32)) - (4 : Int32)), 0, 0), m) := by rfl
theorem e_X1_loadOfBody (this : Nat) (m : sl_M) : f_X1_loadOfBody this m =
  some (((((m.1 6 (12 + this) 1) - (1 : Int32)) - (4 : Int32)), 0, 0), m) := by
  have h := g_X1_loadOfBody_0 ca_X1_loadOfBody 99999 this m
  exact h

def tb_X1_checkHolds (p : Nat) : Option sl_E := bif Nat.ble 59 p then none else (bif Nat.ble 30 p then (bif Nat.ble 42 p then (bif Nat.ble 50 p then (bif Nat.ble 54 p then (bif Nat.ble 57 p then (bif Nat.ble 58 p then (bif Nat.beq p 58 then some (47, 0, 2, 1, []) else none) else (bif Nat.beq p 57 then some (2, 1, 0, 1, []) else none)) else (bif Nat.beq p 54 then some (34, 0, 21, 3, []) else none)) else (bif Nat.ble 51 p then (bif Nat.beq p 51 then some (5, 1, 3, 3, []) else none) else (bif Nat.beq p 50 then some (47, 0, 2, 1, []) else none))) else (bif Nat.ble 46 p then (bif Nat.ble 49 p then (bif Nat.beq p 49 then some (2, 0, 0, 1, []) else none) else (bif Nat.beq p 46 then some (22, 0, 51, 3, []) else none)) else (bif Nat.ble 45 p then (bif Nat.beq p 45 then some (11, 0, 0, 1, []) else none) else (bif Nat.beq p 42 then some (2, 255, 0, 3, []) else none)))) else (bif Nat.ble 36 p then (bif Nat.ble 39 p then (bif Nat.ble 40 p then (bif Nat.ble 41 p then (bif Nat.beq p 41 then some (16, 0, 0, 1, []) else none) else (bif Nat.beq p 40 then some (8, 0, 0, 1, []) else none)) else (bif Nat.beq p 39 then some (0, 0, 3, 1, []) else none)) else (bif Nat.ble 37 p then (bif Nat.beq p 37 then some (2, 8, 0, 2, []) else none) else (bif Nat.beq p 36 then some (0, 0, 2, 1, []) else none))) else (bif Nat.ble 32 p then (bif Nat.ble 33 p then (bif Nat.beq p 33 then some (46, 0, 86, 3, []) else none) else (bif Nat.beq p 32 then some (6, 0, 0, 1, []) else none)) else (bif Nat.ble 31 p then (bif Nat.beq p 31 then some (0, 0, 3, 1, []) else none) else (bif Nat.beq p 30 then some (0, 0, 1, 1, []) else none))))) else (bif Nat.ble 15 p then (bif Nat.ble 21 p then (bif Nat.ble 23 p then (bif Nat.ble 26 p then (bif Nat.ble 27 p then (bif Nat.beq p 27 then some (35, 0, 20, 3, []) else none) else (bif Nat.beq p 26 then some (1, 0, 0, 1, []) else none)) else (bif Nat.beq p 23 then some (25, 0, 57, 3, []) else none)) else (bif Nat.ble 22 p then (bif Nat.beq p 22 then some (2, 4, 0, 1, []) else none) else (bif Nat.beq p 21 then some (0, 0, 3, 1, []) else none))) else (bif Nat.ble 19 p then (bif Nat.ble 20 p then (bif Nat.beq p 20 then some (3, 0, 3, 1, []) else none) else (bif Nat.beq p 19 then some (2, 0, 0, 1, []) else none)) else (bif Nat.ble 18 p then (bif Nat.beq p 18 then some (3, 0, 2, 1, []) else none) else (bif Nat.beq p 15 then some (46, 0, 121, 3, []) else none)))) else (bif Nat.ble 8 p then (bif Nat.ble 10 p then (bif Nat.ble 11 p then (bif Nat.ble 14 p then (bif Nat.beq p 14 then some (0, 0, 1, 1, []) else none) else (bif Nat.beq p 11 then some (35, 0, 20, 3, []) else none)) else (bif Nat.beq p 10 then some (1, 0, 0, 1, []) else none)) else (bif Nat.ble 9 p then (bif Nat.beq p 9 then some (3, 0, 1, 1, []) else none) else (bif Nat.beq p 8 then some (7, 0, 0, 1, []) else none))) else (bif Nat.ble 4 p then (bif Nat.ble 7 p then (bif Nat.beq p 7 then some (2, 4, 0, 1, []) else none) else (bif Nat.beq p 4 then some (35, 0, 70, 3, []) else none)) else (bif Nat.ble 1 p then (bif Nat.beq p 1 then some (35, 0, 20, 3, []) else none) else (bif Nat.beq p 0 then some (1, 0, 0, 1, []) else none))))))
def ca_X1_checkHolds (y : Nat) (as : List sl_V) (m : sl_M) : Option (sl_PL × sl_M) := bif Nat.ble 36 y then (bif Nat.beq y 36 then F_X6_at as m else none) else (bif Nat.beq y 0 then F_X0_checkOf as m else none)
def sp_X1_checkHolds (p : Nat) : Bool := Nat.beq p 21
def mk_X1_checkHolds (p : Nat) : List Bool := bif Nat.beq p 21 then [true, true, true, true] else []
def cl_X1_checkHolds (p : Nat) : Option sl_C := bif Nat.ble 122 p then none else (bif Nat.ble 121 p then (bif Nat.beq p 121 then some (0, 2, 1, 0, 0, 0) else none) else (bif Nat.beq p 86 then some (36, 2, 1, 0, 0, 7) else none))
def R_X1_checkHolds (ca : Nat → List sl_V → sl_M → Option (sl_PL × sl_M)) : Nat → sl_S → sl_M → Option (sl_PL × sl_M) := sl_B tb_X1_checkHolds fl_X1 pf_X1 cl_X1_checkHolds nw_X1 sl_rd sl_wr sl_al sl_ln 0 (fun _ => 0) ca sp_X1_checkHolds mk_X1_checkHolds
def F_X1_checkHolds (as : List sl_V) (m : sl_M) : Option (sl_PL × sl_M) := R_X1_checkHolds ca_X1_checkHolds 100000 (0, sl_lo 4 as, []) m
def f_X1_checkHolds (this : Nat) (m : sl_M) : Option (sl_PL × sl_M) := F_X1_checkHolds [.inr (.inl (some (1, this)))] m
def r_X1_checkHolds_0 (ca : Nat → List sl_V → sl_M → Option (sl_PL × sl_M)) (n : Nat) (this : Nat) (m : sl_M) : Option (sl_PL × sl_M) := R_X1_checkHolds ca n (0, sl_lo 4 [.inr (.inl (some (1, this)))], []) m
def r_X1_checkHolds_21 (ca : Nat → List sl_V → sl_M → Option (sl_PL × sl_M)) (n : Nat) (v0 : Nat) (v1 : Int32) (v2 : Int32) (v3 : Int32) (m : sl_M) : Option (sl_PL × sl_M) := R_X1_checkHolds ca n (21, [some (.inr (.inl (some (1, v0)))), some (.inl v1), some (.inl v2), some (.inl v3)], []) m
def b_X1_checkHolds_21 (n : Nat) (v0 : Nat) (v1 : Int32) (v2 : Int32) (v3 : Int32) (m : sl_M) : Option (sl_PL × sl_M) := r_X1_checkHolds_21 ca_X1_checkHolds n v0 v1 v2 v3 m
set_option maxRecDepth 100000 in
theorem g_X1_checkHolds_0 (ca : Nat → List sl_V → sl_M → Option (sl_PL × sl_M)) (n : Nat) (this : Nat) (m : sl_M) : r_X1_checkHolds_0 ca (n + 1) this m =
  (ca 0 [.inr (.inl (some (6, (12 + this)))), .inl ((m.1 6 (12 + this) 1) - (4 : Int32))] m).bind (fun q1 =>
  r_X1_checkHolds_21 ca n this ((m.1 6 (12 + this) 1) - (4 : Int32)) q1.1.1 (0 : Int32) q1.2) := by rfl
set_option maxRecDepth 100000 in
theorem g_X1_checkHolds_21 (ca : Nat → List sl_V → sl_M → Option (sl_PL × sl_M)) (n : Nat) (v0 : Nat) (v1 : Int32) (v2 : Int32) (v3 : Int32) (m : sl_M) : r_X1_checkHolds_21 ca (n + 1) v0 v1 v2 v3 m =
  if (4 : Int32) ≤ v3 then
    some (((1 : Int32), 0, 0), m)
  else
    (ca 36 [.inr (.inl (some (6, (12 + v0)))), .inl (v1 + v3)] m).bind (fun q1 =>
    if q1.1.1 = ((sl_ush v2 ((8 : Int32) * v3)) &&& (255 : Int32)) then
      r_X1_checkHolds_21 ca n v0 v1 v2 (v3 + (1 : Int32)) q1.2
    else
      some (((0 : Int32), 0, 0), q1.2)) := by rfl
theorem cq_X1_checkHolds_X0_checkOf (a0 : Nat) (a1 : Int32) (m : sl_M) : ca_X1_checkHolds 0 [.inr (.inl (some (6, a0))), .inl a1] m = f_X0_checkOf a0 a1 m := by
  unfold ca_X1_checkHolds f_X0_checkOf
  rw [show Nat.ble 36 0 = false from rfl, cond_false, show Nat.beq 0 0 = true from rfl, cond_true]
theorem cq_X1_checkHolds_X6_at (this : Nat) (a0 : Int32) (m : sl_M) : ca_X1_checkHolds 36 [.inr (.inl (some (6, this))), .inl a0] m = f_X6_at this a0 m := by
  unfold ca_X1_checkHolds f_X6_at
  rw [show Nat.ble 36 36 = true from rfl, cond_true, show Nat.beq 36 36 = true from rfl, cond_true]
theorem bq_X1_checkHolds_21 (n : Nat) (v0 : Nat) (v1 : Int32) (v2 : Int32) (v3 : Int32) (m : sl_M) : r_X1_checkHolds_21 ca_X1_checkHolds n v0 v1 v2 v3 m = b_X1_checkHolds_21 n v0 v1 v2 v3 m := rfl
theorem e_X1_checkHolds (this : Nat) (m : sl_M) : f_X1_checkHolds this m =
  (f_X0_checkOf (12 + this) ((m.1 6 (12 + this) 1) - (4 : Int32)) m).bind (fun q1 =>
  b_X1_checkHolds_21 99999 this ((m.1 6 (12 + this) 1) - (4 : Int32)) q1.1.1 (0 : Int32) q1.2) := by
  have h := g_X1_checkHolds_0 ca_X1_checkHolds 99999 this m
  simp only [cq_X1_checkHolds_X0_checkOf, cq_X1_checkHolds_X6_at, bq_X1_checkHolds_21] at h
  exact h
theorem e_X1_checkHolds_21 (n : Nat) (v0 : Nat) (v1 : Int32) (v2 : Int32) (v3 : Int32) (m : sl_M) : b_X1_checkHolds_21 (n + 1) v0 v1 v2 v3 m =
  if (4 : Int32) ≤ v3 then
    some (((1 : Int32), 0, 0), m)
  else
    (f_X6_at (12 + v0) (v1 + v3) m).bind (fun q1 =>
    if q1.1.1 = ((sl_ush v2 ((8 : Int32) * v3)) &&& (255 : Int32)) then
      b_X1_checkHolds_21 n v0 v1 v2 (v3 + (1 : Int32)) q1.2
    else
      some (((0 : Int32), 0, 0), q1.2)) := by
  have h := g_X1_checkHolds_21 ca_X1_checkHolds n v0 v1 v2 v3 m
  simp only [cq_X1_checkHolds_X0_checkOf, cq_X1_checkHolds_X6_at, bq_X1_checkHolds_21] at h
  exact h

def tb_X8_eachByItself (p : Nat) : Option sl_E := bif Nat.ble 14 p then none else (bif Nat.ble 8 p then (bif Nat.ble 12 p then (bif Nat.ble 13 p then (bif Nat.beq p 13 then some (47, 0, 2, 1, []) else none) else (bif Nat.beq p 12 then some (2, 0, 0, 1, []) else none)) else (bif Nat.ble 9 p then (bif Nat.beq p 9 then some (34, 0, 13, 3, []) else none) else (bif Nat.beq p 8 then some (2, 1, 0, 1, []) else none))) else (bif Nat.ble 4 p then (bif Nat.ble 5 p then (bif Nat.beq p 5 then some (23, 0, 12, 3, []) else none) else (bif Nat.beq p 4 then some (2, 2, 0, 1, []) else none)) else (bif Nat.ble 1 p then (bif Nat.beq p 1 then some (35, 0, 9, 3, []) else none) else (bif Nat.beq p 0 then some (1, 0, 0, 1, []) else none))))
def ca_X8_eachByItself (y : Nat) (as : List sl_V) (m : sl_M) : Option (sl_PL × sl_M) := none
def sp_X8_eachByItself (p : Nat) : Bool := false
def mk_X8_eachByItself (p : Nat) : List Bool := []
def cl_X8_eachByItself (p : Nat) : Option sl_C := none
def R_X8_eachByItself (ca : Nat → List sl_V → sl_M → Option (sl_PL × sl_M)) : Nat → sl_S → sl_M → Option (sl_PL × sl_M) := sl_B tb_X8_eachByItself fl_X8 pf_X8 cl_X8_eachByItself nw_X8 sl_rd sl_wr sl_al sl_ln 0 (fun _ => 0) ca sp_X8_eachByItself mk_X8_eachByItself
def F_X8_eachByItself (as : List sl_V) (m : sl_M) : Option (sl_PL × sl_M) := R_X8_eachByItself ca_X8_eachByItself 100000 (0, sl_lo 1 as, []) m
def f_X8_eachByItself  (m : sl_M) : Option (sl_PL × sl_M) := F_X8_eachByItself [.inr (.inl (some (8, 0)))] m
def r_X8_eachByItself_0 (ca : Nat → List sl_V → sl_M → Option (sl_PL × sl_M)) (n : Nat)  (m : sl_M) : Option (sl_PL × sl_M) := R_X8_eachByItself ca n (0, sl_lo 1 [.inr (.inl (some (8, 0)))], []) m
set_option maxRecDepth 100000 in
theorem g_X8_eachByItself_0 (ca : Nat → List sl_V → sl_M → Option (sl_PL × sl_M)) (n : Nat)  (m : sl_M) : r_X8_eachByItself_0 ca (n + 1) m =
  if (m.1 8 0 0) = (2 : Int32) then
    some (((1 : Int32), 0, 0), m)
  else
    some (((0 : Int32), 0, 0), m) := by rfl
theorem e_X8_eachByItself  (m : sl_M) : f_X8_eachByItself m =
  if (m.1 8 0 0) = (2 : Int32) then
    some (((1 : Int32), 0, 0), m)
  else
    some (((0 : Int32), 0, 0), m) := by
  have h := g_X8_eachByItself_0 ca_X8_eachByItself 99999 m
  exact h

def tb_X8_knownLoad (p : Nat) : Option sl_E := bif Nat.ble 24 p then none else (bif Nat.ble 13 p then (bif Nat.ble 18 p then (bif Nat.ble 22 p then (bif Nat.ble 23 p then (bif Nat.beq p 23 then some (47, 0, 1, 1, []) else none) else (bif Nat.beq p 22 then some (2, 0, 0, 1, []) else none)) else (bif Nat.ble 19 p then (bif Nat.beq p 19 then some (34, 0, 23, 3, []) else none) else (bif Nat.beq p 18 then some (9, 0, 0, 1, []) else none))) else (bif Nat.ble 15 p then (bif Nat.ble 16 p then (bif Nat.beq p 16 then some (2, 8, 0, 2, []) else none) else (bif Nat.beq p 15 then some (6, 0, 0, 1, []) else none)) else (bif Nat.beq p 13 then some (2, 7, 0, 2, []) else none))) else (bif Nat.ble 7 p then (bif Nat.ble 11 p then (bif Nat.ble 12 p then (bif Nat.beq p 12 then some (7, 0, 0, 1, []) else none) else (bif Nat.beq p 11 then some (2, 1, 0, 1, []) else none)) else (bif Nat.ble 8 p then (bif Nat.beq p 8 then some (35, 0, 18, 3, []) else none) else (bif Nat.beq p 7 then some (1, 0, 0, 1, []) else none))) else (bif Nat.ble 1 p then (bif Nat.ble 4 p then (bif Nat.beq p 4 then some (28, 0, 22, 3, []) else none) else (bif Nat.beq p 1 then some (46, 0, 36, 3, []) else none)) else (bif Nat.beq p 0 then some (1, 0, 0, 1, []) else none))))
def ca_X8_knownLoad (y : Nat) (as : List sl_V) (m : sl_M) : Option (sl_PL × sl_M) := bif Nat.beq y 54 then F_X8_eachByItself as m else none
def sp_X8_knownLoad (p : Nat) : Bool := false
def mk_X8_knownLoad (p : Nat) : List Bool := []
def cl_X8_knownLoad (p : Nat) : Option sl_C := bif Nat.ble 37 p then none else (bif Nat.beq p 36 then some (54, 1, 1, 0, 0, 9) else none)
def R_X8_knownLoad (ca : Nat → List sl_V → sl_M → Option (sl_PL × sl_M)) : Nat → sl_S → sl_M → Option (sl_PL × sl_M) := sl_B tb_X8_knownLoad fl_X8 pf_X8 cl_X8_knownLoad nw_X8 sl_rd sl_wr sl_al sl_ln 0 (fun _ => 0) ca sp_X8_knownLoad mk_X8_knownLoad
def F_X8_knownLoad (as : List sl_V) (m : sl_M) : Option (sl_PL × sl_M) := R_X8_knownLoad ca_X8_knownLoad 100000 (0, sl_lo 1 as, []) m
def f_X8_knownLoad  (m : sl_M) : Option (sl_PL × sl_M) := F_X8_knownLoad [.inr (.inl (some (8, 0)))] m
def r_X8_knownLoad_0 (ca : Nat → List sl_V → sl_M → Option (sl_PL × sl_M)) (n : Nat)  (m : sl_M) : Option (sl_PL × sl_M) := R_X8_knownLoad ca n (0, sl_lo 1 [.inr (.inl (some (8, 0)))], []) m
set_option maxRecDepth 100000 in
theorem g_X8_knownLoad_0 (ca : Nat → List sl_V → sl_M → Option (sl_PL × sl_M)) (n : Nat)  (m : sl_M) : r_X8_knownLoad_0 ca (n + 1) m =
  (ca 54 [.inr (.inl (some (8, 0)))] m).bind (fun q1 =>
  if q1.1.1 = 0 then
    some (((0 : Int32), 0, 0), q1.2)
  else
    some ((((((q1.2.1 8 0 2) - (1 : Int32)) + (7 : Int32)) / (8 : Int32)), 0, 0), q1.2)) := by rfl
theorem cq_X8_knownLoad_X8_eachByItself  (m : sl_M) : ca_X8_knownLoad 54 [.inr (.inl (some (8, 0)))] m = f_X8_eachByItself m := by
  unfold ca_X8_knownLoad f_X8_eachByItself
  rw [show Nat.beq 54 54 = true from rfl, cond_true]
theorem e_X8_knownLoad  (m : sl_M) : f_X8_knownLoad m =
  (f_X8_eachByItself m).bind (fun q1 =>
  if q1.1.1 = 0 then
    some (((0 : Int32), 0, 0), q1.2)
  else
    some ((((((q1.2.1 8 0 2) - (1 : Int32)) + (7 : Int32)) / (8 : Int32)), 0, 0), q1.2)) := by
  have h := g_X8_knownLoad_0 ca_X8_knownLoad 99999 m
  simp only [cq_X8_knownLoad_X8_eachByItself] at h
  exact h
