def tb_X11_out (p : Nat) : Option sl_E := bif Nat.ble 32 p then none else (bif Nat.ble 17 p then (bif Nat.ble 25 p then (bif Nat.ble 27 p then (bif Nat.ble 30 p then (bif Nat.ble 31 p then (bif Nat.beq p 31 then some (47, 0, 1, 1, []) else none) else (bif Nat.beq p 30 then some (11, 0, 0, 1, []) else none)) else (bif Nat.beq p 27 then some (2, 255, 0, 3, []) else none)) else (bif Nat.ble 26 p then (bif Nat.beq p 26 then some (38, 0, 0, 1, []) else none) else (bif Nat.beq p 25 then some (0, 0, 1, 1, []) else none))) else (bif Nat.ble 21 p then (bif Nat.ble 22 p then (bif Nat.beq p 22 then some (35, 0, 20, 3, []) else none) else (bif Nat.beq p 21 then some (1, 0, 0, 1, []) else none)) else (bif Nat.ble 18 p then (bif Nat.beq p 18 then some (34, 0, 31, 3, []) else none) else (bif Nat.beq p 17 then some (2, (-1), 0, 1, []) else none)))) else (bif Nat.ble 6 p then (bif Nat.ble 10 p then (bif Nat.ble 11 p then (bif Nat.ble 14 p then (bif Nat.beq p 14 then some (24, 0, 21, 3, []) else none) else (bif Nat.beq p 11 then some (35, 0, 23, 3, []) else none)) else (bif Nat.beq p 10 then some (1, 0, 0, 1, []) else none)) else (bif Nat.ble 9 p then (bif Nat.beq p 9 then some (0, 0, 1, 1, []) else none) else (bif Nat.beq p 6 then some (30, 0, 17, 3, []) else none))) else (bif Nat.ble 2 p then (bif Nat.ble 5 p then (bif Nat.beq p 5 then some (0, 0, 1, 1, []) else none) else (bif Nat.beq p 2 then some (36, 0, 7, 3, []) else none)) else (bif Nat.ble 1 p then (bif Nat.beq p 1 then some (2, 0, 0, 1, []) else none) else (bif Nat.beq p 0 then some (1, 0, 0, 1, []) else none)))))
def ca_X11_out (y : Nat) (as : List sl_V) (m : sl_M) : Option (sl_PL × sl_M) := none
def sp_X11_out (p : Nat) : Bool := false
def mk_X11_out (p : Nat) : List Bool := []
def cl_X11_out (p : Nat) : Option sl_C := none
def R_X11_out (ca : Nat → List sl_V → sl_M → Option (sl_PL × sl_M)) : Nat → sl_S → sl_M → Option (sl_PL × sl_M) := sl_B tb_X11_out fl_X11 pf_X11 cl_X11_out nw_X11 sl_rd sl_wr sl_al sl_ln 0 (fun _ => 0) ca sp_X11_out mk_X11_out
def F_X11_out (as : List sl_V) (m : sl_M) : Option (sl_PL × sl_M) := R_X11_out ca_X11_out 100000 (0, sl_lo 2 as, []) m
def f_X11_out (a0 : Int32) (m : sl_M) : Option (sl_PL × sl_M) := F_X11_out [.inr (.inl (some (11, 0))), .inl a0] m
def r_X11_out_0 (ca : Nat → List sl_V → sl_M → Option (sl_PL × sl_M)) (n : Nat) (a0 : Int32) (m : sl_M) : Option (sl_PL × sl_M) := R_X11_out ca n (0, sl_lo 2 [.inr (.inl (some (11, 0))), .inl a0], []) m
set_option maxRecDepth 100000 in
theorem g_X11_out_0 (ca : Nat → List sl_V → sl_M → Option (sl_PL × sl_M)) (n : Nat) (a0 : Int32) (m : sl_M) : r_X11_out_0 ca (n + 1) a0 m =
  if a0 < 0 then
    some (((-1 : Int32), 0, 0), (sl_up m 11 0 0 (0 : Int32)))
  else
    if a0 < (m.1 11 0 4) then
      if 0 ≤ a0 ∧ a0.toNatClampNeg < 1300 then
      some ((((sl_sx (m.1 30 1 a0.toNatClampNeg)) &&& (255 : Int32)), 0, 0), (sl_up m 11 0 0 (0 : Int32)))
      else none
    else
      some (((-1 : Int32), 0, 0), (sl_up m 11 0 0 (0 : Int32))) := by rfl
theorem e_X11_out (a0 : Int32) (m : sl_M) : f_X11_out a0 m =
  if a0 < 0 then
    some (((-1 : Int32), 0, 0), (sl_up m 11 0 0 (0 : Int32)))
  else
    if a0 < (m.1 11 0 4) then
      if 0 ≤ a0 ∧ a0.toNatClampNeg < 1300 then
      some ((((sl_sx (m.1 30 1 a0.toNatClampNeg)) &&& (255 : Int32)), 0, 0), (sl_up m 11 0 0 (0 : Int32)))
      else none
    else
      some (((-1 : Int32), 0, 0), (sl_up m 11 0 0 (0 : Int32))) := by
  have h := g_X11_out_0 ca_X11_out 99999 a0 m
  exact h

def tb_X11_first (p : Nat) : Option sl_E := bif Nat.ble 159 p then none else (bif Nat.ble 74 p then (bif Nat.ble 112 p then (bif Nat.ble 136 p then (bif Nat.ble 148 p then (bif Nat.ble 153 p then (bif Nat.ble 155 p then (bif Nat.ble 158 p then (bif Nat.beq p 158 then some (50, 0, 0, 1, []) else none) else (bif Nat.beq p 155 then some (36, 0, 33, 3, []) else none)) else (bif Nat.ble 154 p then (bif Nat.beq p 154 then some (2, (-1), 0, 1, []) else none) else (bif Nat.beq p 153 then some (1, 0, 0, 1, []) else none))) else (bif Nat.ble 149 p then (bif Nat.ble 150 p then (bif Nat.beq p 150 then some (36, 0, 30, 3, []) else none) else (bif Nat.beq p 149 then some (2, 0, 0, 1, []) else none)) else (bif Nat.beq p 148 then some (1, 0, 0, 1, []) else none))) else (bif Nat.ble 141 p then (bif Nat.ble 142 p then (bif Nat.ble 145 p then (bif Nat.beq p 145 then some (34, 0, 129, 3, []) else none) else (bif Nat.beq p 142 then some (5, 1, 1, 3, []) else none)) else (bif Nat.beq p 141 then some (41, 0, 0, 1, []) else none)) else (bif Nat.ble 139 p then (bif Nat.ble 140 p then (bif Nat.beq p 140 then some (2, 0, 0, 1, []) else none) else (bif Nat.beq p 139 then some (0, 0, 1, 1, []) else none)) else (bif Nat.beq p 136 then some (35, 0, 133, 3, []) else none)))) else (bif Nat.ble 124 p then (bif Nat.ble 129 p then (bif Nat.ble 132 p then (bif Nat.ble 135 p then (bif Nat.beq p 135 then some (1, 0, 0, 1, []) else none) else (bif Nat.beq p 132 then some (25, 0, 148, 3, []) else none)) else (bif Nat.ble 130 p then (bif Nat.beq p 130 then some (2, 16, 0, 2, []) else none) else (bif Nat.beq p 129 then some (0, 0, 1, 1, []) else none))) else (bif Nat.ble 127 p then (bif Nat.ble 128 p then (bif Nat.beq p 128 then some (3, 0, 1, 1, []) else none) else (bif Nat.beq p 127 then some (2, 0, 0, 1, []) else none)) else (bif Nat.beq p 124 then some (34, 0, 2, 3, []) else none))) else (bif Nat.ble 115 p then (bif Nat.ble 118 p then (bif Nat.ble 121 p then (bif Nat.beq p 121 then some (5, 1, 1, 3, []) else none) else (bif Nat.beq p 118 then some (34, 0, 97, 3, []) else none)) else (bif Nat.beq p 115 then some (5, 1, 2, 3, []) else none)) else (bif Nat.ble 113 p then (bif Nat.ble 114 p then (bif Nat.beq p 114 then some (42, 0, 0, 1, []) else none) else (bif Nat.beq p 113 then some (2, 0, 0, 1, []) else none)) else (bif Nat.beq p 112 then some (6, 0, 0, 1, []) else none))))) else (bif Nat.ble 93 p then (bif Nat.ble 100 p then (bif Nat.ble 107 p then (bif Nat.ble 110 p then (bif Nat.ble 111 p then (bif Nat.beq p 111 then some (0, 0, 2, 1, []) else none) else (bif Nat.beq p 110 then some (8, 0, 0, 1, []) else none)) else (bif Nat.ble 109 p then (bif Nat.beq p 109 then some (0, 0, 1, 1, []) else none) else (bif Nat.beq p 107 then some (2, 64, 0, 2, []) else none))) else (bif Nat.ble 103 p then (bif Nat.ble 104 p then (bif Nat.beq p 104 then some (35, 0, 91, 3, []) else none) else (bif Nat.beq p 103 then some (1, 0, 0, 1, []) else none)) else (bif Nat.beq p 100 then some (25, 0, 121, 3, []) else none))) else (bif Nat.ble 96 p then (bif Nat.ble 97 p then (bif Nat.ble 98 p then (bif Nat.beq p 98 then some (2, 64, 0, 2, []) else none) else (bif Nat.beq p 97 then some (0, 0, 2, 1, []) else none)) else (bif Nat.beq p 96 then some (3, 0, 2, 1, []) else none)) else (bif Nat.ble 94 p then (bif Nat.ble 95 p then (bif Nat.beq p 95 then some (2, 0, 0, 1, []) else none) else (bif Nat.beq p 94 then some (41, 0, 0, 1, []) else none)) else (bif Nat.beq p 93 then some (2, 0, 0, 1, []) else none)))) else (bif Nat.ble 82 p then (bif Nat.ble 87 p then (bif Nat.ble 89 p then (bif Nat.ble 92 p then (bif Nat.beq p 92 then some (0, 0, 1, 1, []) else none) else (bif Nat.beq p 89 then some (35, 0, 112, 3, []) else none)) else (bif Nat.ble 88 p then (bif Nat.beq p 88 then some (1, 0, 0, 1, []) else none) else (bif Nat.beq p 87 then some (41, 0, 0, 1, []) else none))) else (bif Nat.ble 85 p then (bif Nat.ble 86 p then (bif Nat.beq p 86 then some (2, 0, 0, 1, []) else none) else (bif Nat.beq p 85 then some (0, 0, 1, 1, []) else none)) else (bif Nat.beq p 82 then some (35, 0, 109, 3, []) else none))) else (bif Nat.ble 79 p then (bif Nat.ble 80 p then (bif Nat.ble 81 p then (bif Nat.beq p 81 then some (1, 0, 0, 1, []) else none) else (bif Nat.beq p 80 then some (42, 0, 0, 1, []) else none)) else (bif Nat.beq p 79 then some (2, 0, 0, 1, []) else none)) else (bif Nat.ble 75 p then (bif Nat.ble 78 p then (bif Nat.beq p 78 then some (0, 0, 1, 1, []) else none) else (bif Nat.beq p 75 then some (35, 0, 106, 3, []) else none)) else (bif Nat.beq p 74 then some (1, 0, 0, 1, []) else none)))))) else (bif Nat.ble 36 p then (bif Nat.ble 55 p then (bif Nat.ble 65 p then (bif Nat.ble 68 p then (bif Nat.ble 72 p then (bif Nat.ble 73 p then (bif Nat.beq p 73 then some (41, 0, 0, 1, []) else none) else (bif Nat.beq p 72 then some (2, 0, 0, 1, []) else none)) else (bif Nat.ble 71 p then (bif Nat.beq p 71 then some (0, 0, 1, 1, []) else none) else (bif Nat.beq p 68 then some (35, 0, 103, 3, []) else none))) else (bif Nat.ble 66 p then (bif Nat.ble 67 p then (bif Nat.beq p 67 then some (1, 0, 0, 1, []) else none) else (bif Nat.beq p 66 then some (41, 0, 0, 1, []) else none)) else (bif Nat.beq p 65 then some (2, 0, 0, 1, []) else none))) else (bif Nat.ble 60 p then (bif Nat.ble 63 p then (bif Nat.ble 64 p then (bif Nat.beq p 64 then some (8, 0, 0, 1, []) else none) else (bif Nat.beq p 63 then some (0, 0, 1, 1, []) else none)) else (bif Nat.beq p 60 then some (2, 3002, 0, 3, []) else none)) else (bif Nat.ble 56 p then (bif Nat.ble 57 p then (bif Nat.beq p 57 then some (35, 0, 81, 3, []) else none) else (bif Nat.beq p 56 then some (1, 0, 0, 1, []) else none)) else (bif Nat.beq p 55 then some (41, 0, 0, 1, []) else none)))) else (bif Nat.ble 46 p then (bif Nat.ble 49 p then (bif Nat.ble 53 p then (bif Nat.ble 54 p then (bif Nat.beq p 54 then some (2, 0, 0, 1, []) else none) else (bif Nat.beq p 53 then some (0, 0, 1, 1, []) else none)) else (bif Nat.ble 50 p then (bif Nat.beq p 50 then some (35, 0, 78, 3, []) else none) else (bif Nat.beq p 49 then some (1, 0, 0, 1, []) else none))) else (bif Nat.ble 47 p then (bif Nat.ble 48 p then (bif Nat.beq p 48 then some (41, 0, 0, 1, []) else none) else (bif Nat.beq p 47 then some (2, 0, 0, 1, []) else none)) else (bif Nat.beq p 46 then some (0, 0, 1, 1, []) else none))) else (bif Nat.ble 41 p then (bif Nat.ble 42 p then (bif Nat.ble 43 p then (bif Nat.beq p 43 then some (35, 0, 75, 3, []) else none) else (bif Nat.beq p 42 then some (1, 0, 0, 1, []) else none)) else (bif Nat.beq p 41 then some (41, 0, 0, 1, []) else none)) else (bif Nat.ble 39 p then (bif Nat.ble 40 p then (bif Nat.beq p 40 then some (2, 0, 0, 1, []) else none) else (bif Nat.beq p 39 then some (0, 0, 1, 1, []) else none)) else (bif Nat.beq p 36 then some (35, 0, 72, 3, []) else none))))) else (bif Nat.ble 19 p then (bif Nat.ble 27 p then (bif Nat.ble 32 p then (bif Nat.ble 34 p then (bif Nat.ble 35 p then (bif Nat.beq p 35 then some (1, 0, 0, 1, []) else none) else (bif Nat.beq p 34 then some (41, 0, 0, 1, []) else none)) else (bif Nat.ble 33 p then (bif Nat.beq p 33 then some (2, 0, 0, 1, []) else none) else (bif Nat.beq p 32 then some (0, 0, 1, 1, []) else none))) else (bif Nat.ble 28 p then (bif Nat.ble 29 p then (bif Nat.beq p 29 then some (35, 0, 69, 3, []) else none) else (bif Nat.beq p 28 then some (1, 0, 0, 1, []) else none)) else (bif Nat.beq p 27 then some (41, 0, 0, 1, []) else none))) else (bif Nat.ble 22 p then (bif Nat.ble 25 p then (bif Nat.ble 26 p then (bif Nat.beq p 26 then some (2, 0, 0, 1, []) else none) else (bif Nat.beq p 25 then some (0, 0, 1, 1, []) else none)) else (bif Nat.beq p 22 then some (35, 0, 66, 3, []) else none)) else (bif Nat.ble 20 p then (bif Nat.ble 21 p then (bif Nat.beq p 21 then some (1, 0, 0, 1, []) else none) else (bif Nat.beq p 20 then some (41, 0, 0, 1, []) else none)) else (bif Nat.beq p 19 then some (2, 0, 0, 1, []) else none)))) else (bif Nat.ble 8 p then (bif Nat.ble 13 p then (bif Nat.ble 15 p then (bif Nat.ble 18 p then (bif Nat.beq p 18 then some (0, 0, 1, 1, []) else none) else (bif Nat.beq p 15 then some (35, 0, 63, 3, []) else none)) else (bif Nat.ble 14 p then (bif Nat.beq p 14 then some (1, 0, 0, 1, []) else none) else (bif Nat.beq p 13 then some (41, 0, 0, 1, []) else none))) else (bif Nat.ble 11 p then (bif Nat.ble 12 p then (bif Nat.beq p 12 then some (2, 0, 0, 1, []) else none) else (bif Nat.beq p 11 then some (0, 0, 1, 1, []) else none)) else (bif Nat.beq p 8 then some (35, 0, 60, 3, []) else none))) else (bif Nat.ble 3 p then (bif Nat.ble 4 p then (bif Nat.ble 7 p then (bif Nat.beq p 7 then some (1, 0, 0, 1, []) else none) else (bif Nat.beq p 4 then some (25, 0, 127, 3, []) else none)) else (bif Nat.beq p 3 then some (2, 2, 0, 1, []) else none)) else (bif Nat.ble 1 p then (bif Nat.ble 2 p then (bif Nat.beq p 2 then some (0, 0, 1, 1, []) else none) else (bif Nat.beq p 1 then some (3, 0, 1, 1, []) else none)) else (bif Nat.beq p 0 then some (2, 0, 0, 1, []) else none)))))))
def ca_X11_first (y : Nat) (as : List sl_V) (m : sl_M) : Option (sl_PL × sl_M) := none
def sp_X11_first (p : Nat) : Bool := Nat.beq p 2 || Nat.beq p 97 || Nat.beq p 129
def mk_X11_first (p : Nat) : List Bool := bif Nat.ble 97 p then (bif Nat.ble 129 p then (bif Nat.beq p 129 then [true, true, false] else []) else (bif Nat.beq p 97 then [true, true, true] else [])) else (bif Nat.beq p 2 then [true, true, false] else [])
def cl_X11_first (p : Nat) : Option sl_C := none
def R_X11_first (ca : Nat → List sl_V → sl_M → Option (sl_PL × sl_M)) : Nat → sl_S → sl_M → Option (sl_PL × sl_M) := sl_B tb_X11_first fl_X11 pf_X11 cl_X11_first nw_X11 sl_rd sl_wr sl_al sl_ln 0 (fun _ => 0) ca sp_X11_first mk_X11_first
def F_X11_first (as : List sl_V) (m : sl_M) : Option (sl_PL × sl_M) := R_X11_first ca_X11_first 100000 (0, sl_lo 3 as, []) m
def f_X11_first  (m : sl_M) : Option (sl_PL × sl_M) := F_X11_first [.inr (.inl (some (11, 0)))] m
def r_X11_first_0 (ca : Nat → List sl_V → sl_M → Option (sl_PL × sl_M)) (n : Nat)  (m : sl_M) : Option (sl_PL × sl_M) := R_X11_first ca n (0, sl_lo 3 [.inr (.inl (some (11, 0)))], []) m
def r_X11_first_2 (ca : Nat → List sl_V → sl_M → Option (sl_PL × sl_M)) (n : Nat) (v1 : Int32) (m : sl_M) : Option (sl_PL × sl_M) := R_X11_first ca n (2, [some (.inr (.inl (some (11, 0)))), some (.inl v1), none], []) m
def b_X11_first_2 (n : Nat) (v1 : Int32) (m : sl_M) : Option (sl_PL × sl_M) := r_X11_first_2 ca_X11_first n v1 m
def r_X11_first_97 (ca : Nat → List sl_V → sl_M → Option (sl_PL × sl_M)) (n : Nat) (v1 : Int32) (v2 : Int32) (m : sl_M) : Option (sl_PL × sl_M) := R_X11_first ca n (97, [some (.inr (.inl (some (11, 0)))), some (.inl v1), some (.inl v2)], []) m
def b_X11_first_97 (n : Nat) (v1 : Int32) (v2 : Int32) (m : sl_M) : Option (sl_PL × sl_M) := r_X11_first_97 ca_X11_first n v1 v2 m
def r_X11_first_129 (ca : Nat → List sl_V → sl_M → Option (sl_PL × sl_M)) (n : Nat) (v1 : Int32) (m : sl_M) : Option (sl_PL × sl_M) := R_X11_first ca n (129, [some (.inr (.inl (some (11, 0)))), some (.inl v1), none], []) m
def b_X11_first_129 (n : Nat) (v1 : Int32) (m : sl_M) : Option (sl_PL × sl_M) := r_X11_first_129 ca_X11_first n v1 m
set_option maxRecDepth 100000 in
theorem g_X11_first_0 (ca : Nat → List sl_V → sl_M → Option (sl_PL × sl_M)) (n : Nat)  (m : sl_M) : r_X11_first_0 ca (n + 1) m =
  r_X11_first_2 ca n (0 : Int32) m := by rfl
set_option maxRecDepth 100000 in
theorem g_X11_first_2 (ca : Nat → List sl_V → sl_M → Option (sl_PL × sl_M)) (n : Nat) (v1 : Int32) (m : sl_M) : r_X11_first_2 ca (n + 1) v1 m =
  if (2 : Int32) ≤ v1 then
    r_X11_first_129 ca n (0 : Int32) m
  else
    if 0 ≤ v1 ∧ v1.toNatClampNeg < 2 then
    if 0 ≤ v1 ∧ v1.toNatClampNeg < 2 then
    if 0 ≤ v1 ∧ v1.toNatClampNeg < 2 then
    if 0 ≤ v1 ∧ v1.toNatClampNeg < 2 then
    if 0 ≤ v1 ∧ v1.toNatClampNeg < 2 then
    if 0 ≤ v1 ∧ v1.toNatClampNeg < 2 then
    if 0 ≤ v1 ∧ v1.toNatClampNeg < 2 then
    if 0 ≤ ((3002 : Int32) * v1) ∧ ((3002 : Int32) * v1).toNatClampNeg < 6004 then
    if 0 ≤ v1 ∧ v1.toNatClampNeg < 2 then
    if 0 ≤ v1 ∧ v1.toNatClampNeg < 2 then
    if 0 ≤ v1 ∧ v1.toNatClampNeg < 2 then
    if 0 ≤ v1 ∧ v1.toNatClampNeg < 2 then
    r_X11_first_97 ca n v1 (0 : Int32) (sl_up (sl_up (sl_up (sl_up (sl_up (sl_up (sl_up (sl_up (sl_up (sl_up (sl_up (sl_up m 51 0 v1.toNatClampNeg (0 : Int32)) 52 0 v1.toNatClampNeg (0 : Int32)) 53 0 v1.toNatClampNeg (0 : Int32)) 54 0 v1.toNatClampNeg (0 : Int32)) 55 0 v1.toNatClampNeg (0 : Int32)) 56 0 v1.toNatClampNeg (0 : Int32)) 57 0 v1.toNatClampNeg (0 : Int32)) 58 0 (((3002 : Int32) * v1).toNatClampNeg) (0 : Int32)) 61 0 v1.toNatClampNeg (0 : Int32)) 72 0 v1.toNatClampNeg (0 : Int32)) 62 0 v1.toNatClampNeg (0 : Int32)) 63 0 v1.toNatClampNeg (0 : Int32))
    else none
    else none
    else none
    else none
    else none
    else none
    else none
    else none
    else none
    else none
    else none
    else none := by rfl
set_option maxRecDepth 100000 in
theorem g_X11_first_97 (ca : Nat → List sl_V → sl_M → Option (sl_PL × sl_M)) (n : Nat) (v1 : Int32) (v2 : Int32) (m : sl_M) : r_X11_first_97 ca (n + 1) v1 v2 m =
  if (64 : Int32) ≤ v2 then
    r_X11_first_2 ca n (v1 + (1 : Int32)) m
  else
    if 0 ≤ (((64 : Int32) * v1) + v2) ∧ (((64 : Int32) * v1) + v2).toNatClampNeg < 128 then
    r_X11_first_97 ca n v1 (v2 + (1 : Int32)) (sl_up m 71 0 ((((64 : Int32) * v1) + v2).toNatClampNeg) (0 : Int32))
    else none := by rfl
set_option maxRecDepth 100000 in
theorem g_X11_first_129 (ca : Nat → List sl_V → sl_M → Option (sl_PL × sl_M)) (n : Nat) (v1 : Int32) (m : sl_M) : r_X11_first_129 ca (n + 1) v1 m =
  if (16 : Int32) ≤ v1 then
    some ((0, 0, 0), (sl_up (sl_up m 11 0 6 (0 : Int32)) 11 0 7 (-1 : Int32)))
  else
    if 0 ≤ v1 ∧ v1.toNatClampNeg < 16 then
    r_X11_first_129 ca n (v1 + (1 : Int32)) (sl_up m 68 0 v1.toNatClampNeg (0 : Int32))
    else none := by rfl
theorem bq_X11_first_2 (n : Nat) (v1 : Int32) (m : sl_M) : r_X11_first_2 ca_X11_first n v1 m = b_X11_first_2 n v1 m := rfl
theorem bq_X11_first_97 (n : Nat) (v1 : Int32) (v2 : Int32) (m : sl_M) : r_X11_first_97 ca_X11_first n v1 v2 m = b_X11_first_97 n v1 v2 m := rfl
theorem bq_X11_first_129 (n : Nat) (v1 : Int32) (m : sl_M) : r_X11_first_129 ca_X11_first n v1 m = b_X11_first_129 n v1 m := rfl
theorem e_X11_first  (m : sl_M) : f_X11_first m =
  b_X11_first_2 99999 (0 : Int32) m := by
  have h := g_X11_first_0 ca_X11_first 99999 m
  simp only [bq_X11_first_2, bq_X11_first_97, bq_X11_first_129] at h
  exact h
theorem e_X11_first_2 (n : Nat) (v1 : Int32) (m : sl_M) : b_X11_first_2 (n + 1) v1 m =
  if (2 : Int32) ≤ v1 then
    b_X11_first_129 n (0 : Int32) m
  else
    if 0 ≤ v1 ∧ v1.toNatClampNeg < 2 then
    if 0 ≤ v1 ∧ v1.toNatClampNeg < 2 then
    if 0 ≤ v1 ∧ v1.toNatClampNeg < 2 then
    if 0 ≤ v1 ∧ v1.toNatClampNeg < 2 then
    if 0 ≤ v1 ∧ v1.toNatClampNeg < 2 then
    if 0 ≤ v1 ∧ v1.toNatClampNeg < 2 then
    if 0 ≤ v1 ∧ v1.toNatClampNeg < 2 then
    if 0 ≤ ((3002 : Int32) * v1) ∧ ((3002 : Int32) * v1).toNatClampNeg < 6004 then
    if 0 ≤ v1 ∧ v1.toNatClampNeg < 2 then
    if 0 ≤ v1 ∧ v1.toNatClampNeg < 2 then
    if 0 ≤ v1 ∧ v1.toNatClampNeg < 2 then
    if 0 ≤ v1 ∧ v1.toNatClampNeg < 2 then
    b_X11_first_97 n v1 (0 : Int32) (sl_up (sl_up (sl_up (sl_up (sl_up (sl_up (sl_up (sl_up (sl_up (sl_up (sl_up (sl_up m 51 0 v1.toNatClampNeg (0 : Int32)) 52 0 v1.toNatClampNeg (0 : Int32)) 53 0 v1.toNatClampNeg (0 : Int32)) 54 0 v1.toNatClampNeg (0 : Int32)) 55 0 v1.toNatClampNeg (0 : Int32)) 56 0 v1.toNatClampNeg (0 : Int32)) 57 0 v1.toNatClampNeg (0 : Int32)) 58 0 (((3002 : Int32) * v1).toNatClampNeg) (0 : Int32)) 61 0 v1.toNatClampNeg (0 : Int32)) 72 0 v1.toNatClampNeg (0 : Int32)) 62 0 v1.toNatClampNeg (0 : Int32)) 63 0 v1.toNatClampNeg (0 : Int32))
    else none
    else none
    else none
    else none
    else none
    else none
    else none
    else none
    else none
    else none
    else none
    else none := by
  have h := g_X11_first_2 ca_X11_first n v1 m
  simp only [bq_X11_first_2, bq_X11_first_97, bq_X11_first_129] at h
  exact h
theorem e_X11_first_97 (n : Nat) (v1 : Int32) (v2 : Int32) (m : sl_M) : b_X11_first_97 (n + 1) v1 v2 m =
  if (64 : Int32) ≤ v2 then
    b_X11_first_2 n (v1 + (1 : Int32)) m
  else
    if 0 ≤ (((64 : Int32) * v1) + v2) ∧ (((64 : Int32) * v1) + v2).toNatClampNeg < 128 then
    b_X11_first_97 n v1 (v2 + (1 : Int32)) (sl_up m 71 0 ((((64 : Int32) * v1) + v2).toNatClampNeg) (0 : Int32))
    else none := by
  have h := g_X11_first_97 ca_X11_first n v1 v2 m
  simp only [bq_X11_first_2, bq_X11_first_97, bq_X11_first_129] at h
  exact h
theorem e_X11_first_129 (n : Nat) (v1 : Int32) (m : sl_M) : b_X11_first_129 (n + 1) v1 m =
  if (16 : Int32) ≤ v1 then
    some ((0, 0, 0), (sl_up (sl_up m 11 0 6 (0 : Int32)) 11 0 7 (-1 : Int32)))
  else
    if 0 ≤ v1 ∧ v1.toNatClampNeg < 16 then
    b_X11_first_129 n (v1 + (1 : Int32)) (sl_up m 68 0 v1.toNatClampNeg (0 : Int32))
    else none := by
  have h := g_X11_first_129 ca_X11_first n v1 m
  simp only [bq_X11_first_2, bq_X11_first_97, bq_X11_first_129] at h
  exact h

def tb_X11_open (p : Nat) : Option sl_E := bif Nat.ble 123 p then none else (bif Nat.ble 66 p then (bif Nat.ble 91 p then (bif Nat.ble 106 p then (bif Nat.ble 114 p then (bif Nat.ble 118 p then (bif Nat.ble 121 p then (bif Nat.ble 122 p then (bif Nat.beq p 122 then some (47, 0, 2, 1, []) else none) else (bif Nat.beq p 121 then some (2, 1, 0, 1, []) else none)) else (bif Nat.beq p 118 then some (46, 0, 146, 3, []) else none)) else (bif Nat.ble 117 p then (bif Nat.beq p 117 then some (1, 0, 0, 1, []) else none) else (bif Nat.beq p 114 then some (36, 0, 51, 3, []) else none))) else (bif Nat.ble 111 p then (bif Nat.ble 112 p then (bif Nat.beq p 112 then some (0, 0, 5, 2, []) else none) else (bif Nat.beq p 111 then some (1, 0, 0, 1, []) else none)) else (bif Nat.ble 108 p then (bif Nat.beq p 108 then some (36, 0, 48, 3, []) else none) else (bif Nat.beq p 106 then some (0, 0, 4, 2, []) else none)))) else (bif Nat.ble 97 p then (bif Nat.ble 101 p then (bif Nat.ble 102 p then (bif Nat.ble 105 p then (bif Nat.beq p 105 then some (1, 0, 0, 1, []) else none) else (bif Nat.beq p 102 then some (36, 0, 45, 3, []) else none)) else (bif Nat.beq p 101 then some (0, 0, 3, 1, []) else none)) else (bif Nat.ble 100 p then (bif Nat.beq p 100 then some (1, 0, 0, 1, []) else none) else (bif Nat.beq p 97 then some (36, 0, 42, 3, []) else none))) else (bif Nat.ble 95 p then (bif Nat.ble 96 p then (bif Nat.beq p 96 then some (0, 0, 2, 1, []) else none) else (bif Nat.beq p 95 then some (1, 0, 0, 1, []) else none)) else (bif Nat.ble 92 p then (bif Nat.beq p 92 then some (36, 0, 39, 3, []) else none) else (bif Nat.beq p 91 then some (0, 0, 1, 1, []) else none))))) else (bif Nat.ble 77 p then (bif Nat.ble 83 p then (bif Nat.ble 88 p then (bif Nat.ble 89 p then (bif Nat.ble 90 p then (bif Nat.beq p 90 then some (1, 0, 0, 1, []) else none) else (bif Nat.beq p 89 then some (47, 0, 2, 1, []) else none)) else (bif Nat.beq p 88 then some (2, 0, 0, 1, []) else none)) else (bif Nat.ble 85 p then (bif Nat.beq p 85 then some (27, 0, 90, 3, []) else none) else (bif Nat.beq p 83 then some (0, 0, 6, 2, []) else none))) else (bif Nat.ble 79 p then (bif Nat.ble 82 p then (bif Nat.beq p 82 then some (0, 0, 3, 1, []) else none) else (bif Nat.beq p 79 then some (24, 0, 88, 3, []) else none)) else (bif Nat.ble 78 p then (bif Nat.beq p 78 then some (2, 1, 0, 1, []) else none) else (bif Nat.beq p 77 then some (0, 0, 3, 1, []) else none)))) else (bif Nat.ble 72 p then (bif Nat.ble 74 p then (bif Nat.ble 75 p then (bif Nat.beq p 75 then some (3, 0, 6, 2, []) else none) else (bif Nat.beq p 74 then some (9, 0, 0, 1, []) else none)) else (bif Nat.ble 73 p then (bif Nat.beq p 73 then some (2, 2, 0, 1, []) else none) else (bif Nat.beq p 72 then some (0, 0, 2, 1, []) else none))) else (bif Nat.ble 68 p then (bif Nat.ble 69 p then (bif Nat.beq p 69 then some (34, 0, 75, 3, []) else none) else (bif Nat.beq p 68 then some (7, 0, 0, 1, []) else none)) else (bif Nat.ble 67 p then (bif Nat.beq p 67 then some (2, 1, 0, 1, []) else none) else (bif Nat.beq p 66 then some (0, 0, 2, 1, []) else none)))))) else (bif Nat.ble 31 p then (bif Nat.ble 51 p then (bif Nat.ble 57 p then (bif Nat.ble 61 p then (bif Nat.ble 62 p then (bif Nat.ble 63 p then (bif Nat.beq p 63 then some (23, 0, 72, 3, []) else none) else (bif Nat.beq p 62 then some (2, 1, 0, 1, []) else none)) else (bif Nat.beq p 61 then some (0, 0, 1, 1, []) else none)) else (bif Nat.ble 58 p then (bif Nat.beq p 58 then some (34, 0, 75, 3, []) else none) else (bif Nat.beq p 57 then some (2, 1, 0, 1, []) else none))) else (bif Nat.ble 53 p then (bif Nat.ble 54 p then (bif Nat.beq p 54 then some (29, 0, 61, 3, []) else none) else (bif Nat.beq p 53 then some (0, 0, 1, 1, []) else none)) else (bif Nat.ble 52 p then (bif Nat.beq p 52 then some (47, 0, 2, 1, []) else none) else (bif Nat.beq p 51 then some (2, 0, 0, 1, []) else none)))) else (bif Nat.ble 40 p then (bif Nat.ble 44 p then (bif Nat.ble 46 p then (bif Nat.ble 48 p then (bif Nat.beq p 48 then some (27, 0, 53, 3, []) else none) else (bif Nat.beq p 46 then some (2, 50, 0, 2, []) else none)) else (bif Nat.beq p 44 then some (0, 0, 5, 2, []) else none)) else (bif Nat.ble 41 p then (bif Nat.beq p 41 then some (24, 0, 51, 3, []) else none) else (bif Nat.beq p 40 then some (2, 1, 0, 1, []) else none))) else (bif Nat.ble 35 p then (bif Nat.ble 38 p then (bif Nat.beq p 38 then some (0, 0, 5, 2, []) else none) else (bif Nat.beq p 35 then some (26, 0, 51, 3, []) else none)) else (bif Nat.ble 33 p then (bif Nat.beq p 33 then some (2, 60, 0, 2, []) else none) else (bif Nat.beq p 31 then some (0, 0, 4, 2, []) else none))))) else (bif Nat.ble 14 p then (bif Nat.ble 20 p then (bif Nat.ble 25 p then (bif Nat.ble 27 p then (bif Nat.ble 28 p then (bif Nat.beq p 28 then some (24, 0, 51, 3, []) else none) else (bif Nat.beq p 27 then some (2, 1, 0, 1, []) else none)) else (bif Nat.beq p 25 then some (0, 0, 4, 2, []) else none)) else (bif Nat.ble 22 p then (bif Nat.beq p 22 then some (26, 0, 51, 3, []) else none) else (bif Nat.beq p 20 then some (2, 64, 0, 2, []) else none))) else (bif Nat.ble 16 p then (bif Nat.ble 19 p then (bif Nat.beq p 19 then some (0, 0, 2, 1, []) else none) else (bif Nat.beq p 16 then some (24, 0, 51, 3, []) else none)) else (bif Nat.ble 15 p then (bif Nat.beq p 15 then some (2, 2, 0, 1, []) else none) else (bif Nat.beq p 14 then some (0, 0, 2, 1, []) else none)))) else (bif Nat.ble 6 p then (bif Nat.ble 10 p then (bif Nat.ble 11 p then (bif Nat.beq p 11 then some (26, 0, 51, 3, []) else none) else (bif Nat.beq p 10 then some (2, 2, 0, 1, []) else none)) else (bif Nat.ble 9 p then (bif Nat.beq p 9 then some (0, 0, 1, 1, []) else none) else (bif Nat.beq p 6 then some (30, 0, 51, 3, []) else none))) else (bif Nat.ble 2 p then (bif Nat.ble 5 p then (bif Nat.beq p 5 then some (0, 0, 1, 1, []) else none) else (bif Nat.beq p 2 then some (36, 0, 7, 3, []) else none)) else (bif Nat.ble 1 p then (bif Nat.beq p 1 then some (2, 0, 0, 1, []) else none) else (bif Nat.beq p 0 then some (1, 0, 0, 1, []) else none)))))))
def ca_X11_open (y : Nat) (as : List sl_V) (m : sl_M) : Option (sl_PL × sl_M) := bif Nat.beq y 104 then F_X11_first as m else none
def sp_X11_open (p : Nat) : Bool := false
def mk_X11_open (p : Nat) : List Bool := []
def cl_X11_open (p : Nat) : Option sl_C := bif Nat.ble 147 p then none else (bif Nat.beq p 146 then some (104, 1, 0, 0, 0, 12) else none)
def R_X11_open (ca : Nat → List sl_V → sl_M → Option (sl_PL × sl_M)) : Nat → sl_S → sl_M → Option (sl_PL × sl_M) := sl_B tb_X11_open fl_X11 pf_X11 cl_X11_open nw_X11 sl_rd sl_wr sl_al sl_ln 0 (fun _ => 0) ca sp_X11_open mk_X11_open
def F_X11_open (as : List sl_V) (m : sl_M) : Option (sl_PL × sl_M) := R_X11_open ca_X11_open 100000 (0, sl_lo 7 as, []) m
def f_X11_open (a0 : Int32) (a1 : Int32) (a2 : Int32) (a3 : Int32) (a4 : Int32) (m : sl_M) : Option (sl_PL × sl_M) := F_X11_open [.inr (.inl (some (11, 0))), .inl a0, .inl a1, .inl a2, .inl a3, .inl a4] m
def r_X11_open_0 (ca : Nat → List sl_V → sl_M → Option (sl_PL × sl_M)) (n : Nat) (a0 : Int32) (a1 : Int32) (a2 : Int32) (a3 : Int32) (a4 : Int32) (m : sl_M) : Option (sl_PL × sl_M) := R_X11_open ca n (0, sl_lo 7 [.inr (.inl (some (11, 0))), .inl a0, .inl a1, .inl a2, .inl a3, .inl a4], []) m
set_option maxRecDepth 100000 in
theorem g_X11_open_0 (ca : Nat → List sl_V → sl_M → Option (sl_PL × sl_M)) (n : Nat) (a0 : Int32) (a1 : Int32) (a2 : Int32) (a3 : Int32) (a4 : Int32) (m : sl_M) : r_X11_open_0 ca (n + 1) a0 a1 a2 a3 a4 m =
  if a0 < 0 then
    some (((0 : Int32), 0, 0), (sl_up m 11 0 0 (0 : Int32)))
  else
    if (2 : Int32) < a0 then
      some (((0 : Int32), 0, 0), (sl_up m 11 0 0 (0 : Int32)))
    else
      if a1 < (2 : Int32) then
        some (((0 : Int32), 0, 0), (sl_up m 11 0 0 (0 : Int32)))
      else
        if (64 : Int32) < a1 then
          some (((0 : Int32), 0, 0), (sl_up m 11 0 0 (0 : Int32)))
        else
          if a3 < (1 : Int32) then
            some (((0 : Int32), 0, 0), (sl_up m 11 0 0 (0 : Int32)))
          else
            if (60 : Int32) < a3 then
              some (((0 : Int32), 0, 0), (sl_up m 11 0 0 (0 : Int32)))
            else
              if a4 < (1 : Int32) then
                some (((0 : Int32), 0, 0), (sl_up m 11 0 0 (0 : Int32)))
              else
                if a4 ≤ (50 : Int32) then
                  if a0 = 0 then
                    if a2 < (1 : Int32) then
                      some (((0 : Int32), 0, 0), (sl_up m 11 0 0 (0 : Int32)))
                    else
                      if a2 ≤ (1 : Int32) then
                        (ca 104 [.inr (.inl (some (11, 0)))] (sl_up (sl_up (sl_up (sl_up (sl_up (sl_up m 11 0 0 (0 : Int32)) 11 0 9 a0) 11 0 10 a1) 11 0 11 a2) 11 0 12 a3) 11 0 13 a4)).bind (fun q1 =>
                        some (((1 : Int32), 0, 0), q1.2))
                      else
                        some (((0 : Int32), 0, 0), (sl_up m 11 0 0 (0 : Int32)))
                  else
                    if a0 = (1 : Int32) then
                      if a2 < (1 : Int32) then
                        some (((0 : Int32), 0, 0), (sl_up m 11 0 0 (0 : Int32)))
                      else
                        if a2 ≤ (a1 - (1 : Int32)) then
                          (ca 104 [.inr (.inl (some (11, 0)))] (sl_up (sl_up (sl_up (sl_up (sl_up (sl_up m 11 0 0 (0 : Int32)) 11 0 9 a0) 11 0 10 a1) 11 0 11 a2) 11 0 12 a3) 11 0 13 a4)).bind (fun q2 =>
                          some (((1 : Int32), 0, 0), q2.2))
                        else
                          some (((0 : Int32), 0, 0), (sl_up m 11 0 0 (0 : Int32)))
                    else
                      if a2 < (1 : Int32) then
                        some (((0 : Int32), 0, 0), (sl_up m 11 0 0 (0 : Int32)))
                      else
                        if a2 ≤ (a1 / (2 : Int32)) then
                          (ca 104 [.inr (.inl (some (11, 0)))] (sl_up (sl_up (sl_up (sl_up (sl_up (sl_up m 11 0 0 (0 : Int32)) 11 0 9 a0) 11 0 10 a1) 11 0 11 a2) 11 0 12 a3) 11 0 13 a4)).bind (fun q3 =>
                          some (((1 : Int32), 0, 0), q3.2))
                        else
                          some (((0 : Int32), 0, 0), (sl_up m 11 0 0 (0 : Int32)))
                else
                  some (((0 : Int32), 0, 0), (sl_up m 11 0 0 (0 : Int32))) := by rfl
theorem cq_X11_open_X11_first  (m : sl_M) : ca_X11_open 104 [.inr (.inl (some (11, 0)))] m = f_X11_first m := by
  unfold ca_X11_open f_X11_first
  rw [show Nat.beq 104 104 = true from rfl, cond_true]
theorem e_X11_open (a0 : Int32) (a1 : Int32) (a2 : Int32) (a3 : Int32) (a4 : Int32) (m : sl_M) : f_X11_open a0 a1 a2 a3 a4 m =
  if a0 < 0 then
    some (((0 : Int32), 0, 0), (sl_up m 11 0 0 (0 : Int32)))
  else
    if (2 : Int32) < a0 then
      some (((0 : Int32), 0, 0), (sl_up m 11 0 0 (0 : Int32)))
    else
      if a1 < (2 : Int32) then
        some (((0 : Int32), 0, 0), (sl_up m 11 0 0 (0 : Int32)))
      else
        if (64 : Int32) < a1 then
          some (((0 : Int32), 0, 0), (sl_up m 11 0 0 (0 : Int32)))
        else
          if a3 < (1 : Int32) then
            some (((0 : Int32), 0, 0), (sl_up m 11 0 0 (0 : Int32)))
          else
            if (60 : Int32) < a3 then
              some (((0 : Int32), 0, 0), (sl_up m 11 0 0 (0 : Int32)))
            else
              if a4 < (1 : Int32) then
                some (((0 : Int32), 0, 0), (sl_up m 11 0 0 (0 : Int32)))
              else
                if a4 ≤ (50 : Int32) then
                  if a0 = 0 then
                    if a2 < (1 : Int32) then
                      some (((0 : Int32), 0, 0), (sl_up m 11 0 0 (0 : Int32)))
                    else
                      if a2 ≤ (1 : Int32) then
                        (f_X11_first (sl_up (sl_up (sl_up (sl_up (sl_up (sl_up m 11 0 0 (0 : Int32)) 11 0 9 a0) 11 0 10 a1) 11 0 11 a2) 11 0 12 a3) 11 0 13 a4)).bind (fun q1 =>
                        some (((1 : Int32), 0, 0), q1.2))
                      else
                        some (((0 : Int32), 0, 0), (sl_up m 11 0 0 (0 : Int32)))
                  else
                    if a0 = (1 : Int32) then
                      if a2 < (1 : Int32) then
                        some (((0 : Int32), 0, 0), (sl_up m 11 0 0 (0 : Int32)))
                      else
                        if a2 ≤ (a1 - (1 : Int32)) then
                          (f_X11_first (sl_up (sl_up (sl_up (sl_up (sl_up (sl_up m 11 0 0 (0 : Int32)) 11 0 9 a0) 11 0 10 a1) 11 0 11 a2) 11 0 12 a3) 11 0 13 a4)).bind (fun q2 =>
                          some (((1 : Int32), 0, 0), q2.2))
                        else
                          some (((0 : Int32), 0, 0), (sl_up m 11 0 0 (0 : Int32)))
                    else
                      if a2 < (1 : Int32) then
                        some (((0 : Int32), 0, 0), (sl_up m 11 0 0 (0 : Int32)))
                      else
                        if a2 ≤ (a1 / (2 : Int32)) then
                          (f_X11_first (sl_up (sl_up (sl_up (sl_up (sl_up (sl_up m 11 0 0 (0 : Int32)) 11 0 9 a0) 11 0 10 a1) 11 0 11 a2) 11 0 12 a3) 11 0 13 a4)).bind (fun q3 =>
                          some (((1 : Int32), 0, 0), q3.2))
                        else
                          some (((0 : Int32), 0, 0), (sl_up m 11 0 0 (0 : Int32)))
                else
                  some (((0 : Int32), 0, 0), (sl_up m 11 0 0 (0 : Int32))) := by
  have h := g_X11_open_0 ca_X11_open 99999 a0 a1 a2 a3 a4 m
  simp only [cq_X11_open_X11_first] at h
  exact h

def tb_X11_give (p : Nat) : Option sl_E := bif Nat.ble 95 p then none else (bif Nat.ble 49 p then (bif Nat.ble 74 p then (bif Nat.ble 83 p then (bif Nat.ble 89 p then (bif Nat.ble 93 p then (bif Nat.ble 94 p then (bif Nat.beq p 94 then some (47, 0, 1, 1, []) else none) else (bif Nat.beq p 93 then some (37, 0, 0, 1, []) else none)) else (bif Nat.ble 92 p then (bif Nat.beq p 92 then some (0, 0, 1, 1, []) else none) else (bif Nat.beq p 89 then some (35, 0, 60, 3, []) else none))) else (bif Nat.ble 85 p then (bif Nat.ble 88 p then (bif Nat.beq p 88 then some (1, 0, 0, 1, []) else none) else (bif Nat.beq p 85 then some (36, 0, 17, 3, []) else none)) else (bif Nat.ble 84 p then (bif Nat.beq p 84 then some (2, 0, 0, 1, []) else none) else (bif Nat.beq p 83 then some (1, 0, 0, 1, []) else none)))) else (bif Nat.ble 77 p then (bif Nat.ble 81 p then (bif Nat.ble 82 p then (bif Nat.beq p 82 then some (41, 0, 0, 1, []) else none) else (bif Nat.beq p 81 then some (6, 0, 0, 1, []) else none)) else (bif Nat.ble 78 p then (bif Nat.beq p 78 then some (35, 0, 17, 3, []) else none) else (bif Nat.beq p 77 then some (1, 0, 0, 1, []) else none))) else (bif Nat.ble 75 p then (bif Nat.ble 76 p then (bif Nat.beq p 76 then some (37, 0, 0, 1, []) else none) else (bif Nat.beq p 75 then some (20, 0, 0, 1, []) else none)) else (bif Nat.beq p 74 then some (0, 0, 1, 1, []) else none)))) else (bif Nat.ble 58 p then (bif Nat.ble 64 p then (bif Nat.ble 70 p then (bif Nat.ble 71 p then (bif Nat.beq p 71 then some (35, 0, 60, 3, []) else none) else (bif Nat.beq p 70 then some (1, 0, 0, 1, []) else none)) else (bif Nat.ble 67 p then (bif Nat.beq p 67 then some (34, 0, 31, 3, []) else none) else (bif Nat.beq p 64 then some (5, 1, 2, 3, []) else none))) else (bif Nat.ble 62 p then (bif Nat.ble 63 p then (bif Nat.beq p 63 then some (42, 0, 0, 1, []) else none) else (bif Nat.beq p 62 then some (38, 0, 0, 1, []) else none)) else (bif Nat.ble 61 p then (bif Nat.beq p 61 then some (0, 0, 2, 1, []) else none) else (bif Nat.beq p 58 then some (35, 0, 13, 3, []) else none)))) else (bif Nat.ble 54 p then (bif Nat.ble 56 p then (bif Nat.ble 57 p then (bif Nat.beq p 57 then some (1, 0, 0, 1, []) else none) else (bif Nat.beq p 56 then some (6, 0, 0, 1, []) else none)) else (bif Nat.ble 55 p then (bif Nat.beq p 55 then some (0, 0, 2, 1, []) else none) else (bif Nat.beq p 54 then some (6, 0, 0, 1, []) else none))) else (bif Nat.ble 52 p then (bif Nat.ble 53 p then (bif Nat.beq p 53 then some (37, 0, 0, 1, []) else none) else (bif Nat.beq p 52 then some (0, 0, 1, 1, []) else none)) else (bif Nat.beq p 49 then some (35, 0, 60, 3, []) else none))))) else (bif Nat.ble 24 p then (bif Nat.ble 33 p then (bif Nat.ble 43 p then (bif Nat.ble 47 p then (bif Nat.ble 48 p then (bif Nat.beq p 48 then some (1, 0, 0, 1, []) else none) else (bif Nat.beq p 47 then some (8, 0, 0, 1, []) else none)) else (bif Nat.ble 46 p then (bif Nat.beq p 46 then some (0, 0, 1, 1, []) else none) else (bif Nat.beq p 43 then some (2, 3000, 0, 3, []) else none))) else (bif Nat.ble 39 p then (bif Nat.ble 40 p then (bif Nat.beq p 40 then some (35, 0, 54, 3, []) else none) else (bif Nat.beq p 39 then some (1, 0, 0, 1, []) else none)) else (bif Nat.ble 36 p then (bif Nat.beq p 36 then some (25, 0, 70, 3, []) else none) else (bif Nat.beq p 33 then some (35, 0, 17, 3, []) else none)))) else (bif Nat.ble 29 p then (bif Nat.ble 31 p then (bif Nat.ble 32 p then (bif Nat.beq p 32 then some (1, 0, 0, 1, []) else none) else (bif Nat.beq p 31 then some (0, 0, 2, 1, []) else none)) else (bif Nat.ble 30 p then (bif Nat.beq p 30 then some (3, 0, 2, 1, []) else none) else (bif Nat.beq p 29 then some (2, 0, 0, 1, []) else none))) else (bif Nat.ble 27 p then (bif Nat.ble 28 p then (bif Nat.beq p 28 then some (47, 0, 1, 1, []) else none) else (bif Nat.beq p 27 then some (2, (-1), 0, 1, []) else none)) else (bif Nat.beq p 24 then some (27, 0, 29, 3, []) else none)))) else (bif Nat.ble 11 p then (bif Nat.ble 16 p then (bif Nat.ble 20 p then (bif Nat.ble 21 p then (bif Nat.beq p 21 then some (2, 3000, 0, 3, []) else none) else (bif Nat.beq p 20 then some (6, 0, 0, 1, []) else none)) else (bif Nat.ble 17 p then (bif Nat.beq p 17 then some (35, 0, 17, 3, []) else none) else (bif Nat.beq p 16 then some (1, 0, 0, 1, []) else none))) else (bif Nat.ble 14 p then (bif Nat.ble 15 p then (bif Nat.beq p 15 then some (37, 0, 0, 1, []) else none) else (bif Nat.beq p 14 then some (0, 0, 1, 1, []) else none)) else (bif Nat.beq p 11 then some (35, 0, 60, 3, []) else none))) else (bif Nat.ble 5 p then (bif Nat.ble 9 p then (bif Nat.ble 10 p then (bif Nat.beq p 10 then some (1, 0, 0, 1, []) else none) else (bif Nat.beq p 9 then some (47, 0, 1, 1, []) else none)) else (bif Nat.ble 8 p then (bif Nat.beq p 8 then some (2, (-1), 0, 1, []) else none) else (bif Nat.beq p 5 then some (28, 0, 10, 3, []) else none))) else (bif Nat.ble 1 p then (bif Nat.ble 2 p then (bif Nat.beq p 2 then some (46, 0, 165, 3, []) else none) else (bif Nat.beq p 1 then some (0, 0, 1, 1, []) else none)) else (bif Nat.beq p 0 then some (1, 0, 0, 1, []) else none))))))
def ca_X11_give (y : Nat) (as : List sl_V) (m : sl_M) : Option (sl_PL × sl_M) := bif Nat.beq y 91 then F_X11_isOut as m else none
def sp_X11_give (p : Nat) : Bool := Nat.beq p 31
def mk_X11_give (p : Nat) : List Bool := bif Nat.beq p 31 then [true, true, true] else []
def cl_X11_give (p : Nat) : Option sl_C := bif Nat.ble 166 p then none else (bif Nat.beq p 165 then some (91, 2, 1, 0, 0, 12) else none)
def R_X11_give (ca : Nat → List sl_V → sl_M → Option (sl_PL × sl_M)) : Nat → sl_S → sl_M → Option (sl_PL × sl_M) := sl_B tb_X11_give fl_X11 pf_X11 cl_X11_give nw_X11 sl_rd sl_wr sl_al sl_ln 0 (fun _ => 0) ca sp_X11_give mk_X11_give
def F_X11_give (as : List sl_V) (m : sl_M) : Option (sl_PL × sl_M) := R_X11_give ca_X11_give 100000 (0, sl_lo 3 as, []) m
def f_X11_give (a0 : Int32) (m : sl_M) : Option (sl_PL × sl_M) := F_X11_give [.inr (.inl (some (11, 0))), .inl a0] m
def r_X11_give_0 (ca : Nat → List sl_V → sl_M → Option (sl_PL × sl_M)) (n : Nat) (a0 : Int32) (m : sl_M) : Option (sl_PL × sl_M) := R_X11_give ca n (0, sl_lo 3 [.inr (.inl (some (11, 0))), .inl a0], []) m
def r_X11_give_31 (ca : Nat → List sl_V → sl_M → Option (sl_PL × sl_M)) (n : Nat) (v1 : Int32) (v2 : Int32) (m : sl_M) : Option (sl_PL × sl_M) := R_X11_give ca n (31, [some (.inr (.inl (some (11, 0)))), some (.inl v1), some (.inl v2)], []) m
def b_X11_give_31 (n : Nat) (v1 : Int32) (v2 : Int32) (m : sl_M) : Option (sl_PL × sl_M) := r_X11_give_31 ca_X11_give n v1 v2 m
set_option maxRecDepth 100000 in
theorem g_X11_give_0 (ca : Nat → List sl_V → sl_M → Option (sl_PL × sl_M)) (n : Nat) (a0 : Int32) (m : sl_M) : r_X11_give_0 ca (n + 1) a0 m =
  (ca 91 [.inr (.inl (some (11, 0))), .inl a0] m).bind (fun q1 =>
  if q1.1.1 = 0 then
    if 0 ≤ a0 ∧ a0.toNatClampNeg < 2 then
    if ((q1.2.1 51 0 a0.toNatClampNeg) + (q1.2.1 11 0 2)) ≤ (3000 : Int32) then
      r_X11_give_31 ca n a0 (0 : Int32) q1.2
    else
      some (((-1 : Int32), 0, 0), q1.2)
    else none
  else
    some (((-1 : Int32), 0, 0), q1.2)) := by rfl
set_option maxRecDepth 100000 in
theorem g_X11_give_31 (ca : Nat → List sl_V → sl_M → Option (sl_PL × sl_M)) (n : Nat) (v1 : Int32) (v2 : Int32) (m : sl_M) : r_X11_give_31 ca (n + 1) v1 v2 m =
  if (m.1 11 0 2) ≤ v2 then
    if 0 ≤ v1 ∧ v1.toNatClampNeg < 2 then
    if 0 ≤ v1 ∧ v1.toNatClampNeg < 2 then
    if 0 ≤ v1 ∧ v1.toNatClampNeg < 2 then
    some ((((sl_up m 51 0 v1.toNatClampNeg ((m.1 51 0 v1.toNatClampNeg) + (m.1 11 0 2))).1 51 0 v1.toNatClampNeg), 0, 0), (sl_up (sl_up m 51 0 v1.toNatClampNeg ((m.1 51 0 v1.toNatClampNeg) + (m.1 11 0 2))) 11 0 2 (0 : Int32)))
    else none
    else none
    else none
  else
    if 0 ≤ v1 ∧ v1.toNatClampNeg < 2 then
    if 0 ≤ v2 ∧ v2.toNatClampNeg < 1200 then
    if 0 ≤ ((((3000 : Int32) * v1) + (m.1 51 0 v1.toNatClampNeg)) + v2) ∧ ((((3000 : Int32) * v1) + (m.1 51 0 v1.toNatClampNeg)) + v2).toNatClampNeg < 6000 then
    r_X11_give_31 ca n v1 (v2 + (1 : Int32)) (sl_up m 30 3 (((((3000 : Int32) * v1) + (m.1 51 0 v1.toNatClampNeg)) + v2).toNatClampNeg) (sl_sx (m.1 30 0 v2.toNatClampNeg)))
    else none
    else none
    else none := by rfl
theorem cq_X11_give_X11_isOut (a0 : Int32) (m : sl_M) : ca_X11_give 91 [.inr (.inl (some (11, 0))), .inl a0] m = f_X11_isOut a0 m := by
  unfold ca_X11_give f_X11_isOut
  rw [show Nat.beq 91 91 = true from rfl, cond_true]
theorem bq_X11_give_31 (n : Nat) (v1 : Int32) (v2 : Int32) (m : sl_M) : r_X11_give_31 ca_X11_give n v1 v2 m = b_X11_give_31 n v1 v2 m := rfl
theorem e_X11_give (a0 : Int32) (m : sl_M) : f_X11_give a0 m =
  (f_X11_isOut a0 m).bind (fun q1 =>
  if q1.1.1 = 0 then
    if 0 ≤ a0 ∧ a0.toNatClampNeg < 2 then
    if ((q1.2.1 51 0 a0.toNatClampNeg) + (q1.2.1 11 0 2)) ≤ (3000 : Int32) then
      b_X11_give_31 99999 a0 (0 : Int32) q1.2
    else
      some (((-1 : Int32), 0, 0), q1.2)
    else none
  else
    some (((-1 : Int32), 0, 0), q1.2)) := by
  have h := g_X11_give_0 ca_X11_give 99999 a0 m
  simp only [cq_X11_give_X11_isOut, bq_X11_give_31] at h
  exact h
theorem e_X11_give_31 (n : Nat) (v1 : Int32) (v2 : Int32) (m : sl_M) : b_X11_give_31 (n + 1) v1 v2 m =
  if (m.1 11 0 2) ≤ v2 then
    if 0 ≤ v1 ∧ v1.toNatClampNeg < 2 then
    if 0 ≤ v1 ∧ v1.toNatClampNeg < 2 then
    if 0 ≤ v1 ∧ v1.toNatClampNeg < 2 then
    some ((((sl_up m 51 0 v1.toNatClampNeg ((m.1 51 0 v1.toNatClampNeg) + (m.1 11 0 2))).1 51 0 v1.toNatClampNeg), 0, 0), (sl_up (sl_up m 51 0 v1.toNatClampNeg ((m.1 51 0 v1.toNatClampNeg) + (m.1 11 0 2))) 11 0 2 (0 : Int32)))
    else none
    else none
    else none
  else
    if 0 ≤ v1 ∧ v1.toNatClampNeg < 2 then
    if 0 ≤ v2 ∧ v2.toNatClampNeg < 1200 then
    if 0 ≤ ((((3000 : Int32) * v1) + (m.1 51 0 v1.toNatClampNeg)) + v2) ∧ ((((3000 : Int32) * v1) + (m.1 51 0 v1.toNatClampNeg)) + v2).toNatClampNeg < 6000 then
    b_X11_give_31 n v1 (v2 + (1 : Int32)) (sl_up m 30 3 (((((3000 : Int32) * v1) + (m.1 51 0 v1.toNatClampNeg)) + v2).toNatClampNeg) (sl_sx (m.1 30 0 v2.toNatClampNeg)))
    else none
    else none
    else none := by
  have h := g_X11_give_31 ca_X11_give n v1 v2 m
  simp only [cq_X11_give_X11_isOut, bq_X11_give_31] at h
  exact h

def tb_X11_lay (p : Nat) : Option sl_E := bif Nat.ble 211 p then none else (bif Nat.ble 105 p then (bif Nat.ble 157 p then (bif Nat.ble 187 p then (bif Nat.ble 199 p then (bif Nat.ble 203 p then (bif Nat.ble 208 p then (bif Nat.ble 209 p then (bif Nat.ble 210 p then (bif Nat.beq p 210 then some (50, 0, 0, 1, []) else none) else (bif Nat.beq p 209 then some (42, 0, 0, 1, []) else none)) else (bif Nat.beq p 208 then some (0, 0, 3, 1, []) else none)) else (bif Nat.ble 206 p then (bif Nat.beq p 206 then some (0, 0, 5, 2, []) else none) else (bif Nat.beq p 203 then some (35, 0, 130, 3, []) else none))) else (bif Nat.ble 201 p then (bif Nat.ble 202 p then (bif Nat.beq p 202 then some (1, 0, 0, 1, []) else none) else (bif Nat.beq p 201 then some (41, 0, 0, 1, []) else none)) else (bif Nat.ble 200 p then (bif Nat.beq p 200 then some (7, 0, 0, 1, []) else none) else (bif Nat.beq p 199 then some (2, 1, 0, 1, []) else none)))) else (bif Nat.ble 192 p then (bif Nat.ble 196 p then (bif Nat.ble 198 p then (bif Nat.beq p 198 then some (0, 0, 2, 1, []) else none) else (bif Nat.beq p 196 then some (0, 0, 5, 2, []) else none)) else (bif Nat.ble 193 p then (bif Nat.beq p 193 then some (35, 0, 127, 3, []) else none) else (bif Nat.beq p 192 then some (1, 0, 0, 1, []) else none))) else (bif Nat.ble 190 p then (bif Nat.ble 191 p then (bif Nat.beq p 191 then some (41, 0, 0, 1, []) else none) else (bif Nat.beq p 190 then some (11, 0, 0, 1, []) else none)) else (bif Nat.ble 188 p then (bif Nat.beq p 188 then some (2, 63, 0, 2, []) else none) else (bif Nat.beq p 187 then some (38, 0, 0, 1, []) else none))))) else (bif Nat.ble 172 p then (bif Nat.ble 177 p then (bif Nat.ble 182 p then (bif Nat.ble 183 p then (bif Nat.ble 186 p then (bif Nat.beq p 186 then some (2, 0, 0, 1, []) else none) else (bif Nat.beq p 183 then some (35, 0, 136, 3, []) else none)) else (bif Nat.beq p 182 then some (1, 0, 0, 1, []) else none)) else (bif Nat.ble 180 p then (bif Nat.beq p 180 then some (0, 0, 5, 2, []) else none) else (bif Nat.beq p 177 then some (35, 0, 124, 3, []) else none))) else (bif Nat.ble 175 p then (bif Nat.ble 176 p then (bif Nat.beq p 176 then some (1, 0, 0, 1, []) else none) else (bif Nat.beq p 175 then some (41, 0, 0, 1, []) else none)) else (bif Nat.ble 174 p then (bif Nat.beq p 174 then some (15, 0, 0, 1, []) else none) else (bif Nat.beq p 172 then some (2, 6, 0, 2, []) else none)))) else (bif Nat.ble 166 p then (bif Nat.ble 168 p then (bif Nat.ble 171 p then (bif Nat.beq p 171 then some (11, 0, 0, 1, []) else none) else (bif Nat.beq p 168 then some (2, 255, 0, 3, []) else none)) else (bif Nat.ble 167 p then (bif Nat.beq p 167 then some (38, 0, 0, 1, []) else none) else (bif Nat.beq p 166 then some (2, 0, 0, 1, []) else none))) else (bif Nat.ble 162 p then (bif Nat.ble 163 p then (bif Nat.beq p 163 then some (35, 0, 136, 3, []) else none) else (bif Nat.beq p 162 then some (1, 0, 0, 1, []) else none)) else (bif Nat.ble 160 p then (bif Nat.beq p 160 then some (0, 0, 5, 2, []) else none) else (bif Nat.beq p 157 then some (35, 0, 121, 3, []) else none)))))) else (bif Nat.ble 131 p then (bif Nat.ble 144 p then (bif Nat.ble 151 p then (bif Nat.ble 154 p then (bif Nat.ble 155 p then (bif Nat.ble 156 p then (bif Nat.beq p 156 then some (1, 0, 0, 1, []) else none) else (bif Nat.beq p 155 then some (41, 0, 0, 1, []) else none)) else (bif Nat.beq p 154 then some (6, 0, 0, 1, []) else none)) else (bif Nat.ble 153 p then (bif Nat.beq p 153 then some (2, 1, 0, 1, []) else none) else (bif Nat.beq p 151 then some (0, 0, 6, 2, []) else none))) else (bif Nat.ble 146 p then (bif Nat.ble 149 p then (bif Nat.beq p 149 then some (0, 0, 5, 2, []) else none) else (bif Nat.beq p 146 then some (35, 0, 118, 3, []) else none)) else (bif Nat.ble 145 p then (bif Nat.beq p 145 then some (1, 0, 0, 1, []) else none) else (bif Nat.beq p 144 then some (42, 0, 0, 1, []) else none)))) else (bif Nat.ble 139 p then (bif Nat.ble 142 p then (bif Nat.ble 143 p then (bif Nat.beq p 143 then some (2, 0, 0, 1, []) else none) else (bif Nat.beq p 142 then some (6, 0, 0, 1, []) else none)) else (bif Nat.ble 140 p then (bif Nat.beq p 140 then some (0, 0, 6, 2, []) else none) else (bif Nat.beq p 139 then some (8, 0, 0, 1, []) else none))) else (bif Nat.ble 135 p then (bif Nat.ble 137 p then (bif Nat.beq p 137 then some (0, 0, 5, 2, []) else none) else (bif Nat.beq p 135 then some (2, 80, 0, 2, []) else none)) else (bif Nat.ble 132 p then (bif Nat.beq p 132 then some (35, 0, 115, 3, []) else none) else (bif Nat.beq p 131 then some (1, 0, 0, 1, []) else none))))) else (bif Nat.ble 115 p then (bif Nat.ble 121 p then (bif Nat.ble 125 p then (bif Nat.ble 126 p then (bif Nat.ble 129 p then (bif Nat.beq p 129 then some (3, 0, 6, 2, []) else none) else (bif Nat.beq p 126 then some (46, 0, 157, 3, []) else none)) else (bif Nat.beq p 125 then some (8, 0, 0, 1, []) else none)) else (bif Nat.ble 123 p then (bif Nat.beq p 123 then some (0, 0, 5, 2, []) else none) else (bif Nat.beq p 121 then some (2, 80, 0, 2, []) else none))) else (bif Nat.ble 117 p then (bif Nat.ble 118 p then (bif Nat.beq p 118 then some (35, 0, 115, 3, []) else none) else (bif Nat.beq p 117 then some (1, 0, 0, 1, []) else none)) else (bif Nat.ble 116 p then (bif Nat.beq p 116 then some (6, 0, 0, 1, []) else none) else (bif Nat.beq p 115 then some (2, 4, 0, 1, []) else none)))) else (bif Nat.ble 109 p then (bif Nat.ble 111 p then (bif Nat.ble 114 p then (bif Nat.beq p 114 then some (0, 0, 2, 1, []) else none) else (bif Nat.beq p 111 then some (35, 0, 136, 3, []) else none)) else (bif Nat.ble 110 p then (bif Nat.beq p 110 then some (1, 0, 0, 1, []) else none) else (bif Nat.beq p 109 then some (41, 0, 0, 1, []) else none))) else (bif Nat.ble 107 p then (bif Nat.ble 108 p then (bif Nat.beq p 108 then some (6, 0, 0, 1, []) else none) else (bif Nat.beq p 107 then some (2, 1, 0, 1, []) else none)) else (bif Nat.ble 106 p then (bif Nat.beq p 106 then some (37, 0, 0, 1, []) else none) else (bif Nat.beq p 105 then some (20, 0, 0, 1, []) else none))))))) else (bif Nat.ble 50 p then (bif Nat.ble 80 p then (bif Nat.ble 92 p then (bif Nat.ble 97 p then (bif Nat.ble 100 p then (bif Nat.ble 101 p then (bif Nat.ble 104 p then (bif Nat.beq p 104 then some (0, 0, 1, 1, []) else none) else (bif Nat.beq p 101 then some (35, 0, 112, 3, []) else none)) else (bif Nat.beq p 100 then some (1, 0, 0, 1, []) else none)) else (bif Nat.ble 98 p then (bif Nat.beq p 98 then some (3, 0, 5, 2, []) else none) else (bif Nat.beq p 97 then some (6, 0, 0, 1, []) else none))) else (bif Nat.ble 94 p then (bif Nat.ble 96 p then (bif Nat.beq p 96 then some (10, 0, 0, 1, []) else none) else (bif Nat.beq p 94 then some (2, 40, 0, 2, []) else none)) else (bif Nat.ble 93 p then (bif Nat.beq p 93 then some (6, 0, 0, 1, []) else none) else (bif Nat.beq p 92 then some (37, 0, 0, 1, []) else none)))) else (bif Nat.ble 86 p then (bif Nat.ble 88 p then (bif Nat.ble 91 p then (bif Nat.beq p 91 then some (0, 0, 1, 1, []) else none) else (bif Nat.beq p 88 then some (35, 0, 112, 3, []) else none)) else (bif Nat.ble 87 p then (bif Nat.beq p 87 then some (1, 0, 0, 1, []) else none) else (bif Nat.beq p 86 then some (37, 0, 0, 1, []) else none))) else (bif Nat.ble 82 p then (bif Nat.ble 85 p then (bif Nat.beq p 85 then some (0, 0, 1, 1, []) else none) else (bif Nat.beq p 82 then some (35, 0, 109, 3, []) else none)) else (bif Nat.ble 81 p then (bif Nat.beq p 81 then some (1, 0, 0, 1, []) else none) else (bif Nat.beq p 80 then some (8, 0, 0, 1, []) else none))))) else (bif Nat.ble 65 p then (bif Nat.ble 70 p then (bif Nat.ble 74 p then (bif Nat.ble 77 p then (bif Nat.ble 79 p then (bif Nat.beq p 79 then some (0, 0, 1, 1, []) else none) else (bif Nat.beq p 77 then some (2, 40, 0, 2, []) else none)) else (bif Nat.beq p 74 then some (34, 0, 47, 3, []) else none)) else (bif Nat.ble 71 p then (bif Nat.beq p 71 then some (5, 1, 5, 3, []) else none) else (bif Nat.beq p 70 then some (42, 0, 0, 1, []) else none))) else (bif Nat.ble 68 p then (bif Nat.ble 69 p then (bif Nat.beq p 69 then some (17, 0, 0, 1, []) else none) else (bif Nat.beq p 68 then some (15, 0, 0, 1, []) else none)) else (bif Nat.ble 67 p then (bif Nat.beq p 67 then some (8, 0, 0, 1, []) else none) else (bif Nat.beq p 65 then some (0, 0, 5, 2, []) else none)))) else (bif Nat.ble 58 p then (bif Nat.ble 61 p then (bif Nat.ble 63 p then (bif Nat.beq p 63 then some (2, 8, 0, 2, []) else none) else (bif Nat.beq p 61 then some (0, 0, 4, 2, []) else none)) else (bif Nat.ble 60 p then (bif Nat.beq p 60 then some (6, 0, 0, 1, []) else none) else (bif Nat.beq p 58 then some (0, 0, 5, 2, []) else none))) else (bif Nat.ble 54 p then (bif Nat.ble 57 p then (bif Nat.beq p 57 then some (0, 0, 2, 1, []) else none) else (bif Nat.beq p 54 then some (35, 0, 136, 3, []) else none)) else (bif Nat.ble 53 p then (bif Nat.beq p 53 then some (1, 0, 0, 1, []) else none) else (bif Nat.beq p 50 then some (25, 0, 77, 3, []) else none)))))) else (bif Nat.ble 26 p then (bif Nat.ble 34 p then (bif Nat.ble 42 p then (bif Nat.ble 45 p then (bif Nat.ble 47 p then (bif Nat.ble 49 p then (bif Nat.beq p 49 then some (2, 4, 0, 1, []) else none) else (bif Nat.beq p 47 then some (0, 0, 5, 2, []) else none)) else (bif Nat.beq p 45 then some (3, 0, 5, 2, []) else none)) else (bif Nat.ble 44 p then (bif Nat.beq p 44 then some (2, 0, 0, 1, []) else none) else (bif Nat.beq p 42 then some (3, 0, 4, 2, []) else none))) else (bif Nat.ble 38 p then (bif Nat.ble 39 p then (bif Nat.beq p 39 then some (46, 0, 149, 3, []) else none) else (bif Nat.beq p 38 then some (0, 0, 2, 1, []) else none)) else (bif Nat.ble 37 p then (bif Nat.beq p 37 then some (2, 0, 0, 1, []) else none) else (bif Nat.beq p 34 then some (35, 0, 136, 3, []) else none)))) else (bif Nat.ble 30 p then (bif Nat.ble 32 p then (bif Nat.ble 33 p then (bif Nat.beq p 33 then some (1, 0, 0, 1, []) else none) else (bif Nat.beq p 32 then some (1, 0, 0, 1, []) else none)) else (bif Nat.ble 31 p then (bif Nat.beq p 31 then some (50, 0, 0, 1, []) else none) else (bif Nat.beq p 30 then some (41, 0, 0, 1, []) else none))) else (bif Nat.ble 28 p then (bif Nat.ble 29 p then (bif Nat.beq p 29 then some (6, 0, 0, 1, []) else none) else (bif Nat.beq p 28 then some (2, 1, 0, 1, []) else none)) else (bif Nat.ble 27 p then (bif Nat.beq p 27 then some (37, 0, 0, 1, []) else none) else (bif Nat.beq p 26 then some (20, 0, 0, 1, []) else none))))) else (bif Nat.ble 10 p then (bif Nat.ble 16 p then (bif Nat.ble 21 p then (bif Nat.ble 22 p then (bif Nat.ble 25 p then (bif Nat.beq p 25 then some (2, 2, 0, 1, []) else none) else (bif Nat.beq p 22 then some (35, 0, 133, 3, []) else none)) else (bif Nat.beq p 21 then some (1, 0, 0, 1, []) else none)) else (bif Nat.ble 18 p then (bif Nat.beq p 18 then some (23, 0, 32, 3, []) else none) else (bif Nat.beq p 16 then some (2, 40, 0, 2, []) else none))) else (bif Nat.ble 14 p then (bif Nat.ble 15 p then (bif Nat.beq p 15 then some (37, 0, 0, 1, []) else none) else (bif Nat.beq p 14 then some (0, 0, 1, 1, []) else none)) else (bif Nat.ble 11 p then (bif Nat.beq p 11 then some (35, 0, 112, 3, []) else none) else (bif Nat.beq p 10 then some (1, 0, 0, 1, []) else none)))) else (bif Nat.ble 6 p then (bif Nat.ble 8 p then (bif Nat.ble 9 p then (bif Nat.beq p 9 then some (41, 0, 0, 1, []) else none) else (bif Nat.beq p 8 then some (6, 0, 0, 1, []) else none)) else (bif Nat.ble 7 p then (bif Nat.beq p 7 then some (2, 1, 0, 1, []) else none) else (bif Nat.beq p 6 then some (37, 0, 0, 1, []) else none))) else (bif Nat.ble 4 p then (bif Nat.ble 5 p then (bif Nat.beq p 5 then some (20, 0, 0, 1, []) else none) else (bif Nat.beq p 4 then some (2, 0, 0, 1, []) else none)) else (bif Nat.ble 1 p then (bif Nat.beq p 1 then some (35, 0, 133, 3, []) else none) else (bif Nat.beq p 0 then some (1, 0, 0, 1, []) else none))))))))
def ca_X11_lay (y : Nat) (as : List sl_V) (m : sl_M) : Option (sl_PL × sl_M) := bif Nat.ble 97 y then (bif Nat.beq y 97 then F_X11_stuffed as m else none) else (bif Nat.beq y 95 then F_X11_checkOf as m else none)
def sp_X11_lay (p : Nat) : Bool := Nat.beq p 47
def mk_X11_lay (p : Nat) : List Bool := bif Nat.beq p 47 then [true, true, true, true, true, true, false] else []
def cl_X11_lay (p : Nat) : Option sl_C := bif Nat.ble 158 p then none else (bif Nat.ble 157 p then (bif Nat.beq p 157 then some (97, 4, 1, 0, 0, 0) else none) else (bif Nat.beq p 149 then some (95, 4, 1, 0, 0, 12) else none))
def R_X11_lay (ca : Nat → List sl_V → sl_M → Option (sl_PL × sl_M)) : Nat → sl_S → sl_M → Option (sl_PL × sl_M) := sl_B tb_X11_lay fl_X11 pf_X11 cl_X11_lay nw_X11 sl_rd sl_wr sl_al sl_ln 0 (fun _ => 0) ca sp_X11_lay mk_X11_lay
def F_X11_lay (as : List sl_V) (m : sl_M) : Option (sl_PL × sl_M) := R_X11_lay ca_X11_lay 100000 (0, sl_lo 7 as, []) m
def f_X11_lay (a0 : Int32) (a1 : Int32) (a2 : Int32) (m : sl_M) : Option (sl_PL × sl_M) := F_X11_lay [.inr (.inl (some (11, 0))), .inl a0, .inl a1, .inl a2] m
def r_X11_lay_0 (ca : Nat → List sl_V → sl_M → Option (sl_PL × sl_M)) (n : Nat) (a0 : Int32) (a1 : Int32) (a2 : Int32) (m : sl_M) : Option (sl_PL × sl_M) := R_X11_lay ca n (0, sl_lo 7 [.inr (.inl (some (11, 0))), .inl a0, .inl a1, .inl a2], []) m
def r_X11_lay_47 (ca : Nat → List sl_V → sl_M → Option (sl_PL × sl_M)) (n : Nat) (v1 : Int32) (v2 : Int32) (v3 : Int32) (v4 : Int32) (v5 : Int32) (m : sl_M) : Option (sl_PL × sl_M) := R_X11_lay ca n (47, [some (.inr (.inl (some (11, 0)))), some (.inl v1), some (.inl v2), some (.inl v3), some (.inl v4), some (.inl v5), none], []) m
def b_X11_lay_47 (n : Nat) (v1 : Int32) (v2 : Int32) (v3 : Int32) (v4 : Int32) (v5 : Int32) (m : sl_M) : Option (sl_PL × sl_M) := r_X11_lay_47 ca_X11_lay n v1 v2 v3 v4 v5 m
set_option maxRecDepth 100000 in
theorem g_X11_lay_0 (ca : Nat → List sl_V → sl_M → Option (sl_PL × sl_M)) (n : Nat) (a0 : Int32) (a1 : Int32) (a2 : Int32) (m : sl_M) : r_X11_lay_0 ca (n + 1) a0 a1 a2 m =
  if 0 ≤ a0 ∧ a0.toNatClampNeg < 2 then
  if (m.1 63 0 a0.toNatClampNeg) = (40 : Int32) then
    some ((0, 0, 0), (sl_up (sl_up m 68 0 0 ((m.1 68 0 0) + (1 : Int32))) 68 0 2 ((m.1 68 0 2) + (1 : Int32))))
  else
    (ca 95 [.inr (.inl (some (11, 0))), .inr (.inl (some (30, 8))), .inl (0 : Int32), .inl a1] (sl_up m 68 0 0 ((m.1 68 0 0) + (1 : Int32)))).bind (fun q1 =>
    r_X11_lay_47 ca n a0 a1 a2 q1.1.1 (0 : Int32) q1.2)
  else none := by rfl
set_option maxRecDepth 100000 in
theorem g_X11_lay_47 (ca : Nat → List sl_V → sl_M → Option (sl_PL × sl_M)) (n : Nat) (v1 : Int32) (v2 : Int32) (v3 : Int32) (v4 : Int32) (v5 : Int32) (m : sl_M) : r_X11_lay_47 ca (n + 1) v1 v2 v3 v4 v5 m =
  if (4 : Int32) ≤ v5 then
    if 0 ≤ v1 ∧ v1.toNatClampNeg < 2 then
    if 0 ≤ v1 ∧ v1.toNatClampNeg < 2 then
    if 0 ≤ v1 ∧ v1.toNatClampNeg < 2 then
    if 0 ≤ v1 ∧ v1.toNatClampNeg < 2 then
    (ca 97 [.inr (.inl (some (30, 8))), .inl (v2 + (4 : Int32)), .inr (.inl (some (30, 7))), .inl ((80 : Int32) * (((40 : Int32) * v1) + (((m.1 62 0 v1.toNatClampNeg) + (m.1 63 0 v1.toNatClampNeg)) - ((m.1 62 0 v1.toNatClampNeg) + (m.1 63 0 v1.toNatClampNeg)) / (40 : Int32) * (40 : Int32))))] (sl_up m 63 0 v1.toNatClampNeg ((m.1 63 0 v1.toNatClampNeg) + (1 : Int32)))).bind (fun q1 =>
    if 0 ≤ (((80 : Int32) * (((40 : Int32) * v1) + (((m.1 62 0 v1.toNatClampNeg) + (m.1 63 0 v1.toNatClampNeg)) - ((m.1 62 0 v1.toNatClampNeg) + (m.1 63 0 v1.toNatClampNeg)) / (40 : Int32) * (40 : Int32)))) + q1.1.1) ∧ (((80 : Int32) * (((40 : Int32) * v1) + (((m.1 62 0 v1.toNatClampNeg) + (m.1 63 0 v1.toNatClampNeg)) - ((m.1 62 0 v1.toNatClampNeg) + (m.1 63 0 v1.toNatClampNeg)) / (40 : Int32) * (40 : Int32)))) + q1.1.1).toNatClampNeg < 6400 then
    if 0 ≤ (((40 : Int32) * v1) + (((m.1 62 0 v1.toNatClampNeg) + (m.1 63 0 v1.toNatClampNeg)) - ((m.1 62 0 v1.toNatClampNeg) + (m.1 63 0 v1.toNatClampNeg)) / (40 : Int32) * (40 : Int32))) ∧ (((40 : Int32) * v1) + (((m.1 62 0 v1.toNatClampNeg) + (m.1 63 0 v1.toNatClampNeg)) - ((m.1 62 0 v1.toNatClampNeg) + (m.1 63 0 v1.toNatClampNeg)) / (40 : Int32) * (40 : Int32))).toNatClampNeg < 80 then
    if 0 ≤ (((40 : Int32) * v1) + (((m.1 62 0 v1.toNatClampNeg) + (m.1 63 0 v1.toNatClampNeg)) - ((m.1 62 0 v1.toNatClampNeg) + (m.1 63 0 v1.toNatClampNeg)) / (40 : Int32) * (40 : Int32))) ∧ (((40 : Int32) * v1) + (((m.1 62 0 v1.toNatClampNeg) + (m.1 63 0 v1.toNatClampNeg)) - ((m.1 62 0 v1.toNatClampNeg) + (m.1 63 0 v1.toNatClampNeg)) / (40 : Int32) * (40 : Int32))).toNatClampNeg < 80 then
    if 0 ≤ (((40 : Int32) * v1) + (((m.1 62 0 v1.toNatClampNeg) + (m.1 63 0 v1.toNatClampNeg)) - ((m.1 62 0 v1.toNatClampNeg) + (m.1 63 0 v1.toNatClampNeg)) / (40 : Int32) * (40 : Int32))) ∧ (((40 : Int32) * v1) + (((m.1 62 0 v1.toNatClampNeg) + (m.1 63 0 v1.toNatClampNeg)) - ((m.1 62 0 v1.toNatClampNeg) + (m.1 63 0 v1.toNatClampNeg)) / (40 : Int32) * (40 : Int32))).toNatClampNeg < 80 then
    if 0 ≤ (((40 : Int32) * v1) + (((m.1 62 0 v1.toNatClampNeg) + (m.1 63 0 v1.toNatClampNeg)) - ((m.1 62 0 v1.toNatClampNeg) + (m.1 63 0 v1.toNatClampNeg)) / (40 : Int32) * (40 : Int32))) ∧ (((40 : Int32) * v1) + (((m.1 62 0 v1.toNatClampNeg) + (m.1 63 0 v1.toNatClampNeg)) - ((m.1 62 0 v1.toNatClampNeg) + (m.1 63 0 v1.toNatClampNeg)) / (40 : Int32) * (40 : Int32))).toNatClampNeg < 80 then
    if 0 ≤ (((40 : Int32) * v1) + (((m.1 62 0 v1.toNatClampNeg) + (m.1 63 0 v1.toNatClampNeg)) - ((m.1 62 0 v1.toNatClampNeg) + (m.1 63 0 v1.toNatClampNeg)) / (40 : Int32) * (40 : Int32))) ∧ (((40 : Int32) * v1) + (((m.1 62 0 v1.toNatClampNeg) + (m.1 63 0 v1.toNatClampNeg)) - ((m.1 62 0 v1.toNatClampNeg) + (m.1 63 0 v1.toNatClampNeg)) / (40 : Int32) * (40 : Int32))).toNatClampNeg < 80 then
    some ((0, 0, 0), (sl_up (sl_up (sl_up (sl_up (sl_up (sl_up q1.2 30 7 ((((80 : Int32) * (((40 : Int32) * v1) + (((m.1 62 0 v1.toNatClampNeg) + (m.1 63 0 v1.toNatClampNeg)) - ((m.1 62 0 v1.toNatClampNeg) + (m.1 63 0 v1.toNatClampNeg)) / (40 : Int32) * (40 : Int32)))) + q1.1.1).toNatClampNeg) (0 : Int32)) 64 0 ((((40 : Int32) * v1) + (((m.1 62 0 v1.toNatClampNeg) + (m.1 63 0 v1.toNatClampNeg)) - ((m.1 62 0 v1.toNatClampNeg) + (m.1 63 0 v1.toNatClampNeg)) / (40 : Int32) * (40 : Int32))).toNatClampNeg) (q1.1.1 + (1 : Int32))) 65 0 ((((40 : Int32) * v1) + (((m.1 62 0 v1.toNatClampNeg) + (m.1 63 0 v1.toNatClampNeg)) - ((m.1 62 0 v1.toNatClampNeg) + (m.1 63 0 v1.toNatClampNeg)) / (40 : Int32) * (40 : Int32))).toNatClampNeg) (((sl_sx (q1.2.1 30 8 0)) &&& (255 : Int32)) >>> ((6 : Int32) &&& 31))) 66 0 ((((40 : Int32) * v1) + (((m.1 62 0 v1.toNatClampNeg) + (m.1 63 0 v1.toNatClampNeg)) - ((m.1 62 0 v1.toNatClampNeg) + (m.1 63 0 v1.toNatClampNeg)) / (40 : Int32) * (40 : Int32))).toNatClampNeg) ((sl_sx (q1.2.1 30 8 0)) &&& (63 : Int32))) 67 0 ((((40 : Int32) * v1) + (((m.1 62 0 v1.toNatClampNeg) + (m.1 63 0 v1.toNatClampNeg)) - ((m.1 62 0 v1.toNatClampNeg) + (m.1 63 0 v1.toNatClampNeg)) / (40 : Int32) * (40 : Int32))).toNatClampNeg) (v2 - (1 : Int32))) 73 0 ((((40 : Int32) * v1) + (((m.1 62 0 v1.toNatClampNeg) + (m.1 63 0 v1.toNatClampNeg)) - ((m.1 62 0 v1.toNatClampNeg) + (m.1 63 0 v1.toNatClampNeg)) / (40 : Int32) * (40 : Int32))).toNatClampNeg) v3))
    else none
    else none
    else none
    else none
    else none
    else none)
    else none
    else none
    else none
    else none
  else
    if 0 ≤ (v2 + v5) ∧ (v2 + v5).toNatClampNeg < 200 then
    r_X11_lay_47 ca n v1 v2 v3 v4 (v5 + (1 : Int32)) (sl_up m 30 8 ((v2 + v5).toNatClampNeg) (sl_sx (v4 >>> (((8 : Int32) * v5) &&& 31))))
    else none := by rfl
theorem cq_X11_lay_X11_checkOf (a0 : Nat) (a1 : Int32) (a2 : Int32) (m : sl_M) : ca_X11_lay 95 [.inr (.inl (some (11, 0))), .inr (.inl (some (30, a0))), .inl a1, .inl a2] m = f_X11_checkOf a0 a1 a2 m := by
  unfold ca_X11_lay f_X11_checkOf
  rw [show Nat.ble 97 95 = false from rfl, cond_false, show Nat.beq 95 95 = true from rfl, cond_true]
theorem cq_X11_lay_X11_stuffed (a0 : Nat) (a1 : Int32) (a2 : Nat) (a3 : Int32) (m : sl_M) : ca_X11_lay 97 [.inr (.inl (some (30, a0))), .inl a1, .inr (.inl (some (30, a2))), .inl a3] m = f_X11_stuffed a0 a1 a2 a3 m := by
  unfold ca_X11_lay f_X11_stuffed
  rw [show Nat.ble 97 97 = true from rfl, cond_true, show Nat.beq 97 97 = true from rfl, cond_true]
theorem bq_X11_lay_47 (n : Nat) (v1 : Int32) (v2 : Int32) (v3 : Int32) (v4 : Int32) (v5 : Int32) (m : sl_M) : r_X11_lay_47 ca_X11_lay n v1 v2 v3 v4 v5 m = b_X11_lay_47 n v1 v2 v3 v4 v5 m := rfl
theorem e_X11_lay (a0 : Int32) (a1 : Int32) (a2 : Int32) (m : sl_M) : f_X11_lay a0 a1 a2 m =
  if 0 ≤ a0 ∧ a0.toNatClampNeg < 2 then
  if (m.1 63 0 a0.toNatClampNeg) = (40 : Int32) then
    some ((0, 0, 0), (sl_up (sl_up m 68 0 0 ((m.1 68 0 0) + (1 : Int32))) 68 0 2 ((m.1 68 0 2) + (1 : Int32))))
  else
    (f_X11_checkOf 8 (0 : Int32) a1 (sl_up m 68 0 0 ((m.1 68 0 0) + (1 : Int32)))).bind (fun q1 =>
    b_X11_lay_47 99999 a0 a1 a2 q1.1.1 (0 : Int32) q1.2)
  else none := by
  have h := g_X11_lay_0 ca_X11_lay 99999 a0 a1 a2 m
  simp only [cq_X11_lay_X11_checkOf, cq_X11_lay_X11_stuffed, bq_X11_lay_47] at h
  exact h
theorem e_X11_lay_47 (n : Nat) (v1 : Int32) (v2 : Int32) (v3 : Int32) (v4 : Int32) (v5 : Int32) (m : sl_M) : b_X11_lay_47 (n + 1) v1 v2 v3 v4 v5 m =
  if (4 : Int32) ≤ v5 then
    if 0 ≤ v1 ∧ v1.toNatClampNeg < 2 then
    if 0 ≤ v1 ∧ v1.toNatClampNeg < 2 then
    if 0 ≤ v1 ∧ v1.toNatClampNeg < 2 then
    if 0 ≤ v1 ∧ v1.toNatClampNeg < 2 then
    (f_X11_stuffed 8 (v2 + (4 : Int32)) 7 ((80 : Int32) * (((40 : Int32) * v1) + (((m.1 62 0 v1.toNatClampNeg) + (m.1 63 0 v1.toNatClampNeg)) - ((m.1 62 0 v1.toNatClampNeg) + (m.1 63 0 v1.toNatClampNeg)) / (40 : Int32) * (40 : Int32)))) (sl_up m 63 0 v1.toNatClampNeg ((m.1 63 0 v1.toNatClampNeg) + (1 : Int32)))).bind (fun q1 =>
    if 0 ≤ (((80 : Int32) * (((40 : Int32) * v1) + (((m.1 62 0 v1.toNatClampNeg) + (m.1 63 0 v1.toNatClampNeg)) - ((m.1 62 0 v1.toNatClampNeg) + (m.1 63 0 v1.toNatClampNeg)) / (40 : Int32) * (40 : Int32)))) + q1.1.1) ∧ (((80 : Int32) * (((40 : Int32) * v1) + (((m.1 62 0 v1.toNatClampNeg) + (m.1 63 0 v1.toNatClampNeg)) - ((m.1 62 0 v1.toNatClampNeg) + (m.1 63 0 v1.toNatClampNeg)) / (40 : Int32) * (40 : Int32)))) + q1.1.1).toNatClampNeg < 6400 then
    if 0 ≤ (((40 : Int32) * v1) + (((m.1 62 0 v1.toNatClampNeg) + (m.1 63 0 v1.toNatClampNeg)) - ((m.1 62 0 v1.toNatClampNeg) + (m.1 63 0 v1.toNatClampNeg)) / (40 : Int32) * (40 : Int32))) ∧ (((40 : Int32) * v1) + (((m.1 62 0 v1.toNatClampNeg) + (m.1 63 0 v1.toNatClampNeg)) - ((m.1 62 0 v1.toNatClampNeg) + (m.1 63 0 v1.toNatClampNeg)) / (40 : Int32) * (40 : Int32))).toNatClampNeg < 80 then
    if 0 ≤ (((40 : Int32) * v1) + (((m.1 62 0 v1.toNatClampNeg) + (m.1 63 0 v1.toNatClampNeg)) - ((m.1 62 0 v1.toNatClampNeg) + (m.1 63 0 v1.toNatClampNeg)) / (40 : Int32) * (40 : Int32))) ∧ (((40 : Int32) * v1) + (((m.1 62 0 v1.toNatClampNeg) + (m.1 63 0 v1.toNatClampNeg)) - ((m.1 62 0 v1.toNatClampNeg) + (m.1 63 0 v1.toNatClampNeg)) / (40 : Int32) * (40 : Int32))).toNatClampNeg < 80 then
    if 0 ≤ (((40 : Int32) * v1) + (((m.1 62 0 v1.toNatClampNeg) + (m.1 63 0 v1.toNatClampNeg)) - ((m.1 62 0 v1.toNatClampNeg) + (m.1 63 0 v1.toNatClampNeg)) / (40 : Int32) * (40 : Int32))) ∧ (((40 : Int32) * v1) + (((m.1 62 0 v1.toNatClampNeg) + (m.1 63 0 v1.toNatClampNeg)) - ((m.1 62 0 v1.toNatClampNeg) + (m.1 63 0 v1.toNatClampNeg)) / (40 : Int32) * (40 : Int32))).toNatClampNeg < 80 then
    if 0 ≤ (((40 : Int32) * v1) + (((m.1 62 0 v1.toNatClampNeg) + (m.1 63 0 v1.toNatClampNeg)) - ((m.1 62 0 v1.toNatClampNeg) + (m.1 63 0 v1.toNatClampNeg)) / (40 : Int32) * (40 : Int32))) ∧ (((40 : Int32) * v1) + (((m.1 62 0 v1.toNatClampNeg) + (m.1 63 0 v1.toNatClampNeg)) - ((m.1 62 0 v1.toNatClampNeg) + (m.1 63 0 v1.toNatClampNeg)) / (40 : Int32) * (40 : Int32))).toNatClampNeg < 80 then
    if 0 ≤ (((40 : Int32) * v1) + (((m.1 62 0 v1.toNatClampNeg) + (m.1 63 0 v1.toNatClampNeg)) - ((m.1 62 0 v1.toNatClampNeg) + (m.1 63 0 v1.toNatClampNeg)) / (40 : Int32) * (40 : Int32))) ∧ (((40 : Int32) * v1) + (((m.1 62 0 v1.toNatClampNeg) + (m.1 63 0 v1.toNatClampNeg)) - ((m.1 62 0 v1.toNatClampNeg) + (m.1 63 0 v1.toNatClampNeg)) / (40 : Int32) * (40 : Int32))).toNatClampNeg < 80 then
    some ((0, 0, 0), (sl_up (sl_up (sl_up (sl_up (sl_up (sl_up q1.2 30 7 ((((80 : Int32) * (((40 : Int32) * v1) + (((m.1 62 0 v1.toNatClampNeg) + (m.1 63 0 v1.toNatClampNeg)) - ((m.1 62 0 v1.toNatClampNeg) + (m.1 63 0 v1.toNatClampNeg)) / (40 : Int32) * (40 : Int32)))) + q1.1.1).toNatClampNeg) (0 : Int32)) 64 0 ((((40 : Int32) * v1) + (((m.1 62 0 v1.toNatClampNeg) + (m.1 63 0 v1.toNatClampNeg)) - ((m.1 62 0 v1.toNatClampNeg) + (m.1 63 0 v1.toNatClampNeg)) / (40 : Int32) * (40 : Int32))).toNatClampNeg) (q1.1.1 + (1 : Int32))) 65 0 ((((40 : Int32) * v1) + (((m.1 62 0 v1.toNatClampNeg) + (m.1 63 0 v1.toNatClampNeg)) - ((m.1 62 0 v1.toNatClampNeg) + (m.1 63 0 v1.toNatClampNeg)) / (40 : Int32) * (40 : Int32))).toNatClampNeg) (((sl_sx (q1.2.1 30 8 0)) &&& (255 : Int32)) >>> ((6 : Int32) &&& 31))) 66 0 ((((40 : Int32) * v1) + (((m.1 62 0 v1.toNatClampNeg) + (m.1 63 0 v1.toNatClampNeg)) - ((m.1 62 0 v1.toNatClampNeg) + (m.1 63 0 v1.toNatClampNeg)) / (40 : Int32) * (40 : Int32))).toNatClampNeg) ((sl_sx (q1.2.1 30 8 0)) &&& (63 : Int32))) 67 0 ((((40 : Int32) * v1) + (((m.1 62 0 v1.toNatClampNeg) + (m.1 63 0 v1.toNatClampNeg)) - ((m.1 62 0 v1.toNatClampNeg) + (m.1 63 0 v1.toNatClampNeg)) / (40 : Int32) * (40 : Int32))).toNatClampNeg) (v2 - (1 : Int32))) 73 0 ((((40 : Int32) * v1) + (((m.1 62 0 v1.toNatClampNeg) + (m.1 63 0 v1.toNatClampNeg)) - ((m.1 62 0 v1.toNatClampNeg) + (m.1 63 0 v1.toNatClampNeg)) / (40 : Int32) * (40 : Int32))).toNatClampNeg) v3))
    else none
    else none
    else none
    else none
    else none
    else none)
    else none
    else none
    else none
    else none
  else
    if 0 ≤ (v2 + v5) ∧ (v2 + v5).toNatClampNeg < 200 then
    b_X11_lay_47 n v1 v2 v3 v4 (v5 + (1 : Int32)) (sl_up m 30 8 ((v2 + v5).toNatClampNeg) (sl_sx (v4 >>> (((8 : Int32) * v5) &&& 31))))
    else none := by
  have h := g_X11_lay_47 ca_X11_lay n v1 v2 v3 v4 v5 m
  simp only [cq_X11_lay_X11_checkOf, cq_X11_lay_X11_stuffed, bq_X11_lay_47] at h
  exact h

def tb_X11_layPiece (p : Nat) : Option sl_E := bif Nat.ble 112 p then none else (bif Nat.ble 56 p then (bif Nat.ble 87 p then (bif Nat.ble 100 p then (bif Nat.ble 104 p then (bif Nat.ble 107 p then (bif Nat.ble 108 p then (bif Nat.ble 111 p then (bif Nat.beq p 111 then some (50, 0, 0, 1, []) else none) else (bif Nat.beq p 108 then some (46, 0, 169, 3, []) else none)) else (bif Nat.beq p 107 then some (0, 0, 3, 1, []) else none)) else (bif Nat.ble 106 p then (bif Nat.beq p 106 then some (6, 0, 0, 1, []) else none) else (bif Nat.beq p 104 then some (0, 0, 5, 2, []) else none))) else (bif Nat.ble 102 p then (bif Nat.ble 103 p then (bif Nat.beq p 103 then some (2, 1, 0, 1, []) else none) else (bif Nat.beq p 102 then some (0, 0, 1, 1, []) else none)) else (bif Nat.ble 101 p then (bif Nat.beq p 101 then some (1, 0, 0, 1, []) else none) else (bif Nat.beq p 100 then some (41, 0, 0, 1, []) else none)))) else (bif Nat.ble 95 p then (bif Nat.ble 97 p then (bif Nat.ble 98 p then (bif Nat.ble 99 p then (bif Nat.beq p 99 then some (6, 0, 0, 1, []) else none) else (bif Nat.beq p 98 then some (2, 1, 0, 1, []) else none)) else (bif Nat.beq p 97 then some (37, 0, 0, 1, []) else none)) else (bif Nat.ble 96 p then (bif Nat.beq p 96 then some (20, 0, 0, 1, []) else none) else (bif Nat.beq p 95 then some (2, 1, 0, 1, []) else none))) else (bif Nat.ble 91 p then (bif Nat.ble 92 p then (bif Nat.beq p 92 then some (35, 0, 133, 3, []) else none) else (bif Nat.beq p 91 then some (1, 0, 0, 1, []) else none)) else (bif Nat.ble 88 p then (bif Nat.beq p 88 then some (28, 0, 101, 3, []) else none) else (bif Nat.beq p 87 then some (0, 0, 3, 1, []) else none))))) else (bif Nat.ble 72 p then (bif Nat.ble 78 p then (bif Nat.ble 80 p then (bif Nat.ble 81 p then (bif Nat.ble 84 p then (bif Nat.beq p 84 then some (34, 0, 49, 3, []) else none) else (bif Nat.beq p 81 then some (5, 1, 6, 3, []) else none)) else (bif Nat.beq p 80 then some (42, 0, 0, 1, []) else none)) else (bif Nat.ble 79 p then (bif Nat.beq p 79 then some (38, 0, 0, 1, []) else none) else (bif Nat.beq p 78 then some (6, 0, 0, 1, []) else none))) else (bif Nat.ble 75 p then (bif Nat.ble 76 p then (bif Nat.beq p 76 then some (0, 0, 6, 2, []) else none) else (bif Nat.beq p 75 then some (6, 0, 0, 1, []) else none)) else (bif Nat.ble 73 p then (bif Nat.beq p 73 then some (0, 0, 4, 2, []) else none) else (bif Nat.beq p 72 then some (8, 0, 0, 1, []) else none)))) else (bif Nat.ble 63 p then (bif Nat.ble 65 p then (bif Nat.ble 68 p then (bif Nat.ble 71 p then (bif Nat.beq p 71 then some (0, 0, 1, 1, []) else none) else (bif Nat.beq p 68 then some (2, 3000, 0, 3, []) else none)) else (bif Nat.beq p 65 then some (35, 0, 54, 3, []) else none)) else (bif Nat.ble 64 p then (bif Nat.beq p 64 then some (1, 0, 0, 1, []) else none) else (bif Nat.beq p 63 then some (6, 0, 0, 1, []) else none))) else (bif Nat.ble 60 p then (bif Nat.ble 61 p then (bif Nat.beq p 61 then some (0, 0, 6, 2, []) else none) else (bif Nat.beq p 60 then some (2, 1, 0, 1, []) else none)) else (bif Nat.ble 57 p then (bif Nat.beq p 57 then some (35, 0, 136, 3, []) else none) else (bif Nat.beq p 56 then some (1, 0, 0, 1, []) else none)))))) else (bif Nat.ble 27 p then (bif Nat.ble 40 p then (bif Nat.ble 46 p then (bif Nat.ble 49 p then (bif Nat.ble 51 p then (bif Nat.ble 53 p then (bif Nat.beq p 53 then some (25, 0, 87, 3, []) else none) else (bif Nat.beq p 51 then some (0, 0, 5, 2, []) else none)) else (bif Nat.beq p 49 then some (0, 0, 6, 2, []) else none)) else (bif Nat.ble 47 p then (bif Nat.beq p 47 then some (3, 0, 6, 2, []) else none) else (bif Nat.beq p 46 then some (2, 0, 0, 1, []) else none))) else (bif Nat.ble 44 p then (bif Nat.ble 45 p then (bif Nat.beq p 45 then some (42, 0, 0, 1, []) else none) else (bif Nat.beq p 44 then some (17, 0, 0, 1, []) else none)) else (bif Nat.ble 43 p then (bif Nat.beq p 43 then some (10, 0, 0, 1, []) else none) else (bif Nat.beq p 40 then some (35, 0, 42, 3, []) else none)))) else (bif Nat.ble 33 p then (bif Nat.ble 37 p then (bif Nat.ble 38 p then (bif Nat.ble 39 p then (bif Nat.beq p 39 then some (1, 0, 0, 1, []) else none) else (bif Nat.beq p 38 then some (0, 0, 2, 1, []) else none)) else (bif Nat.beq p 37 then some (2, 0, 0, 1, []) else none)) else (bif Nat.ble 34 p then (bif Nat.beq p 34 then some (35, 0, 136, 3, []) else none) else (bif Nat.beq p 33 then some (1, 0, 0, 1, []) else none))) else (bif Nat.ble 30 p then (bif Nat.ble 31 p then (bif Nat.beq p 31 then some (3, 0, 5, 2, []) else none) else (bif Nat.beq p 30 then some (7, 0, 0, 1, []) else none)) else (bif Nat.ble 28 p then (bif Nat.beq p 28 then some (0, 0, 4, 2, []) else none) else (bif Nat.beq p 27 then some (37, 0, 0, 1, []) else none))))) else (bif Nat.ble 14 p then (bif Nat.ble 22 p then (bif Nat.ble 24 p then (bif Nat.ble 25 p then (bif Nat.ble 26 p then (bif Nat.beq p 26 then some (6, 0, 0, 1, []) else none) else (bif Nat.beq p 25 then some (2, 1, 0, 1, []) else none)) else (bif Nat.beq p 24 then some (6, 0, 0, 1, []) else none)) else (bif Nat.ble 23 p then (bif Nat.beq p 23 then some (0, 0, 2, 1, []) else none) else (bif Nat.beq p 22 then some (8, 0, 0, 1, []) else none))) else (bif Nat.ble 18 p then (bif Nat.ble 21 p then (bif Nat.beq p 21 then some (0, 0, 1, 1, []) else none) else (bif Nat.beq p 18 then some (2, 3002, 0, 3, []) else none)) else (bif Nat.ble 15 p then (bif Nat.beq p 15 then some (35, 0, 81, 3, []) else none) else (bif Nat.beq p 14 then some (1, 0, 0, 1, []) else none)))) else (bif Nat.ble 8 p then (bif Nat.ble 10 p then (bif Nat.ble 11 p then (bif Nat.ble 12 p then (bif Nat.beq p 12 then some (3, 0, 4, 2, []) else none) else (bif Nat.beq p 11 then some (37, 0, 0, 1, []) else none)) else (bif Nat.beq p 10 then some (6, 0, 0, 1, []) else none)) else (bif Nat.ble 9 p then (bif Nat.beq p 9 then some (0, 0, 2, 1, []) else none) else (bif Nat.beq p 8 then some (8, 0, 0, 1, []) else none))) else (bif Nat.ble 4 p then (bif Nat.ble 7 p then (bif Nat.beq p 7 then some (0, 0, 1, 1, []) else none) else (bif Nat.beq p 4 then some (2, 3002, 0, 3, []) else none)) else (bif Nat.ble 1 p then (bif Nat.beq p 1 then some (35, 0, 81, 3, []) else none) else (bif Nat.beq p 0 then some (1, 0, 0, 1, []) else none)))))))
def ca_X11_layPiece (y : Nat) (as : List sl_V) (m : sl_M) : Option (sl_PL × sl_M) := bif Nat.beq y 107 then F_X11_lay as m else none
def sp_X11_layPiece (p : Nat) : Bool := Nat.beq p 49
def mk_X11_layPiece (p : Nat) : List Bool := bif Nat.beq p 49 then [true, true, false, true, true, true, true] else []
def cl_X11_layPiece (p : Nat) : Option sl_C := bif Nat.ble 170 p then none else (bif Nat.beq p 169 then some (107, 4, 0, 0, 0, 12) else none)
def R_X11_layPiece (ca : Nat → List sl_V → sl_M → Option (sl_PL × sl_M)) : Nat → sl_S → sl_M → Option (sl_PL × sl_M) := sl_B tb_X11_layPiece fl_X11 pf_X11 cl_X11_layPiece nw_X11 sl_rd sl_wr sl_al sl_ln 0 (fun _ => 0) ca sp_X11_layPiece mk_X11_layPiece
def F_X11_layPiece (as : List sl_V) (m : sl_M) : Option (sl_PL × sl_M) := R_X11_layPiece ca_X11_layPiece 100000 (0, sl_lo 7 as, []) m
def f_X11_layPiece (a0 : Int32) (a1 : Int32) (a2 : Int32) (m : sl_M) : Option (sl_PL × sl_M) := F_X11_layPiece [.inr (.inl (some (11, 0))), .inl a0, .inl a1, .inl a2] m
def r_X11_layPiece_0 (ca : Nat → List sl_V → sl_M → Option (sl_PL × sl_M)) (n : Nat) (a0 : Int32) (a1 : Int32) (a2 : Int32) (m : sl_M) : Option (sl_PL × sl_M) := R_X11_layPiece ca n (0, sl_lo 7 [.inr (.inl (some (11, 0))), .inl a0, .inl a1, .inl a2], []) m
def r_X11_layPiece_49 (ca : Nat → List sl_V → sl_M → Option (sl_PL × sl_M)) (n : Nat) (v1 : Int32) (v3 : Int32) (v4 : Int32) (v5 : Int32) (v6 : Int32) (m : sl_M) : Option (sl_PL × sl_M) := R_X11_layPiece ca n (49, [some (.inr (.inl (some (11, 0)))), some (.inl v1), none, some (.inl v3), some (.inl v4), some (.inl v5), some (.inl v6)], []) m
def b_X11_layPiece_49 (n : Nat) (v1 : Int32) (v3 : Int32) (v4 : Int32) (v5 : Int32) (v6 : Int32) (m : sl_M) : Option (sl_PL × sl_M) := r_X11_layPiece_49 ca_X11_layPiece n v1 v3 v4 v5 v6 m
set_option maxRecDepth 100000 in
theorem g_X11_layPiece_0 (ca : Nat → List sl_V → sl_M → Option (sl_PL × sl_M)) (n : Nat) (a0 : Int32) (a1 : Int32) (a2 : Int32) (m : sl_M) : r_X11_layPiece_0 ca (n + 1) a0 a1 a2 m =
  if 0 ≤ (((3002 : Int32) * a0) + a1) ∧ (((3002 : Int32) * a0) + a1).toNatClampNeg < 6004 then
  if 0 ≤ ((((3002 : Int32) * a0) + a1) + (1 : Int32)) ∧ ((((3002 : Int32) * a0) + a1) + (1 : Int32)).toNatClampNeg < 6004 then
  if (m.1 11 0 10) = 0 then none else
  r_X11_layPiece_49 ca n a0 a2 (m.1 58 0 ((((3002 : Int32) * a0) + a1).toNatClampNeg)) ((m.1 58 0 (((((3002 : Int32) * a0) + a1) + (1 : Int32)).toNatClampNeg)) - (m.1 58 0 ((((3002 : Int32) * a0) + a1).toNatClampNeg))) (0 : Int32) (sl_up m 30 8 0 (sl_sx (a1 - a1 / (m.1 11 0 10) * (m.1 11 0 10))))
  else none
  else none := by rfl
set_option maxRecDepth 100000 in
theorem g_X11_layPiece_49 (ca : Nat → List sl_V → sl_M → Option (sl_PL × sl_M)) (n : Nat) (v1 : Int32) (v3 : Int32) (v4 : Int32) (v5 : Int32) (v6 : Int32) (m : sl_M) : r_X11_layPiece_49 ca (n + 1) v1 v3 v4 v5 v6 m =
  if v5 ≤ v6 then
    if v3 = 0 then
      (ca 107 [.inr (.inl (some (11, 0))), .inl v1, .inl ((1 : Int32) + v5), .inl v3] m).bind (fun q1 =>
      some ((0, 0, 0), q1.2))
    else
      (ca 107 [.inr (.inl (some (11, 0))), .inl v1, .inl ((1 : Int32) + v5), .inl v3] (sl_up m 68 0 1 ((m.1 68 0 1) + (1 : Int32)))).bind (fun q2 =>
      some ((0, 0, 0), q2.2))
  else
    if 0 ≤ ((((3000 : Int32) * v1) + v4) + v6) ∧ ((((3000 : Int32) * v1) + v4) + v6).toNatClampNeg < 6000 then
    if 0 ≤ ((1 : Int32) + v6) ∧ ((1 : Int32) + v6).toNatClampNeg < 200 then
    r_X11_layPiece_49 ca n v1 v3 v4 v5 (v6 + (1 : Int32)) (sl_up m 30 8 (((1 : Int32) + v6).toNatClampNeg) (sl_sx (m.1 30 3 (((((3000 : Int32) * v1) + v4) + v6).toNatClampNeg))))
    else none
    else none := by rfl
theorem cq_X11_layPiece_X11_lay (a0 : Int32) (a1 : Int32) (a2 : Int32) (m : sl_M) : ca_X11_layPiece 107 [.inr (.inl (some (11, 0))), .inl a0, .inl a1, .inl a2] m = f_X11_lay a0 a1 a2 m := by
  unfold ca_X11_layPiece f_X11_lay
  rw [show Nat.beq 107 107 = true from rfl, cond_true]
theorem bq_X11_layPiece_49 (n : Nat) (v1 : Int32) (v3 : Int32) (v4 : Int32) (v5 : Int32) (v6 : Int32) (m : sl_M) : r_X11_layPiece_49 ca_X11_layPiece n v1 v3 v4 v5 v6 m = b_X11_layPiece_49 n v1 v3 v4 v5 v6 m := rfl
theorem e_X11_layPiece (a0 : Int32) (a1 : Int32) (a2 : Int32) (m : sl_M) : f_X11_layPiece a0 a1 a2 m =
  if 0 ≤ (((3002 : Int32) * a0) + a1) ∧ (((3002 : Int32) * a0) + a1).toNatClampNeg < 6004 then
  if 0 ≤ ((((3002 : Int32) * a0) + a1) + (1 : Int32)) ∧ ((((3002 : Int32) * a0) + a1) + (1 : Int32)).toNatClampNeg < 6004 then
  if (m.1 11 0 10) = 0 then none else
  b_X11_layPiece_49 99999 a0 a2 (m.1 58 0 ((((3002 : Int32) * a0) + a1).toNatClampNeg)) ((m.1 58 0 (((((3002 : Int32) * a0) + a1) + (1 : Int32)).toNatClampNeg)) - (m.1 58 0 ((((3002 : Int32) * a0) + a1).toNatClampNeg))) (0 : Int32) (sl_up m 30 8 0 (sl_sx (a1 - a1 / (m.1 11 0 10) * (m.1 11 0 10))))
  else none
  else none := by
  have h := g_X11_layPiece_0 ca_X11_layPiece 99999 a0 a1 a2 m
  simp only [cq_X11_layPiece_X11_lay, bq_X11_layPiece_49] at h
  exact h
theorem e_X11_layPiece_49 (n : Nat) (v1 : Int32) (v3 : Int32) (v4 : Int32) (v5 : Int32) (v6 : Int32) (m : sl_M) : b_X11_layPiece_49 (n + 1) v1 v3 v4 v5 v6 m =
  if v5 ≤ v6 then
    if v3 = 0 then
      (f_X11_lay v1 ((1 : Int32) + v5) v3 m).bind (fun q1 =>
      some ((0, 0, 0), q1.2))
    else
      (f_X11_lay v1 ((1 : Int32) + v5) v3 (sl_up m 68 0 1 ((m.1 68 0 1) + (1 : Int32)))).bind (fun q2 =>
      some ((0, 0, 0), q2.2))
  else
    if 0 ≤ ((((3000 : Int32) * v1) + v4) + v6) ∧ ((((3000 : Int32) * v1) + v4) + v6).toNatClampNeg < 6000 then
    if 0 ≤ ((1 : Int32) + v6) ∧ ((1 : Int32) + v6).toNatClampNeg < 200 then
    b_X11_layPiece_49 n v1 v3 v4 v5 (v6 + (1 : Int32)) (sl_up m 30 8 (((1 : Int32) + v6).toNatClampNeg) (sl_sx (m.1 30 3 (((((3000 : Int32) * v1) + v4) + v6).toNatClampNeg))))
    else none
    else none := by
  have h := g_X11_layPiece_49 ca_X11_layPiece n v1 v3 v4 v5 v6 m
  simp only [cq_X11_layPiece_X11_lay, bq_X11_layPiece_49] at h
  exact h

def tb_X11_knownBytes (p : Nat) : Option sl_E := bif Nat.ble 23 p then none else (bif Nat.ble 12 p then (bif Nat.ble 17 p then (bif Nat.ble 21 p then (bif Nat.ble 22 p then (bif Nat.beq p 22 then some (47, 0, 1, 1, []) else none) else (bif Nat.beq p 21 then some (2, 0, 0, 1, []) else none)) else (bif Nat.ble 18 p then (bif Nat.beq p 18 then some (34, 0, 22, 3, []) else none) else (bif Nat.beq p 17 then some (9, 0, 0, 1, []) else none))) else (bif Nat.ble 14 p then (bif Nat.ble 15 p then (bif Nat.beq p 15 then some (2, 8, 0, 2, []) else none) else (bif Nat.beq p 14 then some (6, 0, 0, 1, []) else none)) else (bif Nat.beq p 12 then some (2, 6, 0, 2, []) else none))) else (bif Nat.ble 5 p then (bif Nat.ble 8 p then (bif Nat.ble 9 p then (bif Nat.beq p 9 then some (35, 0, 45, 3, []) else none) else (bif Nat.beq p 8 then some (1, 0, 0, 1, []) else none)) else (bif Nat.beq p 5 then some (23, 0, 21, 3, []) else none)) else (bif Nat.ble 1 p then (bif Nat.ble 4 p then (bif Nat.beq p 4 then some (2, 2, 0, 1, []) else none) else (bif Nat.beq p 1 then some (35, 0, 39, 3, []) else none)) else (bif Nat.beq p 0 then some (1, 0, 0, 1, []) else none))))
def ca_X11_knownBytes (y : Nat) (as : List sl_V) (m : sl_M) : Option (sl_PL × sl_M) := none
def sp_X11_knownBytes (p : Nat) : Bool := false
def mk_X11_knownBytes (p : Nat) : List Bool := []
def cl_X11_knownBytes (p : Nat) : Option sl_C := none
def R_X11_knownBytes (ca : Nat → List sl_V → sl_M → Option (sl_PL × sl_M)) : Nat → sl_S → sl_M → Option (sl_PL × sl_M) := sl_B tb_X11_knownBytes fl_X11 pf_X11 cl_X11_knownBytes nw_X11 sl_rd sl_wr sl_al sl_ln 0 (fun _ => 0) ca sp_X11_knownBytes mk_X11_knownBytes
def F_X11_knownBytes (as : List sl_V) (m : sl_M) : Option (sl_PL × sl_M) := R_X11_knownBytes ca_X11_knownBytes 100000 (0, sl_lo 1 as, []) m
def f_X11_knownBytes  (m : sl_M) : Option (sl_PL × sl_M) := F_X11_knownBytes [.inr (.inl (some (11, 0)))] m
def r_X11_knownBytes_0 (ca : Nat → List sl_V → sl_M → Option (sl_PL × sl_M)) (n : Nat)  (m : sl_M) : Option (sl_PL × sl_M) := R_X11_knownBytes ca n (0, sl_lo 1 [.inr (.inl (some (11, 0)))], []) m
set_option maxRecDepth 100000 in
theorem g_X11_knownBytes_0 (ca : Nat → List sl_V → sl_M → Option (sl_PL × sl_M)) (n : Nat)  (m : sl_M) : r_X11_knownBytes_0 ca (n + 1) m =
  if (m.1 11 0 9) = (2 : Int32) then
    some (((((m.1 11 0 11) + (6 : Int32)) / (8 : Int32)), 0, 0), m)
  else
    some (((0 : Int32), 0, 0), m) := by rfl
theorem e_X11_knownBytes  (m : sl_M) : f_X11_knownBytes m =
  if (m.1 11 0 9) = (2 : Int32) then
    some (((((m.1 11 0 11) + (6 : Int32)) / (8 : Int32)), 0, 0), m)
  else
    some (((0 : Int32), 0, 0), m) := by
  have h := g_X11_knownBytes_0 ca_X11_knownBytes 99999 m
  exact h

def tb_X11_layKnown (p : Nat) : Option sl_E := bif Nat.ble 142 p then none else (bif Nat.ble 75 p then (bif Nat.ble 110 p then (bif Nat.ble 124 p then (bif Nat.ble 134 p then (bif Nat.ble 137 p then (bif Nat.ble 138 p then (bif Nat.ble 141 p then (bif Nat.beq p 141 then some (50, 0, 0, 1, []) else none) else (bif Nat.beq p 138 then some (46, 0, 169, 3, []) else none)) else (bif Nat.beq p 137 then some (2, 0, 0, 1, []) else none)) else (bif Nat.ble 135 p then (bif Nat.ble 136 p then (bif Nat.beq p 136 then some (6, 0, 0, 1, []) else none) else (bif Nat.beq p 135 then some (0, 0, 2, 1, []) else none)) else (bif Nat.beq p 134 then some (2, 1, 0, 1, []) else none))) else (bif Nat.ble 129 p then (bif Nat.ble 132 p then (bif Nat.ble 133 p then (bif Nat.beq p 133 then some (0, 0, 1, 1, []) else none) else (bif Nat.beq p 132 then some (1, 0, 0, 1, []) else none)) else (bif Nat.beq p 129 then some (34, 0, 50, 3, []) else none)) else (bif Nat.ble 125 p then (bif Nat.ble 126 p then (bif Nat.beq p 126 then some (5, 1, 3, 3, []) else none) else (bif Nat.beq p 125 then some (42, 0, 0, 1, []) else none)) else (bif Nat.beq p 124 then some (17, 0, 0, 1, []) else none)))) else (bif Nat.ble 117 p then (bif Nat.ble 121 p then (bif Nat.ble 122 p then (bif Nat.ble 123 p then (bif Nat.beq p 123 then some (12, 0, 0, 1, []) else none) else (bif Nat.beq p 122 then some (14, 0, 0, 1, []) else none)) else (bif Nat.beq p 121 then some (10, 0, 0, 1, []) else none)) else (bif Nat.ble 118 p then (bif Nat.ble 119 p then (bif Nat.beq p 119 then some (2, 8, 0, 2, []) else none) else (bif Nat.beq p 118 then some (0, 0, 3, 1, []) else none)) else (bif Nat.beq p 117 then some (2, 1, 0, 1, []) else none))) else (bif Nat.ble 114 p then (bif Nat.ble 115 p then (bif Nat.ble 116 p then (bif Nat.beq p 116 then some (38, 0, 0, 1, []) else none) else (bif Nat.beq p 115 then some (6, 0, 0, 1, []) else none)) else (bif Nat.beq p 114 then some (9, 0, 0, 1, []) else none)) else (bif Nat.ble 111 p then (bif Nat.ble 112 p then (bif Nat.beq p 112 then some (2, 8, 0, 2, []) else none) else (bif Nat.beq p 111 then some (0, 0, 3, 1, []) else none)) else (bif Nat.beq p 110 then some (2, 1, 0, 1, []) else none))))) else (bif Nat.ble 91 p then (bif Nat.ble 101 p then (bif Nat.ble 105 p then (bif Nat.ble 106 p then (bif Nat.ble 107 p then (bif Nat.beq p 107 then some (35, 0, 136, 3, []) else none) else (bif Nat.beq p 106 then some (1, 0, 0, 1, []) else none)) else (bif Nat.beq p 105 then some (6, 0, 0, 1, []) else none)) else (bif Nat.ble 102 p then (bif Nat.ble 104 p then (bif Nat.beq p 104 then some (9, 0, 0, 1, []) else none) else (bif Nat.beq p 102 then some (2, 8, 0, 2, []) else none)) else (bif Nat.beq p 101 then some (0, 0, 3, 1, []) else none))) else (bif Nat.ble 96 p then (bif Nat.ble 97 p then (bif Nat.ble 100 p then (bif Nat.beq p 100 then some (2, 1, 0, 1, []) else none) else (bif Nat.beq p 97 then some (35, 0, 136, 3, []) else none)) else (bif Nat.beq p 96 then some (1, 0, 0, 1, []) else none)) else (bif Nat.ble 92 p then (bif Nat.ble 93 p then (bif Nat.beq p 93 then some (28, 0, 126, 3, []) else none) else (bif Nat.beq p 92 then some (38, 0, 0, 1, []) else none)) else (bif Nat.beq p 91 then some (6, 0, 0, 1, []) else none)))) else (bif Nat.ble 83 p then (bif Nat.ble 86 p then (bif Nat.ble 87 p then (bif Nat.ble 90 p then (bif Nat.beq p 90 then some (10, 0, 0, 1, []) else none) else (bif Nat.beq p 87 then some (35, 0, 42, 3, []) else none)) else (bif Nat.beq p 86 then some (1, 0, 0, 1, []) else none)) else (bif Nat.ble 84 p then (bif Nat.ble 85 p then (bif Nat.beq p 85 then some (6, 0, 0, 1, []) else none) else (bif Nat.beq p 84 then some (2, 1, 0, 1, []) else none)) else (bif Nat.beq p 83 then some (6, 0, 0, 1, []) else none))) else (bif Nat.ble 80 p then (bif Nat.ble 81 p then (bif Nat.ble 82 p then (bif Nat.beq p 82 then some (0, 0, 3, 1, []) else none) else (bif Nat.beq p 81 then some (37, 0, 0, 1, []) else none)) else (bif Nat.beq p 80 then some (0, 0, 1, 1, []) else none)) else (bif Nat.ble 76 p then (bif Nat.ble 77 p then (bif Nat.beq p 77 then some (35, 0, 78, 3, []) else none) else (bif Nat.beq p 76 then some (1, 0, 0, 1, []) else none)) else (bif Nat.beq p 75 then some (8, 0, 0, 1, []) else none)))))) else (bif Nat.ble 34 p then (bif Nat.ble 52 p then (bif Nat.ble 64 p then (bif Nat.ble 69 p then (bif Nat.ble 72 p then (bif Nat.ble 74 p then (bif Nat.beq p 74 then some (0, 0, 1, 1, []) else none) else (bif Nat.beq p 72 then some (2, 64, 0, 2, []) else none)) else (bif Nat.beq p 69 then some (35, 0, 91, 3, []) else none)) else (bif Nat.ble 65 p then (bif Nat.ble 68 p then (bif Nat.beq p 68 then some (1, 0, 0, 1, []) else none) else (bif Nat.beq p 65 then some (23, 0, 132, 3, []) else none)) else (bif Nat.beq p 64 then some (2, 2, 0, 1, []) else none))) else (bif Nat.ble 57 p then (bif Nat.ble 60 p then (bif Nat.ble 61 p then (bif Nat.beq p 61 then some (35, 0, 39, 3, []) else none) else (bif Nat.beq p 60 then some (1, 0, 0, 1, []) else none)) else (bif Nat.beq p 57 then some (25, 0, 132, 3, []) else none)) else (bif Nat.ble 53 p then (bif Nat.ble 54 p then (bif Nat.beq p 54 then some (35, 0, 45, 3, []) else none) else (bif Nat.beq p 53 then some (1, 0, 0, 1, []) else none)) else (bif Nat.beq p 52 then some (6, 0, 0, 1, []) else none)))) else (bif Nat.ble 42 p then (bif Nat.ble 49 p then (bif Nat.ble 50 p then (bif Nat.ble 51 p then (bif Nat.beq p 51 then some (2, 1, 0, 1, []) else none) else (bif Nat.beq p 50 then some (0, 0, 3, 1, []) else none)) else (bif Nat.beq p 49 then some (3, 0, 3, 1, []) else none)) else (bif Nat.ble 45 p then (bif Nat.ble 48 p then (bif Nat.beq p 48 then some (2, 0, 0, 1, []) else none) else (bif Nat.beq p 45 then some (34, 0, 28, 3, []) else none)) else (bif Nat.beq p 42 then some (5, 1, 3, 3, []) else none))) else (bif Nat.ble 39 p then (bif Nat.ble 40 p then (bif Nat.ble 41 p then (bif Nat.beq p 41 then some (42, 0, 0, 1, []) else none) else (bif Nat.beq p 40 then some (2, 0, 0, 1, []) else none)) else (bif Nat.beq p 39 then some (6, 0, 0, 1, []) else none)) else (bif Nat.ble 37 p then (bif Nat.ble 38 p then (bif Nat.beq p 38 then some (0, 0, 3, 1, []) else none) else (bif Nat.beq p 37 then some (2, 1, 0, 1, []) else none)) else (bif Nat.beq p 34 then some (35, 0, 136, 3, []) else none))))) else (bif Nat.ble 18 p then (bif Nat.ble 26 p then (bif Nat.ble 29 p then (bif Nat.ble 30 p then (bif Nat.ble 33 p then (bif Nat.beq p 33 then some (1, 0, 0, 1, []) else none) else (bif Nat.beq p 30 then some (25, 0, 48, 3, []) else none)) else (bif Nat.beq p 29 then some (0, 0, 2, 1, []) else none)) else (bif Nat.ble 27 p then (bif Nat.ble 28 p then (bif Nat.beq p 28 then some (0, 0, 3, 1, []) else none) else (bif Nat.beq p 27 then some (3, 0, 3, 1, []) else none)) else (bif Nat.beq p 26 then some (2, 0, 0, 1, []) else none))) else (bif Nat.ble 23 p then (bif Nat.ble 24 p then (bif Nat.ble 25 p then (bif Nat.beq p 25 then some (42, 0, 0, 1, []) else none) else (bif Nat.beq p 24 then some (17, 0, 0, 1, []) else none)) else (bif Nat.beq p 23 then some (6, 0, 0, 1, []) else none)) else (bif Nat.ble 19 p then (bif Nat.ble 22 p then (bif Nat.beq p 22 then some (10, 0, 0, 1, []) else none) else (bif Nat.beq p 19 then some (35, 0, 42, 3, []) else none)) else (bif Nat.beq p 18 then some (1, 0, 0, 1, []) else none)))) else (bif Nat.ble 9 p then (bif Nat.ble 13 p then (bif Nat.ble 16 p then (bif Nat.ble 17 p then (bif Nat.beq p 17 then some (37, 0, 0, 1, []) else none) else (bif Nat.beq p 16 then some (0, 0, 1, 1, []) else none)) else (bif Nat.beq p 13 then some (35, 0, 78, 3, []) else none)) else (bif Nat.ble 10 p then (bif Nat.ble 12 p then (bif Nat.beq p 12 then some (1, 0, 0, 1, []) else none) else (bif Nat.beq p 10 then some (2, 64, 0, 2, []) else none)) else (bif Nat.beq p 9 then some (2, 0, 0, 1, []) else none))) else (bif Nat.ble 4 p then (bif Nat.ble 5 p then (bif Nat.ble 6 p then (bif Nat.beq p 6 then some (35, 0, 136, 3, []) else none) else (bif Nat.beq p 5 then some (1, 0, 0, 1, []) else none)) else (bif Nat.beq p 4 then some (3, 0, 2, 1, []) else none)) else (bif Nat.ble 1 p then (bif Nat.beq p 1 then some (46, 0, 173, 3, []) else none) else (bif Nat.beq p 0 then some (1, 0, 0, 1, []) else none)))))))
def ca_X11_layKnown (y : Nat) (as : List sl_V) (m : sl_M) : Option (sl_PL × sl_M) := bif Nat.ble 109 y then (bif Nat.beq y 109 then F_X11_knownBytes as m else none) else (bif Nat.beq y 107 then F_X11_lay as m else none)
def sp_X11_layKnown (p : Nat) : Bool := Nat.beq p 28 || Nat.beq p 50
def mk_X11_layKnown (p : Nat) : List Bool := bif Nat.ble 50 p then (bif Nat.beq p 50 then [true, true, true, true] else []) else (bif Nat.beq p 28 then [true, true, true, true] else [])
def cl_X11_layKnown (p : Nat) : Option sl_C := bif Nat.ble 174 p then none else (bif Nat.ble 173 p then (bif Nat.beq p 173 then some (109, 1, 1, 0, 0, 12) else none) else (bif Nat.beq p 169 then some (107, 4, 0, 0, 0, 12) else none))
def R_X11_layKnown (ca : Nat → List sl_V → sl_M → Option (sl_PL × sl_M)) : Nat → sl_S → sl_M → Option (sl_PL × sl_M) := sl_B tb_X11_layKnown fl_X11 pf_X11 cl_X11_layKnown nw_X11 sl_rd sl_wr sl_al sl_ln 0 (fun _ => 0) ca sp_X11_layKnown mk_X11_layKnown
def F_X11_layKnown (as : List sl_V) (m : sl_M) : Option (sl_PL × sl_M) := R_X11_layKnown ca_X11_layKnown 100000 (0, sl_lo 4 as, []) m
def f_X11_layKnown (a0 : Int32) (m : sl_M) : Option (sl_PL × sl_M) := F_X11_layKnown [.inr (.inl (some (11, 0))), .inl a0] m
def r_X11_layKnown_0 (ca : Nat → List sl_V → sl_M → Option (sl_PL × sl_M)) (n : Nat) (a0 : Int32) (m : sl_M) : Option (sl_PL × sl_M) := R_X11_layKnown ca n (0, sl_lo 4 [.inr (.inl (some (11, 0))), .inl a0], []) m
def r_X11_layKnown_28 (ca : Nat → List sl_V → sl_M → Option (sl_PL × sl_M)) (n : Nat) (v1 : Int32) (v2 : Int32) (v3 : Int32) (m : sl_M) : Option (sl_PL × sl_M) := R_X11_layKnown ca n (28, [some (.inr (.inl (some (11, 0)))), some (.inl v1), some (.inl v2), some (.inl v3)], []) m
def b_X11_layKnown_28 (n : Nat) (v1 : Int32) (v2 : Int32) (v3 : Int32) (m : sl_M) : Option (sl_PL × sl_M) := r_X11_layKnown_28 ca_X11_layKnown n v1 v2 v3 m
def r_X11_layKnown_50 (ca : Nat → List sl_V → sl_M → Option (sl_PL × sl_M)) (n : Nat) (v1 : Int32) (v2 : Int32) (v3 : Int32) (m : sl_M) : Option (sl_PL × sl_M) := R_X11_layKnown ca n (50, [some (.inr (.inl (some (11, 0)))), some (.inl v1), some (.inl v2), some (.inl v3)], []) m
def b_X11_layKnown_50 (n : Nat) (v1 : Int32) (v2 : Int32) (v3 : Int32) (m : sl_M) : Option (sl_PL × sl_M) := r_X11_layKnown_50 ca_X11_layKnown n v1 v2 v3 m
set_option maxRecDepth 100000 in
theorem g_X11_layKnown_0 (ca : Nat → List sl_V → sl_M → Option (sl_PL × sl_M)) (n : Nat) (a0 : Int32) (m : sl_M) : r_X11_layKnown_0 ca (n + 1) a0 m =
  (ca 109 [.inr (.inl (some (11, 0)))] m).bind (fun q1 =>
  if 0 ≤ a0 ∧ a0.toNatClampNeg < 2 then
  if (q1.2.1 11 0 10) = 0 then none else
  r_X11_layKnown_28 ca n a0 q1.1.1 (0 : Int32) (sl_up q1.2 30 8 0 (sl_sx ((64 : Int32) + ((q1.2.1 57 0 a0.toNatClampNeg) - (q1.2.1 57 0 a0.toNatClampNeg) / (q1.2.1 11 0 10) * (q1.2.1 11 0 10)))))
  else none) := by rfl
set_option maxRecDepth 100000 in
theorem g_X11_layKnown_28 (ca : Nat → List sl_V → sl_M → Option (sl_PL × sl_M)) (n : Nat) (v1 : Int32) (v2 : Int32) (v3 : Int32) (m : sl_M) : r_X11_layKnown_28 ca (n + 1) v1 v2 v3 m =
  if v2 ≤ v3 then
    r_X11_layKnown_50 ca n v1 v2 (0 : Int32) m
  else
    if 0 ≤ ((1 : Int32) + v3) ∧ ((1 : Int32) + v3).toNatClampNeg < 200 then
    r_X11_layKnown_28 ca n v1 v2 (v3 + (1 : Int32)) (sl_up m 30 8 (((1 : Int32) + v3).toNatClampNeg) (0 : Int32))
    else none := by rfl
set_option maxRecDepth 100000 in
theorem g_X11_layKnown_50 (ca : Nat → List sl_V → sl_M → Option (sl_PL × sl_M)) (n : Nat) (v1 : Int32) (v2 : Int32) (v3 : Int32) (m : sl_M) : r_X11_layKnown_50 ca (n + 1) v1 v2 v3 m =
  if (m.1 11 0 11) ≤ (v3 + (1 : Int32)) then
    (ca 107 [.inr (.inl (some (11, 0))), .inl v1, .inl ((1 : Int32) + v2), .inl (0 : Int32)] m).bind (fun q1 =>
    some ((0, 0, 0), q1.2))
  else
    if (m.1 11 0 9) = (2 : Int32) then
      if 0 ≤ v1 ∧ v1.toNatClampNeg < 2 then
      if (m.1 11 0 10) = 0 then none else
      if 0 ≤ (((64 : Int32) * v1) + ((((m.1 57 0 v1.toNatClampNeg) + v3) + (1 : Int32)) - (((m.1 57 0 v1.toNatClampNeg) + v3) + (1 : Int32)) / (m.1 11 0 10) * (m.1 11 0 10))) ∧ (((64 : Int32) * v1) + ((((m.1 57 0 v1.toNatClampNeg) + v3) + (1 : Int32)) - (((m.1 57 0 v1.toNatClampNeg) + v3) + (1 : Int32)) / (m.1 11 0 10) * (m.1 11 0 10))).toNatClampNeg < 128 then
        if ((m.1 71 0 ((((64 : Int32) * v1) + ((((m.1 57 0 v1.toNatClampNeg) + v3) + (1 : Int32)) - (((m.1 57 0 v1.toNatClampNeg) + v3) + (1 : Int32)) / (m.1 11 0 10) * (m.1 11 0 10))).toNatClampNeg)) &&& 1) = 0 then
          r_X11_layKnown_50 ca n v1 v2 (v3 + (1 : Int32)) m
        else
          if 0 ≤ ((1 : Int32) + (v3 / (8 : Int32))) ∧ ((1 : Int32) + (v3 / (8 : Int32))).toNatClampNeg < 200 then
          if 0 ≤ ((1 : Int32) + (v3 / (8 : Int32))) ∧ ((1 : Int32) + (v3 / (8 : Int32))).toNatClampNeg < 200 then
          r_X11_layKnown_50 ca n v1 v2 (v3 + (1 : Int32)) (sl_up m 30 8 (((1 : Int32) + (v3 / (8 : Int32))).toNatClampNeg) (sl_sx ((sl_sx (m.1 30 8 (((1 : Int32) + (v3 / (8 : Int32))).toNatClampNeg))) ||| ((1 : Int32) <<< ((v3 - v3 / (8 : Int32) * (8 : Int32)) &&& 31)))))
          else none
          else none
        else none
      else none
    else
      (ca 107 [.inr (.inl (some (11, 0))), .inl v1, .inl ((1 : Int32) + v2), .inl (0 : Int32)] m).bind (fun q2 =>
      some ((0, 0, 0), q2.2)) := by rfl
theorem cq_X11_layKnown_X11_lay (a0 : Int32) (a1 : Int32) (a2 : Int32) (m : sl_M) : ca_X11_layKnown 107 [.inr (.inl (some (11, 0))), .inl a0, .inl a1, .inl a2] m = f_X11_lay a0 a1 a2 m := by
  unfold ca_X11_layKnown f_X11_lay
  rw [show Nat.ble 109 107 = false from rfl, cond_false, show Nat.beq 107 107 = true from rfl, cond_true]
theorem cq_X11_layKnown_X11_knownBytes  (m : sl_M) : ca_X11_layKnown 109 [.inr (.inl (some (11, 0)))] m = f_X11_knownBytes m := by
  unfold ca_X11_layKnown f_X11_knownBytes
  rw [show Nat.ble 109 109 = true from rfl, cond_true, show Nat.beq 109 109 = true from rfl, cond_true]
theorem bq_X11_layKnown_28 (n : Nat) (v1 : Int32) (v2 : Int32) (v3 : Int32) (m : sl_M) : r_X11_layKnown_28 ca_X11_layKnown n v1 v2 v3 m = b_X11_layKnown_28 n v1 v2 v3 m := rfl
theorem bq_X11_layKnown_50 (n : Nat) (v1 : Int32) (v2 : Int32) (v3 : Int32) (m : sl_M) : r_X11_layKnown_50 ca_X11_layKnown n v1 v2 v3 m = b_X11_layKnown_50 n v1 v2 v3 m := rfl
theorem e_X11_layKnown (a0 : Int32) (m : sl_M) : f_X11_layKnown a0 m =
  (f_X11_knownBytes m).bind (fun q1 =>
  if 0 ≤ a0 ∧ a0.toNatClampNeg < 2 then
  if (q1.2.1 11 0 10) = 0 then none else
  b_X11_layKnown_28 99999 a0 q1.1.1 (0 : Int32) (sl_up q1.2 30 8 0 (sl_sx ((64 : Int32) + ((q1.2.1 57 0 a0.toNatClampNeg) - (q1.2.1 57 0 a0.toNatClampNeg) / (q1.2.1 11 0 10) * (q1.2.1 11 0 10)))))
  else none) := by
  have h := g_X11_layKnown_0 ca_X11_layKnown 99999 a0 m
  simp only [cq_X11_layKnown_X11_lay, cq_X11_layKnown_X11_knownBytes, bq_X11_layKnown_28, bq_X11_layKnown_50] at h
  exact h
theorem e_X11_layKnown_28 (n : Nat) (v1 : Int32) (v2 : Int32) (v3 : Int32) (m : sl_M) : b_X11_layKnown_28 (n + 1) v1 v2 v3 m =
  if v2 ≤ v3 then
    b_X11_layKnown_50 n v1 v2 (0 : Int32) m
  else
    if 0 ≤ ((1 : Int32) + v3) ∧ ((1 : Int32) + v3).toNatClampNeg < 200 then
    b_X11_layKnown_28 n v1 v2 (v3 + (1 : Int32)) (sl_up m 30 8 (((1 : Int32) + v3).toNatClampNeg) (0 : Int32))
    else none := by
  have h := g_X11_layKnown_28 ca_X11_layKnown n v1 v2 v3 m
  simp only [cq_X11_layKnown_X11_lay, cq_X11_layKnown_X11_knownBytes, bq_X11_layKnown_28, bq_X11_layKnown_50] at h
  exact h
theorem e_X11_layKnown_50 (n : Nat) (v1 : Int32) (v2 : Int32) (v3 : Int32) (m : sl_M) : b_X11_layKnown_50 (n + 1) v1 v2 v3 m =
  if (m.1 11 0 11) ≤ (v3 + (1 : Int32)) then
    (f_X11_lay v1 ((1 : Int32) + v2) (0 : Int32) m).bind (fun q1 =>
    some ((0, 0, 0), q1.2))
  else
    if (m.1 11 0 9) = (2 : Int32) then
      if 0 ≤ v1 ∧ v1.toNatClampNeg < 2 then
      if (m.1 11 0 10) = 0 then none else
      if 0 ≤ (((64 : Int32) * v1) + ((((m.1 57 0 v1.toNatClampNeg) + v3) + (1 : Int32)) - (((m.1 57 0 v1.toNatClampNeg) + v3) + (1 : Int32)) / (m.1 11 0 10) * (m.1 11 0 10))) ∧ (((64 : Int32) * v1) + ((((m.1 57 0 v1.toNatClampNeg) + v3) + (1 : Int32)) - (((m.1 57 0 v1.toNatClampNeg) + v3) + (1 : Int32)) / (m.1 11 0 10) * (m.1 11 0 10))).toNatClampNeg < 128 then
        if ((m.1 71 0 ((((64 : Int32) * v1) + ((((m.1 57 0 v1.toNatClampNeg) + v3) + (1 : Int32)) - (((m.1 57 0 v1.toNatClampNeg) + v3) + (1 : Int32)) / (m.1 11 0 10) * (m.1 11 0 10))).toNatClampNeg)) &&& 1) = 0 then
          b_X11_layKnown_50 n v1 v2 (v3 + (1 : Int32)) m
        else
          if 0 ≤ ((1 : Int32) + (v3 / (8 : Int32))) ∧ ((1 : Int32) + (v3 / (8 : Int32))).toNatClampNeg < 200 then
          if 0 ≤ ((1 : Int32) + (v3 / (8 : Int32))) ∧ ((1 : Int32) + (v3 / (8 : Int32))).toNatClampNeg < 200 then
          b_X11_layKnown_50 n v1 v2 (v3 + (1 : Int32)) (sl_up m 30 8 (((1 : Int32) + (v3 / (8 : Int32))).toNatClampNeg) (sl_sx ((sl_sx (m.1 30 8 (((1 : Int32) + (v3 / (8 : Int32))).toNatClampNeg))) ||| ((1 : Int32) <<< ((v3 - v3 / (8 : Int32) * (8 : Int32)) &&& 31)))))
          else none
          else none
        else none
      else none
    else
      (f_X11_lay v1 ((1 : Int32) + v2) (0 : Int32) m).bind (fun q2 =>
      some ((0, 0, 0), q2.2)) := by
  have h := g_X11_layKnown_50 ca_X11_layKnown n v1 v2 v3 m
  simp only [cq_X11_layKnown_X11_lay, cq_X11_layKnown_X11_knownBytes, bq_X11_layKnown_28, bq_X11_layKnown_50] at h
  exact h

def tb_X11_tickOf (p : Nat) : Option sl_E := bif Nat.ble 351 p then none else (bif Nat.ble 180 p then (bif Nat.ble 264 p then (bif Nat.ble 309 p then (bif Nat.ble 331 p then (bif Nat.ble 340 p then (bif Nat.ble 343 p then (bif Nat.ble 347 p then (bif Nat.ble 350 p then (bif Nat.beq p 350 then some (50, 0, 0, 1, []) else none) else (bif Nat.beq p 347 then some (34, 0, 180, 3, []) else none)) else (bif Nat.ble 344 p then (bif Nat.beq p 344 then some (46, 0, 177, 3, []) else none) else (bif Nat.beq p 343 then some (2, 0, 0, 1, []) else none))) else (bif Nat.ble 341 p then (bif Nat.ble 342 p then (bif Nat.beq p 342 then some (0, 0, 2, 1, []) else none) else (bif Nat.beq p 341 then some (0, 0, 1, 1, []) else none)) else (bif Nat.beq p 340 then some (1, 0, 0, 1, []) else none))) else (bif Nat.ble 336 p then (bif Nat.ble 338 p then (bif Nat.ble 339 p then (bif Nat.beq p 339 then some (41, 0, 0, 1, []) else none) else (bif Nat.beq p 338 then some (6, 0, 0, 1, []) else none)) else (bif Nat.ble 337 p then (bif Nat.beq p 337 then some (2, 1, 0, 1, []) else none) else (bif Nat.beq p 336 then some (37, 0, 0, 1, []) else none))) else (bif Nat.ble 334 p then (bif Nat.ble 335 p then (bif Nat.beq p 335 then some (20, 0, 0, 1, []) else none) else (bif Nat.beq p 334 then some (0, 0, 1, 1, []) else none)) else (bif Nat.beq p 331 then some (35, 0, 75, 3, []) else none)))) else (bif Nat.ble 322 p then (bif Nat.ble 327 p then (bif Nat.ble 329 p then (bif Nat.ble 330 p then (bif Nat.beq p 330 then some (1, 0, 0, 1, []) else none) else (bif Nat.beq p 329 then some (41, 0, 0, 1, []) else none)) else (bif Nat.ble 328 p then (bif Nat.beq p 328 then some (37, 0, 0, 1, []) else none) else (bif Nat.beq p 327 then some (0, 0, 1, 1, []) else none))) else (bif Nat.ble 323 p then (bif Nat.ble 324 p then (bif Nat.beq p 324 then some (35, 0, 66, 3, []) else none) else (bif Nat.beq p 323 then some (1, 0, 0, 1, []) else none)) else (bif Nat.beq p 322 then some (0, 0, 1, 1, []) else none))) else (bif Nat.ble 314 p then (bif Nat.ble 318 p then (bif Nat.ble 319 p then (bif Nat.beq p 319 then some (35, 0, 69, 3, []) else none) else (bif Nat.beq p 318 then some (1, 0, 0, 1, []) else none)) else (bif Nat.ble 315 p then (bif Nat.beq p 315 then some (23, 0, 330, 3, []) else none) else (bif Nat.beq p 314 then some (37, 0, 0, 1, []) else none))) else (bif Nat.ble 310 p then (bif Nat.ble 313 p then (bif Nat.beq p 313 then some (0, 0, 1, 1, []) else none) else (bif Nat.beq p 310 then some (35, 0, 72, 3, []) else none)) else (bif Nat.beq p 309 then some (1, 0, 0, 1, []) else none))))) else (bif Nat.ble 289 p then (bif Nat.ble 300 p then (bif Nat.ble 305 p then (bif Nat.ble 307 p then (bif Nat.ble 308 p then (bif Nat.beq p 308 then some (0, 0, 2, 1, []) else none) else (bif Nat.beq p 307 then some (41, 0, 0, 1, []) else none)) else (bif Nat.ble 306 p then (bif Nat.beq p 306 then some (37, 0, 0, 1, []) else none) else (bif Nat.beq p 305 then some (0, 0, 1, 1, []) else none))) else (bif Nat.ble 301 p then (bif Nat.ble 302 p then (bif Nat.beq p 302 then some (35, 0, 66, 3, []) else none) else (bif Nat.beq p 301 then some (1, 0, 0, 1, []) else none)) else (bif Nat.beq p 300 then some (0, 0, 3, 1, []) else none))) else (bif Nat.ble 294 p then (bif Nat.ble 296 p then (bif Nat.ble 297 p then (bif Nat.beq p 297 then some (35, 0, 84, 3, []) else none) else (bif Nat.beq p 296 then some (1, 0, 0, 1, []) else none)) else (bif Nat.ble 295 p then (bif Nat.beq p 295 then some (42, 0, 0, 1, []) else none) else (bif Nat.beq p 294 then some (2, 0, 0, 1, []) else none))) else (bif Nat.ble 290 p then (bif Nat.ble 293 p then (bif Nat.beq p 293 then some (0, 0, 3, 1, []) else none) else (bif Nat.beq p 290 then some (35, 0, 87, 3, []) else none)) else (bif Nat.beq p 289 then some (1, 0, 0, 1, []) else none)))) else (bif Nat.ble 275 p then (bif Nat.ble 283 p then (bif Nat.ble 287 p then (bif Nat.ble 288 p then (bif Nat.beq p 288 then some (41, 0, 0, 1, []) else none) else (bif Nat.beq p 287 then some (6, 0, 0, 1, []) else none)) else (bif Nat.ble 284 p then (bif Nat.beq p 284 then some (35, 0, 48, 3, []) else none) else (bif Nat.beq p 283 then some (1, 0, 0, 1, []) else none))) else (bif Nat.ble 278 p then (bif Nat.ble 280 p then (bif Nat.beq p 280 then some (34, 0, 287, 3, []) else none) else (bif Nat.beq p 278 then some (0, 0, 4, 2, []) else none)) else (bif Nat.beq p 275 then some (25, 0, 283, 3, []) else none))) else (bif Nat.ble 269 p then (bif Nat.ble 271 p then (bif Nat.ble 272 p then (bif Nat.beq p 272 then some (35, 0, 48, 3, []) else none) else (bif Nat.beq p 271 then some (1, 0, 0, 1, []) else none)) else (bif Nat.beq p 269 then some (0, 0, 4, 2, []) else none)) else (bif Nat.ble 267 p then (bif Nat.ble 268 p then (bif Nat.beq p 268 then some (37, 0, 0, 1, []) else none) else (bif Nat.beq p 267 then some (0, 0, 3, 1, []) else none)) else (bif Nat.beq p 264 then some (35, 0, 81, 3, []) else none)))))) else (bif Nat.ble 223 p then (bif Nat.ble 245 p then (bif Nat.ble 254 p then (bif Nat.ble 260 p then (bif Nat.ble 262 p then (bif Nat.ble 263 p then (bif Nat.beq p 263 then some (1, 0, 0, 1, []) else none) else (bif Nat.beq p 262 then some (6, 0, 0, 1, []) else none)) else (bif Nat.ble 261 p then (bif Nat.beq p 261 then some (2, 1, 0, 1, []) else none) else (bif Nat.beq p 260 then some (0, 0, 3, 1, []) else none))) else (bif Nat.ble 256 p then (bif Nat.ble 257 p then (bif Nat.beq p 257 then some (35, 0, 81, 3, []) else none) else (bif Nat.beq p 256 then some (1, 0, 0, 1, []) else none)) else (bif Nat.beq p 254 then some (3, 0, 4, 2, []) else none))) else (bif Nat.ble 248 p then (bif Nat.ble 252 p then (bif Nat.ble 253 p then (bif Nat.beq p 253 then some (7, 0, 0, 1, []) else none) else (bif Nat.beq p 252 then some (37, 0, 0, 1, []) else none)) else (bif Nat.ble 251 p then (bif Nat.beq p 251 then some (0, 0, 3, 1, []) else none) else (bif Nat.beq p 248 then some (35, 0, 81, 3, []) else none))) else (bif Nat.ble 246 p then (bif Nat.ble 247 p then (bif Nat.beq p 247 then some (1, 0, 0, 1, []) else none) else (bif Nat.beq p 246 then some (37, 0, 0, 1, []) else none)) else (bif Nat.beq p 245 then some (0, 0, 1, 1, []) else none)))) else (bif Nat.ble 236 p then (bif Nat.ble 239 p then (bif Nat.ble 241 p then (bif Nat.ble 242 p then (bif Nat.beq p 242 then some (35, 0, 60, 3, []) else none) else (bif Nat.beq p 241 then some (1, 0, 0, 1, []) else none)) else (bif Nat.ble 240 p then (bif Nat.beq p 240 then some (3, 0, 3, 1, []) else none) else (bif Nat.beq p 239 then some (6, 0, 0, 1, []) else none))) else (bif Nat.ble 237 p then (bif Nat.ble 238 p then (bif Nat.beq p 238 then some (0, 0, 2, 1, []) else none) else (bif Nat.beq p 237 then some (8, 0, 0, 1, []) else none)) else (bif Nat.beq p 236 then some (0, 0, 1, 1, []) else none))) else (bif Nat.ble 230 p then (bif Nat.ble 232 p then (bif Nat.ble 233 p then (bif Nat.beq p 233 then some (2, 3002, 0, 3, []) else none) else (bif Nat.beq p 232 then some (3, 0, 2, 1, []) else none)) else (bif Nat.ble 231 p then (bif Nat.beq p 231 then some (37, 0, 0, 1, []) else none) else (bif Nat.beq p 230 then some (0, 0, 1, 1, []) else none))) else (bif Nat.ble 226 p then (bif Nat.ble 227 p then (bif Nat.beq p 227 then some (35, 0, 75, 3, []) else none) else (bif Nat.beq p 226 then some (1, 0, 0, 1, []) else none)) else (bif Nat.beq p 223 then some (25, 0, 350, 3, []) else none))))) else (bif Nat.ble 201 p then (bif Nat.ble 214 p then (bif Nat.ble 217 p then (bif Nat.ble 221 p then (bif Nat.ble 222 p then (bif Nat.beq p 222 then some (37, 0, 0, 1, []) else none) else (bif Nat.beq p 221 then some (0, 0, 1, 1, []) else none)) else (bif Nat.ble 218 p then (bif Nat.beq p 218 then some (35, 0, 60, 3, []) else none) else (bif Nat.beq p 217 then some (1, 0, 0, 1, []) else none))) else (bif Nat.ble 215 p then (bif Nat.ble 216 p then (bif Nat.beq p 216 then some (37, 0, 0, 1, []) else none) else (bif Nat.beq p 215 then some (6, 0, 0, 1, []) else none)) else (bif Nat.beq p 214 then some (37, 0, 0, 1, []) else none))) else (bif Nat.ble 208 p then (bif Nat.ble 210 p then (bif Nat.ble 213 p then (bif Nat.beq p 213 then some (0, 0, 1, 1, []) else none) else (bif Nat.beq p 210 then some (35, 0, 75, 3, []) else none)) else (bif Nat.ble 209 p then (bif Nat.beq p 209 then some (1, 0, 0, 1, []) else none) else (bif Nat.beq p 208 then some (8, 0, 0, 1, []) else none))) else (bif Nat.ble 204 p then (bif Nat.ble 207 p then (bif Nat.beq p 207 then some (0, 0, 1, 1, []) else none) else (bif Nat.beq p 204 then some (2, 3002, 0, 3, []) else none)) else (bif Nat.beq p 201 then some (35, 0, 81, 3, []) else none)))) else (bif Nat.ble 190 p then (bif Nat.ble 193 p then (bif Nat.ble 197 p then (bif Nat.ble 200 p then (bif Nat.beq p 200 then some (1, 0, 0, 1, []) else none) else (bif Nat.beq p 197 then some (25, 0, 350, 3, []) else none)) else (bif Nat.ble 194 p then (bif Nat.beq p 194 then some (35, 0, 45, 3, []) else none) else (bif Nat.beq p 193 then some (1, 0, 0, 1, []) else none))) else (bif Nat.ble 191 p then (bif Nat.ble 192 p then (bif Nat.beq p 192 then some (7, 0, 0, 1, []) else none) else (bif Nat.beq p 191 then some (37, 0, 0, 1, []) else none)) else (bif Nat.beq p 190 then some (0, 0, 1, 1, []) else none))) else (bif Nat.ble 185 p then (bif Nat.ble 186 p then (bif Nat.ble 187 p then (bif Nat.beq p 187 then some (35, 0, 72, 3, []) else none) else (bif Nat.beq p 186 then some (1, 0, 0, 1, []) else none)) else (bif Nat.beq p 185 then some (37, 0, 0, 1, []) else none)) else (bif Nat.ble 181 p then (bif Nat.ble 184 p then (bif Nat.beq p 184 then some (0, 0, 1, 1, []) else none) else (bif Nat.beq p 181 then some (35, 0, 75, 3, []) else none)) else (bif Nat.beq p 180 then some (1, 0, 0, 1, []) else none))))))) else (bif Nat.ble 89 p then (bif Nat.ble 132 p then (bif Nat.ble 156 p then (bif Nat.ble 167 p then (bif Nat.ble 172 p then (bif Nat.ble 174 p then (bif Nat.ble 177 p then (bif Nat.beq p 177 then some (34, 0, 105, 3, []) else none) else (bif Nat.beq p 174 then some (5, 1, 2, 3, []) else none)) else (bif Nat.ble 173 p then (bif Nat.beq p 173 then some (41, 0, 0, 1, []) else none) else (bif Nat.beq p 172 then some (37, 0, 0, 1, []) else none))) else (bif Nat.ble 168 p then (bif Nat.ble 171 p then (bif Nat.beq p 171 then some (0, 0, 1, 1, []) else none) else (bif Nat.beq p 168 then some (35, 0, 66, 3, []) else none)) else (bif Nat.beq p 167 then some (1, 0, 0, 1, []) else none))) else (bif Nat.ble 159 p then (bif Nat.ble 163 p then (bif Nat.ble 166 p then (bif Nat.beq p 166 then some (0, 0, 3, 1, []) else none) else (bif Nat.beq p 163 then some (35, 0, 84, 3, []) else none)) else (bif Nat.ble 162 p then (bif Nat.beq p 162 then some (1, 0, 0, 1, []) else none) else (bif Nat.beq p 159 then some (46, 0, 177, 3, []) else none))) else (bif Nat.ble 157 p then (bif Nat.ble 158 p then (bif Nat.beq p 158 then some (2, 1, 0, 1, []) else none) else (bif Nat.beq p 157 then some (0, 0, 2, 1, []) else none)) else (bif Nat.beq p 156 then some (0, 0, 1, 1, []) else none)))) else (bif Nat.ble 143 p then (bif Nat.ble 146 p then (bif Nat.ble 152 p then (bif Nat.ble 155 p then (bif Nat.beq p 155 then some (1, 0, 0, 1, []) else none) else (bif Nat.beq p 152 then some (34, 0, 174, 3, []) else none)) else (bif Nat.ble 149 p then (bif Nat.beq p 149 then some (25, 0, 155, 3, []) else none) else (bif Nat.beq p 146 then some (35, 0, 51, 3, []) else none))) else (bif Nat.ble 144 p then (bif Nat.ble 145 p then (bif Nat.beq p 145 then some (1, 0, 0, 1, []) else none) else (bif Nat.beq p 144 then some (7, 0, 0, 1, []) else none)) else (bif Nat.beq p 143 then some (37, 0, 0, 1, []) else none))) else (bif Nat.ble 137 p then (bif Nat.ble 139 p then (bif Nat.ble 142 p then (bif Nat.beq p 142 then some (0, 0, 3, 1, []) else none) else (bif Nat.beq p 139 then some (35, 0, 84, 3, []) else none)) else (bif Nat.ble 138 p then (bif Nat.beq p 138 then some (1, 0, 0, 1, []) else none) else (bif Nat.beq p 137 then some (37, 0, 0, 1, []) else none))) else (bif Nat.ble 133 p then (bif Nat.ble 136 p then (bif Nat.beq p 136 then some (0, 0, 1, 1, []) else none) else (bif Nat.beq p 133 then some (35, 0, 66, 3, []) else none)) else (bif Nat.beq p 132 then some (1, 0, 0, 1, []) else none))))) else (bif Nat.ble 110 p then (bif Nat.ble 121 p then (bif Nat.ble 124 p then (bif Nat.ble 128 p then (bif Nat.ble 129 p then (bif Nat.beq p 129 then some (29, 0, 174, 3, []) else none) else (bif Nat.beq p 128 then some (38, 0, 0, 1, []) else none)) else (bif Nat.ble 127 p then (bif Nat.beq p 127 then some (0, 0, 3, 1, []) else none) else (bif Nat.beq p 124 then some (35, 0, 87, 3, []) else none))) else (bif Nat.ble 122 p then (bif Nat.ble 123 p then (bif Nat.beq p 123 then some (1, 0, 0, 1, []) else none) else (bif Nat.beq p 122 then some (3, 0, 3, 1, []) else none)) else (bif Nat.beq p 121 then some (6, 0, 0, 1, []) else none))) else (bif Nat.ble 115 p then (bif Nat.ble 119 p then (bif Nat.ble 120 p then (bif Nat.beq p 120 then some (0, 0, 2, 1, []) else none) else (bif Nat.beq p 119 then some (8, 0, 0, 1, []) else none)) else (bif Nat.ble 118 p then (bif Nat.beq p 118 then some (0, 0, 1, 1, []) else none) else (bif Nat.beq p 115 then some (2, 3002, 0, 3, []) else none))) else (bif Nat.ble 111 p then (bif Nat.ble 112 p then (bif Nat.beq p 112 then some (25, 0, 180, 3, []) else none) else (bif Nat.beq p 111 then some (37, 0, 0, 1, []) else none)) else (bif Nat.beq p 110 then some (0, 0, 1, 1, []) else none)))) else (bif Nat.ble 99 p then (bif Nat.ble 104 p then (bif Nat.ble 106 p then (bif Nat.ble 107 p then (bif Nat.beq p 107 then some (35, 0, 75, 3, []) else none) else (bif Nat.beq p 106 then some (1, 0, 0, 1, []) else none)) else (bif Nat.ble 105 p then (bif Nat.beq p 105 then some (0, 0, 2, 1, []) else none) else (bif Nat.beq p 104 then some (3, 0, 2, 1, []) else none))) else (bif Nat.ble 102 p then (bif Nat.ble 103 p then (bif Nat.beq p 103 then some (37, 0, 0, 1, []) else none) else (bif Nat.beq p 102 then some (0, 0, 1, 1, []) else none)) else (bif Nat.beq p 99 then some (35, 0, 72, 3, []) else none))) else (bif Nat.ble 94 p then (bif Nat.ble 95 p then (bif Nat.ble 98 p then (bif Nat.beq p 98 then some (1, 0, 0, 1, []) else none) else (bif Nat.beq p 95 then some (34, 0, 180, 3, []) else none)) else (bif Nat.beq p 94 then some (41, 0, 0, 1, []) else none)) else (bif Nat.ble 92 p then (bif Nat.ble 93 p then (bif Nat.beq p 93 then some (37, 0, 0, 1, []) else none) else (bif Nat.beq p 92 then some (0, 0, 1, 1, []) else none)) else (bif Nat.beq p 89 then some (35, 0, 66, 3, []) else none)))))) else (bif Nat.ble 43 p then (bif Nat.ble 65 p then (bif Nat.ble 74 p then (bif Nat.ble 83 p then (bif Nat.ble 87 p then (bif Nat.ble 88 p then (bif Nat.beq p 88 then some (1, 0, 0, 1, []) else none) else (bif Nat.beq p 87 then some (0, 0, 1, 1, []) else none)) else (bif Nat.ble 84 p then (bif Nat.beq p 84 then some (35, 0, 69, 3, []) else none) else (bif Nat.beq p 83 then some (1, 0, 0, 1, []) else none))) else (bif Nat.ble 77 p then (bif Nat.ble 80 p then (bif Nat.beq p 80 then some (34, 0, 60, 3, []) else none) else (bif Nat.beq p 77 then some (5, 1, 2, 3, []) else none)) else (bif Nat.beq p 74 then some (46, 0, 177, 3, []) else none))) else (bif Nat.ble 70 p then (bif Nat.ble 72 p then (bif Nat.ble 73 p then (bif Nat.beq p 73 then some (2, 1, 0, 1, []) else none) else (bif Nat.beq p 72 then some (0, 0, 2, 1, []) else none)) else (bif Nat.ble 71 p then (bif Nat.beq p 71 then some (0, 0, 1, 1, []) else none) else (bif Nat.beq p 70 then some (1, 0, 0, 1, []) else none))) else (bif Nat.ble 66 p then (bif Nat.ble 67 p then (bif Nat.beq p 67 then some (25, 0, 83, 3, []) else none) else (bif Nat.beq p 66 then some (37, 0, 0, 1, []) else none)) else (bif Nat.beq p 65 then some (0, 0, 1, 1, []) else none)))) else (bif Nat.ble 54 p then (bif Nat.ble 59 p then (bif Nat.ble 61 p then (bif Nat.ble 62 p then (bif Nat.beq p 62 then some (35, 0, 75, 3, []) else none) else (bif Nat.beq p 61 then some (1, 0, 0, 1, []) else none)) else (bif Nat.ble 60 p then (bif Nat.beq p 60 then some (0, 0, 2, 1, []) else none) else (bif Nat.beq p 59 then some (3, 0, 2, 1, []) else none))) else (bif Nat.ble 57 p then (bif Nat.ble 58 p then (bif Nat.beq p 58 then some (37, 0, 0, 1, []) else none) else (bif Nat.beq p 57 then some (0, 0, 1, 1, []) else none)) else (bif Nat.beq p 54 then some (35, 0, 72, 3, []) else none))) else (bif Nat.ble 46 p then (bif Nat.ble 50 p then (bif Nat.ble 53 p then (bif Nat.beq p 53 then some (1, 0, 0, 1, []) else none) else (bif Nat.beq p 50 then some (24, 0, 180, 3, []) else none)) else (bif Nat.ble 47 p then (bif Nat.beq p 47 then some (35, 0, 51, 3, []) else none) else (bif Nat.beq p 46 then some (1, 0, 0, 1, []) else none))) else (bif Nat.ble 44 p then (bif Nat.ble 45 p then (bif Nat.beq p 45 then some (7, 0, 0, 1, []) else none) else (bif Nat.beq p 44 then some (37, 0, 0, 1, []) else none)) else (bif Nat.beq p 43 then some (0, 0, 1, 1, []) else none))))) else (bif Nat.ble 19 p then (bif Nat.ble 30 p then (bif Nat.ble 37 p then (bif Nat.ble 39 p then (bif Nat.ble 40 p then (bif Nat.beq p 40 then some (35, 0, 69, 3, []) else none) else (bif Nat.beq p 39 then some (1, 0, 0, 1, []) else none)) else (bif Nat.ble 38 p then (bif Nat.beq p 38 then some (37, 0, 0, 1, []) else none) else (bif Nat.beq p 37 then some (0, 0, 1, 1, []) else none))) else (bif Nat.ble 33 p then (bif Nat.ble 34 p then (bif Nat.beq p 34 then some (35, 0, 66, 3, []) else none) else (bif Nat.beq p 33 then some (1, 0, 0, 1, []) else none)) else (bif Nat.beq p 30 then some (25, 0, 180, 3, []) else none))) else (bif Nat.ble 24 p then (bif Nat.ble 28 p then (bif Nat.ble 29 p then (bif Nat.beq p 29 then some (37, 0, 0, 1, []) else none) else (bif Nat.beq p 28 then some (0, 0, 1, 1, []) else none)) else (bif Nat.ble 25 p then (bif Nat.beq p 25 then some (35, 0, 75, 3, []) else none) else (bif Nat.beq p 24 then some (1, 0, 0, 1, []) else none))) else (bif Nat.ble 22 p then (bif Nat.ble 23 p then (bif Nat.beq p 23 then some (37, 0, 0, 1, []) else none) else (bif Nat.beq p 22 then some (0, 0, 1, 1, []) else none)) else (bif Nat.beq p 19 then some (35, 0, 72, 3, []) else none)))) else (bif Nat.ble 8 p then (bif Nat.ble 11 p then (bif Nat.ble 15 p then (bif Nat.ble 18 p then (bif Nat.beq p 18 then some (1, 0, 0, 1, []) else none) else (bif Nat.beq p 15 then some (25, 0, 98, 3, []) else none)) else (bif Nat.ble 14 p then (bif Nat.beq p 14 then some (2, 2, 0, 1, []) else none) else (bif Nat.beq p 11 then some (35, 0, 39, 3, []) else none))) else (bif Nat.ble 9 p then (bif Nat.ble 10 p then (bif Nat.beq p 10 then some (1, 0, 0, 1, []) else none) else (bif Nat.beq p 9 then some (41, 0, 0, 1, []) else none)) else (bif Nat.beq p 8 then some (6, 0, 0, 1, []) else none))) else (bif Nat.ble 5 p then (bif Nat.ble 6 p then (bif Nat.ble 7 p then (bif Nat.beq p 7 then some (2, 1, 0, 1, []) else none) else (bif Nat.beq p 6 then some (37, 0, 0, 1, []) else none)) else (bif Nat.beq p 5 then some (20, 0, 0, 1, []) else none)) else (bif Nat.ble 1 p then (bif Nat.ble 4 p then (bif Nat.beq p 4 then some (0, 0, 1, 1, []) else none) else (bif Nat.beq p 1 then some (35, 0, 66, 3, []) else none)) else (bif Nat.beq p 0 then some (1, 0, 0, 1, []) else none))))))))
def ca_X11_tickOf (y : Nat) (as : List sl_V) (m : sl_M) : Option (sl_PL × sl_M) := bif Nat.beq y 108 then F_X11_layPiece as m else none
def sp_X11_tickOf (p : Nat) : Bool := Nat.beq p 60 || Nat.beq p 105 || Nat.beq p 180
def mk_X11_tickOf (p : Nat) : List Bool := bif Nat.ble 105 p then (bif Nat.ble 180 p then (bif Nat.beq p 180 then [true, true, false, false, false] else []) else (bif Nat.beq p 105 then [true, true, true, false, false] else [])) else (bif Nat.beq p 60 then [true, true, true, false, false] else [])
def cl_X11_tickOf (p : Nat) : Option sl_C := bif Nat.ble 178 p then none else (bif Nat.beq p 177 then some (108, 4, 0, 0, 0, 12) else none)
def R_X11_tickOf (ca : Nat → List sl_V → sl_M → Option (sl_PL × sl_M)) : Nat → sl_S → sl_M → Option (sl_PL × sl_M) := sl_B tb_X11_tickOf fl_X11 pf_X11 cl_X11_tickOf nw_X11 sl_rd sl_wr sl_al sl_ln 0 (fun _ => 0) ca sp_X11_tickOf mk_X11_tickOf
def F_X11_tickOf (as : List sl_V) (m : sl_M) : Option (sl_PL × sl_M) := R_X11_tickOf ca_X11_tickOf 100000 (0, sl_lo 5 as, []) m
def f_X11_tickOf (a0 : Int32) (m : sl_M) : Option (sl_PL × sl_M) := F_X11_tickOf [.inr (.inl (some (11, 0))), .inl a0] m
def r_X11_tickOf_0 (ca : Nat → List sl_V → sl_M → Option (sl_PL × sl_M)) (n : Nat) (a0 : Int32) (m : sl_M) : Option (sl_PL × sl_M) := R_X11_tickOf ca n (0, sl_lo 5 [.inr (.inl (some (11, 0))), .inl a0], []) m
def r_X11_tickOf_60 (ca : Nat → List sl_V → sl_M → Option (sl_PL × sl_M)) (n : Nat) (v1 : Int32) (v2 : Int32) (m : sl_M) : Option (sl_PL × sl_M) := R_X11_tickOf ca n (60, [some (.inr (.inl (some (11, 0)))), some (.inl v1), some (.inl v2), none, none], []) m
def b_X11_tickOf_60 (n : Nat) (v1 : Int32) (v2 : Int32) (m : sl_M) : Option (sl_PL × sl_M) := r_X11_tickOf_60 ca_X11_tickOf n v1 v2 m
def r_X11_tickOf_105 (ca : Nat → List sl_V → sl_M → Option (sl_PL × sl_M)) (n : Nat) (v1 : Int32) (v2 : Int32) (m : sl_M) : Option (sl_PL × sl_M) := R_X11_tickOf ca n (105, [some (.inr (.inl (some (11, 0)))), some (.inl v1), some (.inl v2), none, none], []) m
def b_X11_tickOf_105 (n : Nat) (v1 : Int32) (v2 : Int32) (m : sl_M) : Option (sl_PL × sl_M) := r_X11_tickOf_105 ca_X11_tickOf n v1 v2 m
def r_X11_tickOf_180 (ca : Nat → List sl_V → sl_M → Option (sl_PL × sl_M)) (n : Nat) (v1 : Int32) (m : sl_M) : Option (sl_PL × sl_M) := R_X11_tickOf ca n (180, [some (.inr (.inl (some (11, 0)))), some (.inl v1), none, none, none], []) m
def b_X11_tickOf_180 (n : Nat) (v1 : Int32) (m : sl_M) : Option (sl_PL × sl_M) := r_X11_tickOf_180 ca_X11_tickOf n v1 m
set_option maxRecDepth 100000 in
theorem g_X11_tickOf_0 (ca : Nat → List sl_V → sl_M → Option (sl_PL × sl_M)) (n : Nat) (a0 : Int32) (m : sl_M) : r_X11_tickOf_0 ca (n + 1) a0 m =
  if 0 ≤ a0 ∧ a0.toNatClampNeg < 2 then
  if 0 ≤ a0 ∧ a0.toNatClampNeg < 2 then
  if (2 : Int32) ≤ (m.1 11 0 9) then
    if 0 ≤ a0 ∧ a0.toNatClampNeg < 2 then
    r_X11_tickOf_105 ca n a0 (m.1 55 0 a0.toNatClampNeg) (sl_up m 53 0 a0.toNatClampNeg ((m.1 53 0 a0.toNatClampNeg) + (1 : Int32)))
    else none
  else
    if 0 ≤ a0 ∧ a0.toNatClampNeg < 2 then
    if 0 ≤ a0 ∧ a0.toNatClampNeg < 2 then
    if (m.1 56 0 a0.toNatClampNeg) ≤ (m.1 55 0 a0.toNatClampNeg) then
      r_X11_tickOf_180 ca n a0 (sl_up m 53 0 a0.toNatClampNeg ((m.1 53 0 a0.toNatClampNeg) + (1 : Int32)))
    else
      if 0 ≤ a0 ∧ a0.toNatClampNeg < 2 then
      if 0 ≤ a0 ∧ a0.toNatClampNeg < 2 then
      if (((sl_up m 53 0 a0.toNatClampNeg ((m.1 53 0 a0.toNatClampNeg) + (1 : Int32))).1 53 0 a0.toNatClampNeg) - (m.1 54 0 a0.toNatClampNeg)) < (m.1 11 0 13) then
        r_X11_tickOf_180 ca n a0 (sl_up m 53 0 a0.toNatClampNeg ((m.1 53 0 a0.toNatClampNeg) + (1 : Int32)))
      else
        if 0 ≤ a0 ∧ a0.toNatClampNeg < 2 then
        r_X11_tickOf_60 ca n a0 (m.1 55 0 a0.toNatClampNeg) (sl_up m 53 0 a0.toNatClampNeg ((m.1 53 0 a0.toNatClampNeg) + (1 : Int32)))
        else none
      else none
      else none
    else none
    else none
  else none
  else none := by rfl
set_option maxRecDepth 100000 in
theorem g_X11_tickOf_60 (ca : Nat → List sl_V → sl_M → Option (sl_PL × sl_M)) (n : Nat) (v1 : Int32) (v2 : Int32) (m : sl_M) : r_X11_tickOf_60 ca (n + 1) v1 v2 m =
  if 0 ≤ v1 ∧ v1.toNatClampNeg < 2 then
  if (m.1 56 0 v1.toNatClampNeg) ≤ v2 then
    if 0 ≤ v1 ∧ v1.toNatClampNeg < 2 then
    if 0 ≤ v1 ∧ v1.toNatClampNeg < 2 then
    r_X11_tickOf_180 ca n v1 (sl_up m 54 0 v1.toNatClampNeg (m.1 53 0 v1.toNatClampNeg))
    else none
    else none
  else
    (ca 108 [.inr (.inl (some (11, 0))), .inl v1, .inl v2, .inl (1 : Int32)] m).bind (fun q1 =>
    r_X11_tickOf_60 ca n v1 (v2 + (1 : Int32)) q1.2)
  else none := by rfl
set_option maxRecDepth 100000 in
theorem g_X11_tickOf_105 (ca : Nat → List sl_V → sl_M → Option (sl_PL × sl_M)) (n : Nat) (v1 : Int32) (v2 : Int32) (m : sl_M) : r_X11_tickOf_105 ca (n + 1) v1 v2 m =
  if 0 ≤ v1 ∧ v1.toNatClampNeg < 2 then
  if (m.1 56 0 v1.toNatClampNeg) ≤ v2 then
    r_X11_tickOf_180 ca n v1 m
  else
    if 0 ≤ (((3002 : Int32) * v1) + v2) ∧ (((3002 : Int32) * v1) + v2).toNatClampNeg < 6004 then
    if ((m.1 70 0 ((((3002 : Int32) * v1) + v2).toNatClampNeg)) &&& 1) = 0 then
      if 0 ≤ v1 ∧ v1.toNatClampNeg < 2 then
      if 0 ≤ (((3002 : Int32) * v1) + v2) ∧ (((3002 : Int32) * v1) + v2).toNatClampNeg < 6004 then
      if (m.1 11 0 13) ≤ ((m.1 53 0 v1.toNatClampNeg) - (m.1 59 0 ((((3002 : Int32) * v1) + v2).toNatClampNeg))) then
        (ca 108 [.inr (.inl (some (11, 0))), .inl v1, .inl v2, .inl (1 : Int32)] m).bind (fun q1 =>
        if 0 ≤ v1 ∧ v1.toNatClampNeg < 2 then
        if 0 ≤ (((3002 : Int32) * v1) + v2) ∧ (((3002 : Int32) * v1) + v2).toNatClampNeg < 6004 then
        r_X11_tickOf_105 ca n v1 (v2 + (1 : Int32)) (sl_up q1.2 59 0 ((((3002 : Int32) * v1) + v2).toNatClampNeg) (q1.2.1 53 0 v1.toNatClampNeg))
        else none
        else none)
      else
        r_X11_tickOf_105 ca n v1 (v2 + (1 : Int32)) m
      else none
      else none
    else
      r_X11_tickOf_105 ca n v1 (v2 + (1 : Int32)) m
    else none
  else none := by rfl
set_option maxRecDepth 100000 in
theorem g_X11_tickOf_180 (ca : Nat → List sl_V → sl_M → Option (sl_PL × sl_M)) (n : Nat) (v1 : Int32) (m : sl_M) : r_X11_tickOf_180 ca (n + 1) v1 m =
  if 0 ≤ v1 ∧ v1.toNatClampNeg < 2 then
  if 0 ≤ v1 ∧ v1.toNatClampNeg < 2 then
  if (m.1 11 0 11) ≤ ((m.1 56 0 v1.toNatClampNeg) - (m.1 55 0 v1.toNatClampNeg)) then
    some ((0, 0, 0), m)
  else
    if 0 ≤ v1 ∧ v1.toNatClampNeg < 2 then
    if 0 ≤ (((3002 : Int32) * v1) + (m.1 56 0 v1.toNatClampNeg)) ∧ (((3002 : Int32) * v1) + (m.1 56 0 v1.toNatClampNeg)).toNatClampNeg < 6004 then
    if 0 ≤ v1 ∧ v1.toNatClampNeg < 2 then
    if (m.1 51 0 v1.toNatClampNeg) ≤ (m.1 58 0 ((((3002 : Int32) * v1) + (m.1 56 0 v1.toNatClampNeg)).toNatClampNeg)) then
      some ((0, 0, 0), m)
    else
      if 0 ≤ v1 ∧ v1.toNatClampNeg < 2 then
      if 0 ≤ v1 ∧ v1.toNatClampNeg < 2 then
      if 0 ≤ (((3002 : Int32) * v1) + (m.1 56 0 v1.toNatClampNeg)) ∧ (((3002 : Int32) * v1) + (m.1 56 0 v1.toNatClampNeg)).toNatClampNeg < 6004 then
      if 0 ≤ (((3002 : Int32) * v1) + (m.1 56 0 v1.toNatClampNeg)) ∧ (((3002 : Int32) * v1) + (m.1 56 0 v1.toNatClampNeg)).toNatClampNeg < 6004 then
      if (m.1 11 0 12) ≤ ((m.1 51 0 v1.toNatClampNeg) - (m.1 58 0 ((((3002 : Int32) * v1) + (m.1 56 0 v1.toNatClampNeg)).toNatClampNeg))) then
        if 0 ≤ ((((3002 : Int32) * v1) + (m.1 56 0 v1.toNatClampNeg)) + (1 : Int32)) ∧ ((((3002 : Int32) * v1) + (m.1 56 0 v1.toNatClampNeg)) + (1 : Int32)).toNatClampNeg < 6004 then
        if 0 ≤ (((3002 : Int32) * v1) + (m.1 56 0 v1.toNatClampNeg)) ∧ (((3002 : Int32) * v1) + (m.1 56 0 v1.toNatClampNeg)).toNatClampNeg < 6004 then
        if 0 ≤ v1 ∧ v1.toNatClampNeg < 2 then
        if 0 ≤ (((3002 : Int32) * v1) + (m.1 56 0 v1.toNatClampNeg)) ∧ (((3002 : Int32) * v1) + (m.1 56 0 v1.toNatClampNeg)).toNatClampNeg < 6004 then
        if 0 ≤ v1 ∧ v1.toNatClampNeg < 2 then
        if (m.1 56 0 v1.toNatClampNeg) = (m.1 55 0 v1.toNatClampNeg) then
          if 0 ≤ v1 ∧ v1.toNatClampNeg < 2 then
          if 0 ≤ v1 ∧ v1.toNatClampNeg < 2 then
          if 0 ≤ v1 ∧ v1.toNatClampNeg < 2 then
          if 0 ≤ v1 ∧ v1.toNatClampNeg < 2 then
          (ca 108 [.inr (.inl (some (11, 0))), .inl v1, .inl (m.1 56 0 v1.toNatClampNeg), .inl (0 : Int32)] (sl_up (sl_up (sl_up (sl_up (sl_up m 58 0 (((((3002 : Int32) * v1) + (m.1 56 0 v1.toNatClampNeg)) + (1 : Int32)).toNatClampNeg) ((m.1 58 0 ((((3002 : Int32) * v1) + (m.1 56 0 v1.toNatClampNeg)).toNatClampNeg)) + (m.1 11 0 12))) 70 0 ((((3002 : Int32) * v1) + (m.1 56 0 v1.toNatClampNeg)).toNatClampNeg) (0 : Int32)) 59 0 ((((3002 : Int32) * v1) + (m.1 56 0 v1.toNatClampNeg)).toNatClampNeg) (m.1 53 0 v1.toNatClampNeg)) 54 0 v1.toNatClampNeg (m.1 53 0 v1.toNatClampNeg)) 56 0 v1.toNatClampNeg ((m.1 56 0 v1.toNatClampNeg) + (1 : Int32)))).bind (fun q1 =>
          r_X11_tickOf_180 ca n v1 q1.2)
          else none
          else none
          else none
          else none
        else
          if 0 ≤ v1 ∧ v1.toNatClampNeg < 2 then
          if 0 ≤ v1 ∧ v1.toNatClampNeg < 2 then
          (ca 108 [.inr (.inl (some (11, 0))), .inl v1, .inl (m.1 56 0 v1.toNatClampNeg), .inl (0 : Int32)] (sl_up (sl_up (sl_up (sl_up m 58 0 (((((3002 : Int32) * v1) + (m.1 56 0 v1.toNatClampNeg)) + (1 : Int32)).toNatClampNeg) ((m.1 58 0 ((((3002 : Int32) * v1) + (m.1 56 0 v1.toNatClampNeg)).toNatClampNeg)) + (m.1 11 0 12))) 70 0 ((((3002 : Int32) * v1) + (m.1 56 0 v1.toNatClampNeg)).toNatClampNeg) (0 : Int32)) 59 0 ((((3002 : Int32) * v1) + (m.1 56 0 v1.toNatClampNeg)).toNatClampNeg) (m.1 53 0 v1.toNatClampNeg)) 56 0 v1.toNatClampNeg ((m.1 56 0 v1.toNatClampNeg) + (1 : Int32)))).bind (fun q2 =>
          r_X11_tickOf_180 ca n v1 q2.2)
          else none
          else none
        else none
        else none
        else none
        else none
        else none
      else
        if 0 ≤ ((((3002 : Int32) * v1) + (m.1 56 0 v1.toNatClampNeg)) + (1 : Int32)) ∧ ((((3002 : Int32) * v1) + (m.1 56 0 v1.toNatClampNeg)) + (1 : Int32)).toNatClampNeg < 6004 then
        if 0 ≤ (((3002 : Int32) * v1) + (m.1 56 0 v1.toNatClampNeg)) ∧ (((3002 : Int32) * v1) + (m.1 56 0 v1.toNatClampNeg)).toNatClampNeg < 6004 then
        if 0 ≤ v1 ∧ v1.toNatClampNeg < 2 then
        if 0 ≤ (((3002 : Int32) * v1) + (m.1 56 0 v1.toNatClampNeg)) ∧ (((3002 : Int32) * v1) + (m.1 56 0 v1.toNatClampNeg)).toNatClampNeg < 6004 then
        if 0 ≤ v1 ∧ v1.toNatClampNeg < 2 then
        if (m.1 56 0 v1.toNatClampNeg) = (m.1 55 0 v1.toNatClampNeg) then
          if 0 ≤ v1 ∧ v1.toNatClampNeg < 2 then
          if 0 ≤ v1 ∧ v1.toNatClampNeg < 2 then
          if 0 ≤ v1 ∧ v1.toNatClampNeg < 2 then
          if 0 ≤ v1 ∧ v1.toNatClampNeg < 2 then
          (ca 108 [.inr (.inl (some (11, 0))), .inl v1, .inl (m.1 56 0 v1.toNatClampNeg), .inl (0 : Int32)] (sl_up (sl_up (sl_up (sl_up (sl_up m 58 0 (((((3002 : Int32) * v1) + (m.1 56 0 v1.toNatClampNeg)) + (1 : Int32)).toNatClampNeg) ((m.1 58 0 ((((3002 : Int32) * v1) + (m.1 56 0 v1.toNatClampNeg)).toNatClampNeg)) + ((m.1 51 0 v1.toNatClampNeg) - (m.1 58 0 ((((3002 : Int32) * v1) + (m.1 56 0 v1.toNatClampNeg)).toNatClampNeg))))) 70 0 ((((3002 : Int32) * v1) + (m.1 56 0 v1.toNatClampNeg)).toNatClampNeg) (0 : Int32)) 59 0 ((((3002 : Int32) * v1) + (m.1 56 0 v1.toNatClampNeg)).toNatClampNeg) (m.1 53 0 v1.toNatClampNeg)) 54 0 v1.toNatClampNeg (m.1 53 0 v1.toNatClampNeg)) 56 0 v1.toNatClampNeg ((m.1 56 0 v1.toNatClampNeg) + (1 : Int32)))).bind (fun q3 =>
          r_X11_tickOf_180 ca n v1 q3.2)
          else none
          else none
          else none
          else none
        else
          if 0 ≤ v1 ∧ v1.toNatClampNeg < 2 then
          if 0 ≤ v1 ∧ v1.toNatClampNeg < 2 then
          (ca 108 [.inr (.inl (some (11, 0))), .inl v1, .inl (m.1 56 0 v1.toNatClampNeg), .inl (0 : Int32)] (sl_up (sl_up (sl_up (sl_up m 58 0 (((((3002 : Int32) * v1) + (m.1 56 0 v1.toNatClampNeg)) + (1 : Int32)).toNatClampNeg) ((m.1 58 0 ((((3002 : Int32) * v1) + (m.1 56 0 v1.toNatClampNeg)).toNatClampNeg)) + ((m.1 51 0 v1.toNatClampNeg) - (m.1 58 0 ((((3002 : Int32) * v1) + (m.1 56 0 v1.toNatClampNeg)).toNatClampNeg))))) 70 0 ((((3002 : Int32) * v1) + (m.1 56 0 v1.toNatClampNeg)).toNatClampNeg) (0 : Int32)) 59 0 ((((3002 : Int32) * v1) + (m.1 56 0 v1.toNatClampNeg)).toNatClampNeg) (m.1 53 0 v1.toNatClampNeg)) 56 0 v1.toNatClampNeg ((m.1 56 0 v1.toNatClampNeg) + (1 : Int32)))).bind (fun q4 =>
          r_X11_tickOf_180 ca n v1 q4.2)
          else none
          else none
        else none
        else none
        else none
        else none
        else none
      else none
      else none
      else none
      else none
    else none
    else none
    else none
  else none
  else none := by rfl
theorem cq_X11_tickOf_X11_layPiece (a0 : Int32) (a1 : Int32) (a2 : Int32) (m : sl_M) : ca_X11_tickOf 108 [.inr (.inl (some (11, 0))), .inl a0, .inl a1, .inl a2] m = f_X11_layPiece a0 a1 a2 m := by
  unfold ca_X11_tickOf f_X11_layPiece
  rw [show Nat.beq 108 108 = true from rfl, cond_true]
theorem bq_X11_tickOf_60 (n : Nat) (v1 : Int32) (v2 : Int32) (m : sl_M) : r_X11_tickOf_60 ca_X11_tickOf n v1 v2 m = b_X11_tickOf_60 n v1 v2 m := rfl
theorem bq_X11_tickOf_105 (n : Nat) (v1 : Int32) (v2 : Int32) (m : sl_M) : r_X11_tickOf_105 ca_X11_tickOf n v1 v2 m = b_X11_tickOf_105 n v1 v2 m := rfl
theorem bq_X11_tickOf_180 (n : Nat) (v1 : Int32) (m : sl_M) : r_X11_tickOf_180 ca_X11_tickOf n v1 m = b_X11_tickOf_180 n v1 m := rfl
theorem e_X11_tickOf (a0 : Int32) (m : sl_M) : f_X11_tickOf a0 m =
  if 0 ≤ a0 ∧ a0.toNatClampNeg < 2 then
  if 0 ≤ a0 ∧ a0.toNatClampNeg < 2 then
  if (2 : Int32) ≤ (m.1 11 0 9) then
    if 0 ≤ a0 ∧ a0.toNatClampNeg < 2 then
    b_X11_tickOf_105 99999 a0 (m.1 55 0 a0.toNatClampNeg) (sl_up m 53 0 a0.toNatClampNeg ((m.1 53 0 a0.toNatClampNeg) + (1 : Int32)))
    else none
  else
    if 0 ≤ a0 ∧ a0.toNatClampNeg < 2 then
    if 0 ≤ a0 ∧ a0.toNatClampNeg < 2 then
    if (m.1 56 0 a0.toNatClampNeg) ≤ (m.1 55 0 a0.toNatClampNeg) then
      b_X11_tickOf_180 99999 a0 (sl_up m 53 0 a0.toNatClampNeg ((m.1 53 0 a0.toNatClampNeg) + (1 : Int32)))
    else
      if 0 ≤ a0 ∧ a0.toNatClampNeg < 2 then
      if 0 ≤ a0 ∧ a0.toNatClampNeg < 2 then
      if (((sl_up m 53 0 a0.toNatClampNeg ((m.1 53 0 a0.toNatClampNeg) + (1 : Int32))).1 53 0 a0.toNatClampNeg) - (m.1 54 0 a0.toNatClampNeg)) < (m.1 11 0 13) then
        b_X11_tickOf_180 99999 a0 (sl_up m 53 0 a0.toNatClampNeg ((m.1 53 0 a0.toNatClampNeg) + (1 : Int32)))
      else
        if 0 ≤ a0 ∧ a0.toNatClampNeg < 2 then
        b_X11_tickOf_60 99999 a0 (m.1 55 0 a0.toNatClampNeg) (sl_up m 53 0 a0.toNatClampNeg ((m.1 53 0 a0.toNatClampNeg) + (1 : Int32)))
        else none
      else none
      else none
    else none
    else none
  else none
  else none := by
  have h := g_X11_tickOf_0 ca_X11_tickOf 99999 a0 m
  simp only [cq_X11_tickOf_X11_layPiece, bq_X11_tickOf_60, bq_X11_tickOf_105, bq_X11_tickOf_180] at h
  exact h
theorem e_X11_tickOf_60 (n : Nat) (v1 : Int32) (v2 : Int32) (m : sl_M) : b_X11_tickOf_60 (n + 1) v1 v2 m =
  if 0 ≤ v1 ∧ v1.toNatClampNeg < 2 then
  if (m.1 56 0 v1.toNatClampNeg) ≤ v2 then
    if 0 ≤ v1 ∧ v1.toNatClampNeg < 2 then
    if 0 ≤ v1 ∧ v1.toNatClampNeg < 2 then
    b_X11_tickOf_180 n v1 (sl_up m 54 0 v1.toNatClampNeg (m.1 53 0 v1.toNatClampNeg))
    else none
    else none
  else
    (f_X11_layPiece v1 v2 (1 : Int32) m).bind (fun q1 =>
    b_X11_tickOf_60 n v1 (v2 + (1 : Int32)) q1.2)
  else none := by
  have h := g_X11_tickOf_60 ca_X11_tickOf n v1 v2 m
  simp only [cq_X11_tickOf_X11_layPiece, bq_X11_tickOf_60, bq_X11_tickOf_105, bq_X11_tickOf_180] at h
  exact h
theorem e_X11_tickOf_105 (n : Nat) (v1 : Int32) (v2 : Int32) (m : sl_M) : b_X11_tickOf_105 (n + 1) v1 v2 m =
  if 0 ≤ v1 ∧ v1.toNatClampNeg < 2 then
  if (m.1 56 0 v1.toNatClampNeg) ≤ v2 then
    b_X11_tickOf_180 n v1 m
  else
    if 0 ≤ (((3002 : Int32) * v1) + v2) ∧ (((3002 : Int32) * v1) + v2).toNatClampNeg < 6004 then
    if ((m.1 70 0 ((((3002 : Int32) * v1) + v2).toNatClampNeg)) &&& 1) = 0 then
      if 0 ≤ v1 ∧ v1.toNatClampNeg < 2 then
      if 0 ≤ (((3002 : Int32) * v1) + v2) ∧ (((3002 : Int32) * v1) + v2).toNatClampNeg < 6004 then
      if (m.1 11 0 13) ≤ ((m.1 53 0 v1.toNatClampNeg) - (m.1 59 0 ((((3002 : Int32) * v1) + v2).toNatClampNeg))) then
        (f_X11_layPiece v1 v2 (1 : Int32) m).bind (fun q1 =>
        if 0 ≤ v1 ∧ v1.toNatClampNeg < 2 then
        if 0 ≤ (((3002 : Int32) * v1) + v2) ∧ (((3002 : Int32) * v1) + v2).toNatClampNeg < 6004 then
        b_X11_tickOf_105 n v1 (v2 + (1 : Int32)) (sl_up q1.2 59 0 ((((3002 : Int32) * v1) + v2).toNatClampNeg) (q1.2.1 53 0 v1.toNatClampNeg))
        else none
        else none)
      else
        b_X11_tickOf_105 n v1 (v2 + (1 : Int32)) m
      else none
      else none
    else
      b_X11_tickOf_105 n v1 (v2 + (1 : Int32)) m
    else none
  else none := by
  have h := g_X11_tickOf_105 ca_X11_tickOf n v1 v2 m
  simp only [cq_X11_tickOf_X11_layPiece, bq_X11_tickOf_60, bq_X11_tickOf_105, bq_X11_tickOf_180] at h
  exact h
theorem e_X11_tickOf_180 (n : Nat) (v1 : Int32) (m : sl_M) : b_X11_tickOf_180 (n + 1) v1 m =
  if 0 ≤ v1 ∧ v1.toNatClampNeg < 2 then
  if 0 ≤ v1 ∧ v1.toNatClampNeg < 2 then
  if (m.1 11 0 11) ≤ ((m.1 56 0 v1.toNatClampNeg) - (m.1 55 0 v1.toNatClampNeg)) then
    some ((0, 0, 0), m)
  else
    if 0 ≤ v1 ∧ v1.toNatClampNeg < 2 then
    if 0 ≤ (((3002 : Int32) * v1) + (m.1 56 0 v1.toNatClampNeg)) ∧ (((3002 : Int32) * v1) + (m.1 56 0 v1.toNatClampNeg)).toNatClampNeg < 6004 then
    if 0 ≤ v1 ∧ v1.toNatClampNeg < 2 then
    if (m.1 51 0 v1.toNatClampNeg) ≤ (m.1 58 0 ((((3002 : Int32) * v1) + (m.1 56 0 v1.toNatClampNeg)).toNatClampNeg)) then
      some ((0, 0, 0), m)
    else
      if 0 ≤ v1 ∧ v1.toNatClampNeg < 2 then
      if 0 ≤ v1 ∧ v1.toNatClampNeg < 2 then
      if 0 ≤ (((3002 : Int32) * v1) + (m.1 56 0 v1.toNatClampNeg)) ∧ (((3002 : Int32) * v1) + (m.1 56 0 v1.toNatClampNeg)).toNatClampNeg < 6004 then
      if 0 ≤ (((3002 : Int32) * v1) + (m.1 56 0 v1.toNatClampNeg)) ∧ (((3002 : Int32) * v1) + (m.1 56 0 v1.toNatClampNeg)).toNatClampNeg < 6004 then
      if (m.1 11 0 12) ≤ ((m.1 51 0 v1.toNatClampNeg) - (m.1 58 0 ((((3002 : Int32) * v1) + (m.1 56 0 v1.toNatClampNeg)).toNatClampNeg))) then
        if 0 ≤ ((((3002 : Int32) * v1) + (m.1 56 0 v1.toNatClampNeg)) + (1 : Int32)) ∧ ((((3002 : Int32) * v1) + (m.1 56 0 v1.toNatClampNeg)) + (1 : Int32)).toNatClampNeg < 6004 then
        if 0 ≤ (((3002 : Int32) * v1) + (m.1 56 0 v1.toNatClampNeg)) ∧ (((3002 : Int32) * v1) + (m.1 56 0 v1.toNatClampNeg)).toNatClampNeg < 6004 then
        if 0 ≤ v1 ∧ v1.toNatClampNeg < 2 then
        if 0 ≤ (((3002 : Int32) * v1) + (m.1 56 0 v1.toNatClampNeg)) ∧ (((3002 : Int32) * v1) + (m.1 56 0 v1.toNatClampNeg)).toNatClampNeg < 6004 then
        if 0 ≤ v1 ∧ v1.toNatClampNeg < 2 then
        if (m.1 56 0 v1.toNatClampNeg) = (m.1 55 0 v1.toNatClampNeg) then
          if 0 ≤ v1 ∧ v1.toNatClampNeg < 2 then
          if 0 ≤ v1 ∧ v1.toNatClampNeg < 2 then
          if 0 ≤ v1 ∧ v1.toNatClampNeg < 2 then
          if 0 ≤ v1 ∧ v1.toNatClampNeg < 2 then
          (f_X11_layPiece v1 (m.1 56 0 v1.toNatClampNeg) (0 : Int32) (sl_up (sl_up (sl_up (sl_up (sl_up m 58 0 (((((3002 : Int32) * v1) + (m.1 56 0 v1.toNatClampNeg)) + (1 : Int32)).toNatClampNeg) ((m.1 58 0 ((((3002 : Int32) * v1) + (m.1 56 0 v1.toNatClampNeg)).toNatClampNeg)) + (m.1 11 0 12))) 70 0 ((((3002 : Int32) * v1) + (m.1 56 0 v1.toNatClampNeg)).toNatClampNeg) (0 : Int32)) 59 0 ((((3002 : Int32) * v1) + (m.1 56 0 v1.toNatClampNeg)).toNatClampNeg) (m.1 53 0 v1.toNatClampNeg)) 54 0 v1.toNatClampNeg (m.1 53 0 v1.toNatClampNeg)) 56 0 v1.toNatClampNeg ((m.1 56 0 v1.toNatClampNeg) + (1 : Int32)))).bind (fun q1 =>
          b_X11_tickOf_180 n v1 q1.2)
          else none
          else none
          else none
          else none
        else
          if 0 ≤ v1 ∧ v1.toNatClampNeg < 2 then
          if 0 ≤ v1 ∧ v1.toNatClampNeg < 2 then
          (f_X11_layPiece v1 (m.1 56 0 v1.toNatClampNeg) (0 : Int32) (sl_up (sl_up (sl_up (sl_up m 58 0 (((((3002 : Int32) * v1) + (m.1 56 0 v1.toNatClampNeg)) + (1 : Int32)).toNatClampNeg) ((m.1 58 0 ((((3002 : Int32) * v1) + (m.1 56 0 v1.toNatClampNeg)).toNatClampNeg)) + (m.1 11 0 12))) 70 0 ((((3002 : Int32) * v1) + (m.1 56 0 v1.toNatClampNeg)).toNatClampNeg) (0 : Int32)) 59 0 ((((3002 : Int32) * v1) + (m.1 56 0 v1.toNatClampNeg)).toNatClampNeg) (m.1 53 0 v1.toNatClampNeg)) 56 0 v1.toNatClampNeg ((m.1 56 0 v1.toNatClampNeg) + (1 : Int32)))).bind (fun q2 =>
          b_X11_tickOf_180 n v1 q2.2)
          else none
          else none
        else none
        else none
        else none
        else none
        else none
      else
        if 0 ≤ ((((3002 : Int32) * v1) + (m.1 56 0 v1.toNatClampNeg)) + (1 : Int32)) ∧ ((((3002 : Int32) * v1) + (m.1 56 0 v1.toNatClampNeg)) + (1 : Int32)).toNatClampNeg < 6004 then
        if 0 ≤ (((3002 : Int32) * v1) + (m.1 56 0 v1.toNatClampNeg)) ∧ (((3002 : Int32) * v1) + (m.1 56 0 v1.toNatClampNeg)).toNatClampNeg < 6004 then
        if 0 ≤ v1 ∧ v1.toNatClampNeg < 2 then
        if 0 ≤ (((3002 : Int32) * v1) + (m.1 56 0 v1.toNatClampNeg)) ∧ (((3002 : Int32) * v1) + (m.1 56 0 v1.toNatClampNeg)).toNatClampNeg < 6004 then
        if 0 ≤ v1 ∧ v1.toNatClampNeg < 2 then
        if (m.1 56 0 v1.toNatClampNeg) = (m.1 55 0 v1.toNatClampNeg) then
          if 0 ≤ v1 ∧ v1.toNatClampNeg < 2 then
          if 0 ≤ v1 ∧ v1.toNatClampNeg < 2 then
          if 0 ≤ v1 ∧ v1.toNatClampNeg < 2 then
          if 0 ≤ v1 ∧ v1.toNatClampNeg < 2 then
          (f_X11_layPiece v1 (m.1 56 0 v1.toNatClampNeg) (0 : Int32) (sl_up (sl_up (sl_up (sl_up (sl_up m 58 0 (((((3002 : Int32) * v1) + (m.1 56 0 v1.toNatClampNeg)) + (1 : Int32)).toNatClampNeg) ((m.1 58 0 ((((3002 : Int32) * v1) + (m.1 56 0 v1.toNatClampNeg)).toNatClampNeg)) + ((m.1 51 0 v1.toNatClampNeg) - (m.1 58 0 ((((3002 : Int32) * v1) + (m.1 56 0 v1.toNatClampNeg)).toNatClampNeg))))) 70 0 ((((3002 : Int32) * v1) + (m.1 56 0 v1.toNatClampNeg)).toNatClampNeg) (0 : Int32)) 59 0 ((((3002 : Int32) * v1) + (m.1 56 0 v1.toNatClampNeg)).toNatClampNeg) (m.1 53 0 v1.toNatClampNeg)) 54 0 v1.toNatClampNeg (m.1 53 0 v1.toNatClampNeg)) 56 0 v1.toNatClampNeg ((m.1 56 0 v1.toNatClampNeg) + (1 : Int32)))).bind (fun q3 =>
          b_X11_tickOf_180 n v1 q3.2)
          else none
          else none
          else none
          else none
        else
          if 0 ≤ v1 ∧ v1.toNatClampNeg < 2 then
          if 0 ≤ v1 ∧ v1.toNatClampNeg < 2 then
          (f_X11_layPiece v1 (m.1 56 0 v1.toNatClampNeg) (0 : Int32) (sl_up (sl_up (sl_up (sl_up m 58 0 (((((3002 : Int32) * v1) + (m.1 56 0 v1.toNatClampNeg)) + (1 : Int32)).toNatClampNeg) ((m.1 58 0 ((((3002 : Int32) * v1) + (m.1 56 0 v1.toNatClampNeg)).toNatClampNeg)) + ((m.1 51 0 v1.toNatClampNeg) - (m.1 58 0 ((((3002 : Int32) * v1) + (m.1 56 0 v1.toNatClampNeg)).toNatClampNeg))))) 70 0 ((((3002 : Int32) * v1) + (m.1 56 0 v1.toNatClampNeg)).toNatClampNeg) (0 : Int32)) 59 0 ((((3002 : Int32) * v1) + (m.1 56 0 v1.toNatClampNeg)).toNatClampNeg) (m.1 53 0 v1.toNatClampNeg)) 56 0 v1.toNatClampNeg ((m.1 56 0 v1.toNatClampNeg) + (1 : Int32)))).bind (fun q4 =>
          b_X11_tickOf_180 n v1 q4.2)
          else none
          else none
        else none
        else none
        else none
        else none
        else none
      else none
      else none
      else none
      else none
    else none
    else none
    else none
  else none
  else none := by
  have h := g_X11_tickOf_180 ca_X11_tickOf n v1 m
  simp only [cq_X11_tickOf_X11_layPiece, bq_X11_tickOf_60, bq_X11_tickOf_105, bq_X11_tickOf_180] at h
  exact h

def tb_X11_ticks (p : Nat) : Option sl_E := bif Nat.ble 37 p then none else (bif Nat.ble 21 p then (bif Nat.ble 28 p then (bif Nat.ble 33 p then (bif Nat.ble 35 p then (bif Nat.ble 36 p then (bif Nat.beq p 36 then some (47, 0, 1, 1, []) else none) else (bif Nat.beq p 35 then some (7, 0, 0, 1, []) else none)) else (bif Nat.ble 34 p then (bif Nat.beq p 34 then some (0, 0, 1, 1, []) else none) else (bif Nat.beq p 33 then some (37, 0, 0, 1, []) else none))) else (bif Nat.ble 29 p then (bif Nat.ble 32 p then (bif Nat.beq p 32 then some (2, 0, 0, 1, []) else none) else (bif Nat.beq p 29 then some (35, 0, 133, 3, []) else none)) else (bif Nat.beq p 28 then some (1, 0, 0, 1, []) else none))) else (bif Nat.ble 25 p then (bif Nat.ble 26 p then (bif Nat.ble 27 p then (bif Nat.beq p 27 then some (41, 0, 0, 1, []) else none) else (bif Nat.beq p 26 then some (6, 0, 0, 1, []) else none)) else (bif Nat.beq p 25 then some (2, 1, 0, 1, []) else none)) else (bif Nat.ble 23 p then (bif Nat.ble 24 p then (bif Nat.beq p 24 then some (37, 0, 0, 1, []) else none) else (bif Nat.beq p 23 then some (20, 0, 0, 1, []) else none)) else (bif Nat.beq p 21 then some (2, 9, 0, 2, []) else none)))) else (bif Nat.ble 8 p then (bif Nat.ble 13 p then (bif Nat.ble 17 p then (bif Nat.ble 18 p then (bif Nat.beq p 18 then some (35, 0, 133, 3, []) else none) else (bif Nat.beq p 17 then some (1, 0, 0, 1, []) else none)) else (bif Nat.ble 14 p then (bif Nat.beq p 14 then some (46, 0, 180, 3, []) else none) else (bif Nat.beq p 13 then some (2, 1, 0, 1, []) else none))) else (bif Nat.ble 9 p then (bif Nat.ble 12 p then (bif Nat.beq p 12 then some (1, 0, 0, 1, []) else none) else (bif Nat.beq p 9 then some (46, 0, 180, 3, []) else none)) else (bif Nat.beq p 8 then some (2, 0, 0, 1, []) else none))) else (bif Nat.ble 5 p then (bif Nat.ble 6 p then (bif Nat.ble 7 p then (bif Nat.beq p 7 then some (1, 0, 0, 1, []) else none) else (bif Nat.beq p 6 then some (3, 0, 1, 1, []) else none)) else (bif Nat.beq p 5 then some (37, 0, 0, 1, []) else none)) else (bif Nat.ble 1 p then (bif Nat.ble 4 p then (bif Nat.beq p 4 then some (2, 0, 0, 1, []) else none) else (bif Nat.beq p 1 then some (35, 0, 133, 3, []) else none)) else (bif Nat.beq p 0 then some (1, 0, 0, 1, []) else none)))))
def ca_X11_ticks (y : Nat) (as : List sl_V) (m : sl_M) : Option (sl_PL × sl_M) := bif Nat.beq y 111 then F_X11_tickOf as m else none
def sp_X11_ticks (p : Nat) : Bool := false
def mk_X11_ticks (p : Nat) : List Bool := []
def cl_X11_ticks (p : Nat) : Option sl_C := bif Nat.ble 181 p then none else (bif Nat.beq p 180 then some (111, 2, 0, 0, 0, 12) else none)
def R_X11_ticks (ca : Nat → List sl_V → sl_M → Option (sl_PL × sl_M)) : Nat → sl_S → sl_M → Option (sl_PL × sl_M) := sl_B tb_X11_ticks fl_X11 pf_X11 cl_X11_ticks nw_X11 sl_rd sl_wr sl_al sl_ln 0 (fun _ => 0) ca sp_X11_ticks mk_X11_ticks
def F_X11_ticks (as : List sl_V) (m : sl_M) : Option (sl_PL × sl_M) := R_X11_ticks ca_X11_ticks 100000 (0, sl_lo 2 as, []) m
def f_X11_ticks  (m : sl_M) : Option (sl_PL × sl_M) := F_X11_ticks [.inr (.inl (some (11, 0)))] m
def r_X11_ticks_0 (ca : Nat → List sl_V → sl_M → Option (sl_PL × sl_M)) (n : Nat)  (m : sl_M) : Option (sl_PL × sl_M) := R_X11_ticks ca n (0, sl_lo 2 [.inr (.inl (some (11, 0)))], []) m
set_option maxRecDepth 100000 in
theorem g_X11_ticks_0 (ca : Nat → List sl_V → sl_M → Option (sl_PL × sl_M)) (n : Nat)  (m : sl_M) : r_X11_ticks_0 ca (n + 1) m =
  (ca 111 [.inr (.inl (some (11, 0))), .inl (0 : Int32)] m).bind (fun q1 =>
  (ca 111 [.inr (.inl (some (11, 0))), .inl (1 : Int32)] q1.2).bind (fun q2 =>
  some ((((q2.2.1 68 0 0) - (m.1 68 0 0)), 0, 0), (sl_up q2.2 68 0 9 ((q2.2.1 68 0 9) + (1 : Int32)))))) := by rfl
theorem cq_X11_ticks_X11_tickOf (a0 : Int32) (m : sl_M) : ca_X11_ticks 111 [.inr (.inl (some (11, 0))), .inl a0] m = f_X11_tickOf a0 m := by
  unfold ca_X11_ticks f_X11_tickOf
  rw [show Nat.beq 111 111 = true from rfl, cond_true]
theorem e_X11_ticks  (m : sl_M) : f_X11_ticks m =
  (f_X11_tickOf (0 : Int32) m).bind (fun q1 =>
  (f_X11_tickOf (1 : Int32) q1.2).bind (fun q2 =>
  some ((((q2.2.1 68 0 0) - (m.1 68 0 0)), 0, 0), (sl_up q2.2 68 0 9 ((q2.2.1 68 0 9) + (1 : Int32)))))) := by
  have h := g_X11_ticks_0 ca_X11_ticks 99999 m
  simp only [cq_X11_ticks_X11_tickOf] at h
  exact h

def tb_X11_tick (p : Nat) : Option sl_E := bif Nat.ble 10 p then none else (bif Nat.ble 5 p then (bif Nat.ble 6 p then (bif Nat.ble 9 p then (bif Nat.beq p 9 then some (47, 0, 1, 1, []) else none) else (bif Nat.beq p 6 then some (46, 0, 184, 3, []) else none)) else (bif Nat.beq p 5 then some (1, 0, 0, 1, []) else none)) else (bif Nat.ble 1 p then (bif Nat.ble 2 p then (bif Nat.beq p 2 then some (36, 0, 7, 3, []) else none) else (bif Nat.beq p 1 then some (2, 0, 0, 1, []) else none)) else (bif Nat.beq p 0 then some (1, 0, 0, 1, []) else none)))
def ca_X11_tick (y : Nat) (as : List sl_V) (m : sl_M) : Option (sl_PL × sl_M) := bif Nat.beq y 112 then F_X11_ticks as m else none
def sp_X11_tick (p : Nat) : Bool := false
def mk_X11_tick (p : Nat) : List Bool := []
def cl_X11_tick (p : Nat) : Option sl_C := bif Nat.ble 185 p then none else (bif Nat.beq p 184 then some (112, 1, 1, 0, 0, 12) else none)
def R_X11_tick (ca : Nat → List sl_V → sl_M → Option (sl_PL × sl_M)) : Nat → sl_S → sl_M → Option (sl_PL × sl_M) := sl_B tb_X11_tick fl_X11 pf_X11 cl_X11_tick nw_X11 sl_rd sl_wr sl_al sl_ln 0 (fun _ => 0) ca sp_X11_tick mk_X11_tick
def F_X11_tick (as : List sl_V) (m : sl_M) : Option (sl_PL × sl_M) := R_X11_tick ca_X11_tick 100000 (0, sl_lo 1 as, []) m
def f_X11_tick  (m : sl_M) : Option (sl_PL × sl_M) := F_X11_tick [.inr (.inl (some (11, 0)))] m
def r_X11_tick_0 (ca : Nat → List sl_V → sl_M → Option (sl_PL × sl_M)) (n : Nat)  (m : sl_M) : Option (sl_PL × sl_M) := R_X11_tick ca n (0, sl_lo 1 [.inr (.inl (some (11, 0)))], []) m
set_option maxRecDepth 100000 in
theorem g_X11_tick_0 (ca : Nat → List sl_V → sl_M → Option (sl_PL × sl_M)) (n : Nat)  (m : sl_M) : r_X11_tick_0 ca (n + 1) m =
  (ca 112 [.inr (.inl (some (11, 0)))] (sl_up m 11 0 0 (0 : Int32))).bind (fun q1 =>
  some ((q1.1.1, 0, 0), q1.2)) := by rfl
theorem cq_X11_tick_X11_ticks  (m : sl_M) : ca_X11_tick 112 [.inr (.inl (some (11, 0)))] m = f_X11_ticks m := by
  unfold ca_X11_tick f_X11_ticks
  rw [show Nat.beq 112 112 = true from rfl, cond_true]
theorem e_X11_tick  (m : sl_M) : f_X11_tick m =
  (f_X11_ticks (sl_up m 11 0 0 (0 : Int32))).bind (fun q1 =>
  some ((q1.1.1, 0, 0), q1.2)) := by
  have h := g_X11_tick_0 ca_X11_tick 99999 m
  simp only [cq_X11_tick_X11_ticks] at h
  exact h

def tb_X11_wrong (p : Nat) : Option sl_E := bif Nat.ble 25 p then none else (bif Nat.ble 12 p then (bif Nat.ble 20 p then (bif Nat.ble 22 p then (bif Nat.ble 23 p then (bif Nat.ble 24 p then (bif Nat.beq p 24 then some (50, 0, 0, 1, []) else none) else (bif Nat.beq p 23 then some (41, 0, 0, 1, []) else none)) else (bif Nat.beq p 22 then some (6, 0, 0, 1, []) else none)) else (bif Nat.ble 21 p then (bif Nat.beq p 21 then some (2, 1, 0, 1, []) else none) else (bif Nat.beq p 20 then some (37, 0, 0, 1, []) else none))) else (bif Nat.ble 17 p then (bif Nat.ble 18 p then (bif Nat.ble 19 p then (bif Nat.beq p 19 then some (20, 0, 0, 1, []) else none) else (bif Nat.beq p 18 then some (6, 0, 0, 1, []) else none)) else (bif Nat.beq p 17 then some (0, 0, 1, 1, []) else none)) else (bif Nat.ble 15 p then (bif Nat.beq p 15 then some (2, 10, 0, 2, []) else none) else (bif Nat.beq p 12 then some (35, 0, 133, 3, []) else none)))) else (bif Nat.ble 7 p then (bif Nat.ble 9 p then (bif Nat.ble 10 p then (bif Nat.ble 11 p then (bif Nat.beq p 11 then some (1, 0, 0, 1, []) else none) else (bif Nat.beq p 10 then some (41, 0, 0, 1, []) else none)) else (bif Nat.beq p 9 then some (6, 0, 0, 1, []) else none)) else (bif Nat.ble 8 p then (bif Nat.beq p 8 then some (2, 1, 0, 1, []) else none) else (bif Nat.beq p 7 then some (37, 0, 0, 1, []) else none))) else (bif Nat.ble 4 p then (bif Nat.ble 6 p then (bif Nat.beq p 6 then some (20, 0, 0, 1, []) else none) else (bif Nat.beq p 4 then some (2, 7, 0, 2, []) else none)) else (bif Nat.ble 1 p then (bif Nat.beq p 1 then some (35, 0, 133, 3, []) else none) else (bif Nat.beq p 0 then some (1, 0, 0, 1, []) else none)))))
def ca_X11_wrong (y : Nat) (as : List sl_V) (m : sl_M) : Option (sl_PL × sl_M) := none
def sp_X11_wrong (p : Nat) : Bool := false
def mk_X11_wrong (p : Nat) : List Bool := []
def cl_X11_wrong (p : Nat) : Option sl_C := none
def R_X11_wrong (ca : Nat → List sl_V → sl_M → Option (sl_PL × sl_M)) : Nat → sl_S → sl_M → Option (sl_PL × sl_M) := sl_B tb_X11_wrong fl_X11 pf_X11 cl_X11_wrong nw_X11 sl_rd sl_wr sl_al sl_ln 0 (fun _ => 0) ca sp_X11_wrong mk_X11_wrong
def F_X11_wrong (as : List sl_V) (m : sl_M) : Option (sl_PL × sl_M) := R_X11_wrong ca_X11_wrong 100000 (0, sl_lo 2 as, []) m
def f_X11_wrong (a0 : Int32) (m : sl_M) : Option (sl_PL × sl_M) := F_X11_wrong [.inr (.inl (some (11, 0))), .inl a0] m
def r_X11_wrong_0 (ca : Nat → List sl_V → sl_M → Option (sl_PL × sl_M)) (n : Nat) (a0 : Int32) (m : sl_M) : Option (sl_PL × sl_M) := R_X11_wrong ca n (0, sl_lo 2 [.inr (.inl (some (11, 0))), .inl a0], []) m
set_option maxRecDepth 100000 in
theorem g_X11_wrong_0 (ca : Nat → List sl_V → sl_M → Option (sl_PL × sl_M)) (n : Nat) (a0 : Int32) (m : sl_M) : r_X11_wrong_0 ca (n + 1) a0 m =
  if 0 ≤ ((10 : Int32) + a0) ∧ ((10 : Int32) + a0).toNatClampNeg < 16 then
  if 0 ≤ ((10 : Int32) + a0) ∧ ((10 : Int32) + a0).toNatClampNeg < 16 then
  some ((0, 0, 0), (sl_up (sl_up m 68 0 7 ((m.1 68 0 7) + (1 : Int32))) 68 0 (((10 : Int32) + a0).toNatClampNeg) (((sl_up m 68 0 7 ((m.1 68 0 7) + (1 : Int32))).1 68 0 (((10 : Int32) + a0).toNatClampNeg)) + (1 : Int32))))
  else none
  else none := by rfl
theorem e_X11_wrong (a0 : Int32) (m : sl_M) : f_X11_wrong a0 m =
  if 0 ≤ ((10 : Int32) + a0) ∧ ((10 : Int32) + a0).toNatClampNeg < 16 then
  if 0 ≤ ((10 : Int32) + a0) ∧ ((10 : Int32) + a0).toNatClampNeg < 16 then
  some ((0, 0, 0), (sl_up (sl_up m 68 0 7 ((m.1 68 0 7) + (1 : Int32))) 68 0 (((10 : Int32) + a0).toNatClampNeg) (((sl_up m 68 0 7 ((m.1 68 0 7) + (1 : Int32))).1 68 0 (((10 : Int32) + a0).toNatClampNeg)) + (1 : Int32))))
  else none
  else none := by
  have h := g_X11_wrong_0 ca_X11_wrong 99999 a0 m
  exact h

def tb_X11_getsAll (p : Nat) : Option sl_E := bif Nat.ble 82 p then none else (bif Nat.ble 45 p then (bif Nat.ble 65 p then (bif Nat.ble 75 p then (bif Nat.ble 78 p then (bif Nat.ble 80 p then (bif Nat.ble 81 p then (bif Nat.beq p 81 then some (47, 0, 2, 1, []) else none) else (bif Nat.beq p 80 then some (2, 1, 0, 1, []) else none)) else (bif Nat.ble 79 p then (bif Nat.beq p 79 then some (41, 0, 0, 1, []) else none) else (bif Nat.beq p 78 then some (6, 0, 0, 1, []) else none))) else (bif Nat.ble 76 p then (bif Nat.ble 77 p then (bif Nat.beq p 77 then some (2, 1, 0, 1, []) else none) else (bif Nat.beq p 76 then some (37, 0, 0, 1, []) else none)) else (bif Nat.beq p 75 then some (20, 0, 0, 1, []) else none))) else (bif Nat.ble 69 p then (bif Nat.ble 71 p then (bif Nat.ble 74 p then (bif Nat.beq p 74 then some (0, 0, 1, 1, []) else none) else (bif Nat.beq p 71 then some (35, 0, 78, 3, []) else none)) else (bif Nat.ble 70 p then (bif Nat.beq p 70 then some (1, 0, 0, 1, []) else none) else (bif Nat.beq p 69 then some (41, 0, 0, 1, []) else none))) else (bif Nat.ble 66 p then (bif Nat.ble 68 p then (bif Nat.beq p 68 then some (6, 0, 0, 1, []) else none) else (bif Nat.beq p 66 then some (0, 0, 4, 2, []) else none)) else (bif Nat.beq p 65 then some (37, 0, 0, 1, []) else none)))) else (bif Nat.ble 52 p then (bif Nat.ble 59 p then (bif Nat.ble 63 p then (bif Nat.ble 64 p then (bif Nat.beq p 64 then some (20, 0, 0, 1, []) else none) else (bif Nat.beq p 63 then some (0, 0, 1, 1, []) else none)) else (bif Nat.ble 60 p then (bif Nat.beq p 60 then some (35, 0, 63, 3, []) else none) else (bif Nat.beq p 59 then some (1, 0, 0, 1, []) else none))) else (bif Nat.ble 53 p then (bif Nat.ble 56 p then (bif Nat.beq p 56 then some (34, 0, 20, 3, []) else none) else (bif Nat.beq p 53 then some (5, 1, 5, 3, []) else none)) else (bif Nat.beq p 52 then some (42, 0, 0, 1, []) else none))) else (bif Nat.ble 48 p then (bif Nat.ble 50 p then (bif Nat.ble 51 p then (bif Nat.beq p 51 then some (38, 0, 0, 1, []) else none) else (bif Nat.beq p 50 then some (6, 0, 0, 1, []) else none)) else (bif Nat.beq p 48 then some (0, 0, 5, 2, []) else none)) else (bif Nat.ble 46 p then (bif Nat.ble 47 p then (bif Nat.beq p 47 then some (0, 0, 3, 1, []) else none) else (bif Nat.beq p 46 then some (1, 0, 2, 1, []) else none)) else (bif Nat.beq p 45 then some (6, 0, 0, 1, []) else none))))) else (bif Nat.ble 22 p then (bif Nat.ble 35 p then (bif Nat.ble 40 p then (bif Nat.ble 42 p then (bif Nat.ble 43 p then (bif Nat.beq p 43 then some (0, 0, 5, 2, []) else none) else (bif Nat.beq p 42 then some (6, 0, 0, 1, []) else none)) else (bif Nat.ble 41 p then (bif Nat.beq p 41 then some (37, 0, 0, 1, []) else none) else (bif Nat.beq p 40 then some (0, 0, 1, 1, []) else none))) else (bif Nat.ble 36 p then (bif Nat.ble 37 p then (bif Nat.beq p 37 then some (35, 0, 63, 3, []) else none) else (bif Nat.beq p 36 then some (1, 0, 0, 1, []) else none)) else (bif Nat.beq p 35 then some (8, 0, 0, 1, []) else none))) else (bif Nat.ble 28 p then (bif Nat.ble 31 p then (bif Nat.ble 34 p then (bif Nat.beq p 34 then some (0, 0, 1, 1, []) else none) else (bif Nat.beq p 31 then some (2, 3000, 0, 3, []) else none)) else (bif Nat.beq p 28 then some (35, 0, 57, 3, []) else none)) else (bif Nat.ble 24 p then (bif Nat.ble 27 p then (bif Nat.beq p 27 then some (1, 0, 0, 1, []) else none) else (bif Nat.beq p 24 then some (25, 0, 59, 3, []) else none)) else (bif Nat.beq p 22 then some (0, 0, 4, 2, []) else none)))) else (bif Nat.ble 9 p then (bif Nat.ble 16 p then (bif Nat.ble 18 p then (bif Nat.ble 20 p then (bif Nat.beq p 20 then some (0, 0, 5, 2, []) else none) else (bif Nat.beq p 18 then some (3, 0, 5, 2, []) else none)) else (bif Nat.ble 17 p then (bif Nat.beq p 17 then some (2, 0, 0, 1, []) else none) else (bif Nat.beq p 16 then some (47, 0, 2, 1, []) else none))) else (bif Nat.ble 12 p then (bif Nat.ble 15 p then (bif Nat.beq p 15 then some (2, 0, 0, 1, []) else none) else (bif Nat.beq p 12 then some (27, 0, 17, 3, []) else none)) else (bif Nat.beq p 9 then some (2, 3000, 0, 3, []) else none))) else (bif Nat.ble 5 p then (bif Nat.ble 6 p then (bif Nat.ble 8 p then (bif Nat.beq p 8 then some (6, 0, 0, 1, []) else none) else (bif Nat.beq p 6 then some (0, 0, 4, 2, []) else none)) else (bif Nat.beq p 5 then some (37, 0, 0, 1, []) else none)) else (bif Nat.ble 1 p then (bif Nat.ble 4 p then (bif Nat.beq p 4 then some (0, 0, 1, 1, []) else none) else (bif Nat.beq p 1 then some (35, 0, 63, 3, []) else none)) else (bif Nat.beq p 0 then some (1, 0, 0, 1, []) else none))))))
def ca_X11_getsAll (y : Nat) (as : List sl_V) (m : sl_M) : Option (sl_PL × sl_M) := none
def sp_X11_getsAll (p : Nat) : Bool := Nat.beq p 20
def mk_X11_getsAll (p : Nat) : List Bool := bif Nat.beq p 20 then [true, true, true, true, true, true] else []
def cl_X11_getsAll (p : Nat) : Option sl_C := none
def R_X11_getsAll (ca : Nat → List sl_V → sl_M → Option (sl_PL × sl_M)) : Nat → sl_S → sl_M → Option (sl_PL × sl_M) := sl_B tb_X11_getsAll fl_X11 pf_X11 cl_X11_getsAll nw_X11 sl_rd sl_wr sl_al sl_ln 0 (fun _ => 0) ca sp_X11_getsAll mk_X11_getsAll
def F_X11_getsAll (as : List sl_V) (m : sl_M) : Option (sl_PL × sl_M) := R_X11_getsAll ca_X11_getsAll 100000 (0, sl_lo 6 as, []) m
def f_X11_getsAll (a0 : Int32) (a1 : Nat) (a2 : Int32) (a3 : Int32) (m : sl_M) : Option (sl_PL × sl_M) := F_X11_getsAll [.inr (.inl (some (11, 0))), .inl a0, .inr (.inl (some (30, a1))), .inl a2, .inl a3] m
def r_X11_getsAll_0 (ca : Nat → List sl_V → sl_M → Option (sl_PL × sl_M)) (n : Nat) (a0 : Int32) (a1 : Nat) (a2 : Int32) (a3 : Int32) (m : sl_M) : Option (sl_PL × sl_M) := R_X11_getsAll ca n (0, sl_lo 6 [.inr (.inl (some (11, 0))), .inl a0, .inr (.inl (some (30, a1))), .inl a2, .inl a3], []) m
def r_X11_getsAll_20 (ca : Nat → List sl_V → sl_M → Option (sl_PL × sl_M)) (n : Nat) (v1 : Int32) (v2 : Nat) (v3 : Int32) (v4 : Int32) (v5 : Int32) (m : sl_M) : Option (sl_PL × sl_M) := R_X11_getsAll ca n (20, [some (.inr (.inl (some (11, 0)))), some (.inl v1), some (.inr (.inl (some (30, v2)))), some (.inl v3), some (.inl v4), some (.inl v5)], []) m
def b_X11_getsAll_20 (n : Nat) (v1 : Int32) (v2 : Nat) (v3 : Int32) (v4 : Int32) (v5 : Int32) (m : sl_M) : Option (sl_PL × sl_M) := r_X11_getsAll_20 ca_X11_getsAll n v1 v2 v3 v4 v5 m
set_option maxRecDepth 100000 in
theorem g_X11_getsAll_0 (ca : Nat → List sl_V → sl_M → Option (sl_PL × sl_M)) (n : Nat) (a0 : Int32) (a1 : Nat) (a2 : Int32) (a3 : Int32) (m : sl_M) : r_X11_getsAll_0 ca (n + 1) a0 a1 a2 a3 m =
  if 0 ≤ a0 ∧ a0.toNatClampNeg < 2 then
  if ((m.1 52 0 a0.toNatClampNeg) + a3) ≤ (3000 : Int32) then
    r_X11_getsAll_20 ca n a0 a1 a2 a3 (0 : Int32) m
  else
    some (((0 : Int32), 0, 0), m)
  else none := by rfl
set_option maxRecDepth 100000 in
theorem g_X11_getsAll_20 (ca : Nat → List sl_V → sl_M → Option (sl_PL × sl_M)) (n : Nat) (v1 : Int32) (v2 : Nat) (v3 : Int32) (v4 : Int32) (v5 : Int32) (m : sl_M) : r_X11_getsAll_20 ca (n + 1) v1 v2 v3 v4 v5 m =
  if v4 ≤ v5 then
    if 0 ≤ v1 ∧ v1.toNatClampNeg < 2 then
    if 0 ≤ v1 ∧ v1.toNatClampNeg < 2 then
    if 0 ≤ v1 ∧ v1.toNatClampNeg < 2 then
    if 0 ≤ v1 ∧ v1.toNatClampNeg < 2 then
    some (((1 : Int32), 0, 0), (sl_up (sl_up m 52 0 v1.toNatClampNeg ((m.1 52 0 v1.toNatClampNeg) + v4)) 57 0 v1.toNatClampNeg ((m.1 57 0 v1.toNatClampNeg) + (1 : Int32))))
    else none
    else none
    else none
    else none
  else
    if 0 ≤ v1 ∧ v1.toNatClampNeg < 2 then
    if 0 ≤ (v3 + v5) ∧ (v3 + v5).toNatClampNeg < sl_lb v2 then
    if 0 ≤ ((((3000 : Int32) * v1) + (m.1 52 0 v1.toNatClampNeg)) + v5) ∧ ((((3000 : Int32) * v1) + (m.1 52 0 v1.toNatClampNeg)) + v5).toNatClampNeg < 6000 then
    r_X11_getsAll_20 ca n v1 v2 v3 v4 (v5 + (1 : Int32)) (sl_up m 30 4 (((((3000 : Int32) * v1) + (m.1 52 0 v1.toNatClampNeg)) + v5).toNatClampNeg) (sl_sx (m.1 30 v2 ((v3 + v5).toNatClampNeg))))
    else none
    else none
    else none := by rfl
theorem bq_X11_getsAll_20 (n : Nat) (v1 : Int32) (v2 : Nat) (v3 : Int32) (v4 : Int32) (v5 : Int32) (m : sl_M) : r_X11_getsAll_20 ca_X11_getsAll n v1 v2 v3 v4 v5 m = b_X11_getsAll_20 n v1 v2 v3 v4 v5 m := rfl
theorem e_X11_getsAll (a0 : Int32) (a1 : Nat) (a2 : Int32) (a3 : Int32) (m : sl_M) : f_X11_getsAll a0 a1 a2 a3 m =
  if 0 ≤ a0 ∧ a0.toNatClampNeg < 2 then
  if ((m.1 52 0 a0.toNatClampNeg) + a3) ≤ (3000 : Int32) then
    b_X11_getsAll_20 99999 a0 a1 a2 a3 (0 : Int32) m
  else
    some (((0 : Int32), 0, 0), m)
  else none := by
  have h := g_X11_getsAll_0 ca_X11_getsAll 99999 a0 a1 a2 a3 m
  simp only [bq_X11_getsAll_20] at h
  exact h
theorem e_X11_getsAll_20 (n : Nat) (v1 : Int32) (v2 : Nat) (v3 : Int32) (v4 : Int32) (v5 : Int32) (m : sl_M) : b_X11_getsAll_20 (n + 1) v1 v2 v3 v4 v5 m =
  if v4 ≤ v5 then
    if 0 ≤ v1 ∧ v1.toNatClampNeg < 2 then
    if 0 ≤ v1 ∧ v1.toNatClampNeg < 2 then
    if 0 ≤ v1 ∧ v1.toNatClampNeg < 2 then
    if 0 ≤ v1 ∧ v1.toNatClampNeg < 2 then
    some (((1 : Int32), 0, 0), (sl_up (sl_up m 52 0 v1.toNatClampNeg ((m.1 52 0 v1.toNatClampNeg) + v4)) 57 0 v1.toNatClampNeg ((m.1 57 0 v1.toNatClampNeg) + (1 : Int32))))
    else none
    else none
    else none
    else none
  else
    if 0 ≤ v1 ∧ v1.toNatClampNeg < 2 then
    if 0 ≤ (v3 + v5) ∧ (v3 + v5).toNatClampNeg < sl_lb v2 then
    if 0 ≤ ((((3000 : Int32) * v1) + (m.1 52 0 v1.toNatClampNeg)) + v5) ∧ ((((3000 : Int32) * v1) + (m.1 52 0 v1.toNatClampNeg)) + v5).toNatClampNeg < 6000 then
    b_X11_getsAll_20 n v1 v2 v3 v4 (v5 + (1 : Int32)) (sl_up m 30 4 (((((3000 : Int32) * v1) + (m.1 52 0 v1.toNatClampNeg)) + v5).toNatClampNeg) (sl_sx (m.1 30 v2 ((v3 + v5).toNatClampNeg))))
    else none
    else none
    else none := by
  have h := g_X11_getsAll_20 ca_X11_getsAll n v1 v2 v3 v4 v5 m
  simp only [bq_X11_getsAll_20] at h
  exact h

def tb_X11_inOrder (p : Nat) : Option sl_E := bif Nat.ble 94 p then none else (bif Nat.ble 48 p then (bif Nat.ble 68 p then (bif Nat.ble 80 p then (bif Nat.ble 88 p then (bif Nat.ble 90 p then (bif Nat.ble 93 p then (bif Nat.beq p 93 then some (50, 0, 0, 1, []) else none) else (bif Nat.beq p 90 then some (46, 0, 204, 3, []) else none)) else (bif Nat.ble 89 p then (bif Nat.beq p 89 then some (0, 0, 1, 1, []) else none) else (bif Nat.beq p 88 then some (1, 0, 0, 1, []) else none))) else (bif Nat.ble 83 p then (bif Nat.ble 85 p then (bif Nat.beq p 85 then some (28, 0, 93, 3, []) else none) else (bif Nat.beq p 83 then some (0, 0, 5, 2, []) else none)) else (bif Nat.beq p 80 then some (28, 0, 88, 3, []) else none))) else (bif Nat.ble 73 p then (bif Nat.ble 77 p then (bif Nat.ble 78 p then (bif Nat.beq p 78 then some (0, 0, 4, 2, []) else none) else (bif Nat.beq p 77 then some (21, 0, 0, 1, []) else none)) else (bif Nat.ble 74 p then (bif Nat.beq p 74 then some (46, 0, 200, 3, []) else none) else (bif Nat.beq p 73 then some (0, 0, 3, 1, []) else none))) else (bif Nat.ble 69 p then (bif Nat.ble 72 p then (bif Nat.beq p 72 then some (2, 1, 0, 1, []) else none) else (bif Nat.beq p 69 then some (35, 0, 139, 3, []) else none)) else (bif Nat.beq p 68 then some (1, 0, 0, 1, []) else none)))) else (bif Nat.ble 59 p then (bif Nat.ble 62 p then (bif Nat.ble 66 p then (bif Nat.ble 67 p then (bif Nat.beq p 67 then some (0, 0, 1, 1, []) else none) else (bif Nat.beq p 66 then some (1, 0, 0, 1, []) else none)) else (bif Nat.ble 63 p then (bif Nat.beq p 63 then some (34, 0, 78, 3, []) else none) else (bif Nat.beq p 62 then some (41, 0, 0, 1, []) else none))) else (bif Nat.ble 60 p then (bif Nat.ble 61 p then (bif Nat.beq p 61 then some (6, 0, 0, 1, []) else none) else (bif Nat.beq p 60 then some (2, 1, 0, 1, []) else none)) else (bif Nat.beq p 59 then some (37, 0, 0, 1, []) else none))) else (bif Nat.ble 54 p then (bif Nat.ble 57 p then (bif Nat.ble 58 p then (bif Nat.beq p 58 then some (20, 0, 0, 1, []) else none) else (bif Nat.beq p 57 then some (2, 5, 0, 1, []) else none)) else (bif Nat.beq p 54 then some (35, 0, 133, 3, []) else none)) else (bif Nat.ble 50 p then (bif Nat.ble 53 p then (bif Nat.beq p 53 then some (1, 0, 0, 1, []) else none) else (bif Nat.beq p 50 then some (29, 0, 66, 3, []) else none)) else (bif Nat.beq p 48 then some (0, 0, 5, 2, []) else none))))) else (bif Nat.ble 22 p then (bif Nat.ble 33 p then (bif Nat.ble 40 p then (bif Nat.ble 43 p then (bif Nat.ble 45 p then (bif Nat.beq p 45 then some (28, 0, 53, 3, []) else none) else (bif Nat.beq p 43 then some (0, 0, 4, 2, []) else none)) else (bif Nat.ble 41 p then (bif Nat.beq p 41 then some (3, 0, 5, 2, []) else none) else (bif Nat.beq p 40 then some (2, 0, 0, 1, []) else none))) else (bif Nat.ble 36 p then (bif Nat.ble 37 p then (bif Nat.beq p 37 then some (34, 0, 41, 3, []) else none) else (bif Nat.beq p 36 then some (2, 1, 0, 1, []) else none)) else (bif Nat.beq p 33 then some (26, 0, 40, 3, []) else none))) else (bif Nat.ble 27 p then (bif Nat.ble 29 p then (bif Nat.ble 30 p then (bif Nat.beq p 30 then some (2, 3000, 0, 3, []) else none) else (bif Nat.beq p 29 then some (6, 0, 0, 1, []) else none)) else (bif Nat.ble 28 p then (bif Nat.beq p 28 then some (0, 0, 3, 1, []) else none) else (bif Nat.beq p 27 then some (37, 0, 0, 1, []) else none))) else (bif Nat.ble 23 p then (bif Nat.ble 26 p then (bif Nat.beq p 26 then some (0, 0, 1, 1, []) else none) else (bif Nat.beq p 23 then some (35, 0, 63, 3, []) else none)) else (bif Nat.beq p 22 then some (1, 0, 0, 1, []) else none)))) else (bif Nat.ble 8 p then (bif Nat.ble 15 p then (bif Nat.ble 19 p then (bif Nat.ble 20 p then (bif Nat.beq p 20 then some (3, 0, 4, 2, []) else none) else (bif Nat.beq p 19 then some (2, 0, 0, 1, []) else none)) else (bif Nat.ble 16 p then (bif Nat.beq p 16 then some (34, 0, 20, 3, []) else none) else (bif Nat.beq p 15 then some (2, 1, 0, 1, []) else none))) else (bif Nat.ble 11 p then (bif Nat.ble 12 p then (bif Nat.beq p 12 then some (23, 0, 19, 3, []) else none) else (bif Nat.beq p 11 then some (10, 0, 0, 1, []) else none)) else (bif Nat.beq p 8 then some (35, 0, 42, 3, []) else none))) else (bif Nat.ble 5 p then (bif Nat.ble 6 p then (bif Nat.ble 7 p then (bif Nat.beq p 7 then some (1, 0, 0, 1, []) else none) else (bif Nat.beq p 6 then some (37, 0, 0, 1, []) else none)) else (bif Nat.beq p 5 then some (0, 0, 1, 1, []) else none)) else (bif Nat.ble 1 p then (bif Nat.ble 2 p then (bif Nat.beq p 2 then some (35, 0, 78, 3, []) else none) else (bif Nat.beq p 1 then some (1, 0, 0, 1, []) else none)) else (bif Nat.beq p 0 then some (0, 0, 2, 1, []) else none))))))
def ca_X11_inOrder (y : Nat) (as : List sl_V) (m : sl_M) : Option (sl_PL × sl_M) := bif Nat.ble 116 y then (bif Nat.beq y 116 then F_X11_getsAll as m else none) else (bif Nat.beq y 110 then F_X11_layKnown as m else none)
def sp_X11_inOrder (p : Nat) : Bool := false
def mk_X11_inOrder (p : Nat) : List Bool := []
def cl_X11_inOrder (p : Nat) : Option sl_C := bif Nat.ble 205 p then none else (bif Nat.ble 204 p then (bif Nat.beq p 204 then some (110, 2, 0, 0, 0, 12) else none) else (bif Nat.beq p 200 then some (116, 5, 1, 0, 0, 12) else none))
def R_X11_inOrder (ca : Nat → List sl_V → sl_M → Option (sl_PL × sl_M)) : Nat → sl_S → sl_M → Option (sl_PL × sl_M) := sl_B tb_X11_inOrder fl_X11 pf_X11 cl_X11_inOrder nw_X11 sl_rd sl_wr sl_al sl_ln 0 (fun _ => 0) ca sp_X11_inOrder mk_X11_inOrder
def F_X11_inOrder (as : List sl_V) (m : sl_M) : Option (sl_PL × sl_M) := R_X11_inOrder ca_X11_inOrder 100000 (0, sl_lo 6 as, []) m
def f_X11_inOrder (a0 : Int32) (a1 : Int32) (a2 : Int32) (m : sl_M) : Option (sl_PL × sl_M) := F_X11_inOrder [.inr (.inl (some (11, 0))), .inl a0, .inl a1, .inl a2] m
def r_X11_inOrder_0 (ca : Nat → List sl_V → sl_M → Option (sl_PL × sl_M)) (n : Nat) (a0 : Int32) (a1 : Int32) (a2 : Int32) (m : sl_M) : Option (sl_PL × sl_M) := R_X11_inOrder ca n (0, sl_lo 6 [.inr (.inl (some (11, 0))), .inl a0, .inl a1, .inl a2], []) m
set_option maxRecDepth 100000 in
theorem g_X11_inOrder_0 (ca : Nat → List sl_V → sl_M → Option (sl_PL × sl_M)) (n : Nat) (a0 : Int32) (a1 : Int32) (a2 : Int32) (m : sl_M) : r_X11_inOrder_0 ca (n + 1) a0 a1 a2 m =
  if 0 ≤ a0 ∧ a0.toNatClampNeg < 2 then
  if (m.1 11 0 10) = 0 then none else
  if a1 = ((m.1 57 0 a0.toNatClampNeg) - (m.1 57 0 a0.toNatClampNeg) / (m.1 11 0 10) * (m.1 11 0 10)) then
      if 0 ≤ a0 ∧ a0.toNatClampNeg < 2 then
      if (3000 : Int32) < ((m.1 52 0 a0.toNatClampNeg) + a2) then
        some ((0, 0, 0), (sl_up m 68 0 5 ((m.1 68 0 5) + (1 : Int32))))
      else
        (ca 116 [.inr (.inl (some (11, 0))), .inl a0, .inr (.inl (some (30, 9))), .inl (1 : Int32), .inl a2] m).bind (fun q1 =>
        (ca 110 [.inr (.inl (some (11, 0))), .inl a0] q1.2).bind (fun q2 =>
        some ((0, 0, 0), q2.2)))
      else none
    else
      if 0 ≤ a0 ∧ a0.toNatClampNeg < 2 then
      if (3000 : Int32) < ((m.1 52 0 a0.toNatClampNeg) + a2) then
        (ca 110 [.inr (.inl (some (11, 0))), .inl a0] (sl_up m 68 0 5 ((m.1 68 0 5) + (1 : Int32)))).bind (fun q3 =>
        some ((0, 0, 0), q3.2))
      else
        (ca 110 [.inr (.inl (some (11, 0))), .inl a0] (sl_up m 68 0 5 ((m.1 68 0 5) + (1 : Int32)))).bind (fun q4 =>
        some ((0, 0, 0), q4.2))
      else none
  else none := by rfl
theorem cq_X11_inOrder_X11_layKnown (a0 : Int32) (m : sl_M) : ca_X11_inOrder 110 [.inr (.inl (some (11, 0))), .inl a0] m = f_X11_layKnown a0 m := by
  unfold ca_X11_inOrder f_X11_layKnown
  rw [show Nat.ble 116 110 = false from rfl, cond_false, show Nat.beq 110 110 = true from rfl, cond_true]
theorem cq_X11_inOrder_X11_getsAll (a0 : Int32) (a1 : Nat) (a2 : Int32) (a3 : Int32) (m : sl_M) : ca_X11_inOrder 116 [.inr (.inl (some (11, 0))), .inl a0, .inr (.inl (some (30, a1))), .inl a2, .inl a3] m = f_X11_getsAll a0 a1 a2 a3 m := by
  unfold ca_X11_inOrder f_X11_getsAll
  rw [show Nat.ble 116 116 = true from rfl, cond_true, show Nat.beq 116 116 = true from rfl, cond_true]
theorem e_X11_inOrder (a0 : Int32) (a1 : Int32) (a2 : Int32) (m : sl_M) : f_X11_inOrder a0 a1 a2 m =
  if 0 ≤ a0 ∧ a0.toNatClampNeg < 2 then
  if (m.1 11 0 10) = 0 then none else
  if a1 = ((m.1 57 0 a0.toNatClampNeg) - (m.1 57 0 a0.toNatClampNeg) / (m.1 11 0 10) * (m.1 11 0 10)) then
      if 0 ≤ a0 ∧ a0.toNatClampNeg < 2 then
      if (3000 : Int32) < ((m.1 52 0 a0.toNatClampNeg) + a2) then
        some ((0, 0, 0), (sl_up m 68 0 5 ((m.1 68 0 5) + (1 : Int32))))
      else
        (f_X11_getsAll a0 9 (1 : Int32) a2 m).bind (fun q1 =>
        (f_X11_layKnown a0 q1.2).bind (fun q2 =>
        some ((0, 0, 0), q2.2)))
      else none
    else
      if 0 ≤ a0 ∧ a0.toNatClampNeg < 2 then
      if (3000 : Int32) < ((m.1 52 0 a0.toNatClampNeg) + a2) then
        (f_X11_layKnown a0 (sl_up m 68 0 5 ((m.1 68 0 5) + (1 : Int32)))).bind (fun q3 =>
        some ((0, 0, 0), q3.2))
      else
        (f_X11_layKnown a0 (sl_up m 68 0 5 ((m.1 68 0 5) + (1 : Int32)))).bind (fun q4 =>
        some ((0, 0, 0), q4.2))
      else none
  else none := by
  have h := g_X11_inOrder_0 ca_X11_inOrder 99999 a0 a1 a2 m
  simp only [cq_X11_inOrder_X11_layKnown, cq_X11_inOrder_X11_getsAll] at h
  exact h

def tb_X11_byItself (p : Nat) : Option sl_E := bif Nat.ble 207 p then none else (bif Nat.ble 99 p then (bif Nat.ble 150 p then (bif Nat.ble 178 p then (bif Nat.ble 194 p then (bif Nat.ble 201 p then (bif Nat.ble 203 p then (bif Nat.ble 206 p then (bif Nat.beq p 206 then some (50, 0, 0, 1, []) else none) else (bif Nat.beq p 203 then some (46, 0, 204, 3, []) else none)) else (bif Nat.ble 202 p then (bif Nat.beq p 202 then some (0, 0, 1, 1, []) else none) else (bif Nat.beq p 201 then some (1, 0, 0, 1, []) else none))) else (bif Nat.ble 197 p then (bif Nat.ble 198 p then (bif Nat.beq p 198 then some (34, 0, 121, 3, []) else none) else (bif Nat.beq p 197 then some (42, 0, 0, 1, []) else none)) else (bif Nat.ble 196 p then (bif Nat.beq p 196 then some (2, 0, 0, 1, []) else none) else (bif Nat.beq p 194 then some (0, 0, 7, 2, []) else none)))) else (bif Nat.ble 185 p then (bif Nat.ble 190 p then (bif Nat.ble 191 p then (bif Nat.beq p 191 then some (35, 0, 91, 3, []) else none) else (bif Nat.beq p 190 then some (1, 0, 0, 1, []) else none)) else (bif Nat.ble 187 p then (bif Nat.beq p 187 then some (28, 0, 198, 3, []) else none) else (bif Nat.beq p 185 then some (0, 0, 6, 2, []) else none))) else (bif Nat.ble 182 p then (bif Nat.ble 183 p then (bif Nat.beq p 183 then some (3, 0, 6, 2, []) else none) else (bif Nat.beq p 182 then some (2, 0, 0, 1, []) else none)) else (bif Nat.ble 179 p then (bif Nat.beq p 179 then some (34, 0, 183, 3, []) else none) else (bif Nat.beq p 178 then some (2, 1, 0, 1, []) else none))))) else (bif Nat.ble 162 p then (bif Nat.ble 169 p then (bif Nat.ble 172 p then (bif Nat.ble 175 p then (bif Nat.beq p 175 then some (28, 0, 182, 3, []) else none) else (bif Nat.beq p 172 then some (46, 0, 200, 3, []) else none)) else (bif Nat.ble 171 p then (bif Nat.beq p 171 then some (37, 0, 0, 1, []) else none) else (bif Nat.beq p 169 then some (0, 0, 7, 2, []) else none))) else (bif Nat.ble 165 p then (bif Nat.ble 166 p then (bif Nat.beq p 166 then some (35, 0, 94, 3, []) else none) else (bif Nat.beq p 165 then some (1, 0, 0, 1, []) else none)) else (bif Nat.ble 164 p then (bif Nat.beq p 164 then some (8, 0, 0, 1, []) else none) else (bif Nat.beq p 162 then some (0, 0, 7, 2, []) else none)))) else (bif Nat.ble 155 p then (bif Nat.ble 157 p then (bif Nat.ble 160 p then (bif Nat.beq p 160 then some (2, 60, 0, 2, []) else none) else (bif Nat.beq p 157 then some (35, 0, 97, 3, []) else none)) else (bif Nat.ble 156 p then (bif Nat.beq p 156 then some (1, 0, 0, 1, []) else none) else (bif Nat.beq p 155 then some (0, 0, 1, 1, []) else none))) else (bif Nat.ble 151 p then (bif Nat.ble 154 p then (bif Nat.beq p 154 then some (1, 0, 0, 1, []) else none) else (bif Nat.beq p 151 then some (28, 0, 182, 3, []) else none)) else (bif Nat.beq p 150 then some (38, 0, 0, 1, []) else none))))) else (bif Nat.ble 126 p then (bif Nat.ble 136 p then (bif Nat.ble 142 p then (bif Nat.ble 145 p then (bif Nat.ble 148 p then (bif Nat.beq p 148 then some (0, 0, 7, 2, []) else none) else (bif Nat.beq p 145 then some (35, 0, 91, 3, []) else none)) else (bif Nat.ble 144 p then (bif Nat.beq p 144 then some (1, 0, 0, 1, []) else none) else (bif Nat.beq p 142 then some (3, 0, 7, 2, []) else none))) else (bif Nat.ble 140 p then (bif Nat.ble 141 p then (bif Nat.beq p 141 then some (6, 0, 0, 1, []) else none) else (bif Nat.beq p 140 then some (10, 0, 0, 1, []) else none)) else (bif Nat.ble 137 p then (bif Nat.beq p 137 then some (35, 0, 42, 3, []) else none) else (bif Nat.beq p 136 then some (1, 0, 0, 1, []) else none)))) else (bif Nat.ble 130 p then (bif Nat.ble 134 p then (bif Nat.ble 135 p then (bif Nat.beq p 135 then some (37, 0, 0, 1, []) else none) else (bif Nat.beq p 134 then some (0, 0, 1, 1, []) else none)) else (bif Nat.ble 131 p then (bif Nat.beq p 131 then some (35, 0, 78, 3, []) else none) else (bif Nat.beq p 130 then some (1, 0, 0, 1, []) else none))) else (bif Nat.ble 128 p then (bif Nat.ble 129 p then (bif Nat.beq p 129 then some (8, 0, 0, 1, []) else none) else (bif Nat.beq p 128 then some (0, 0, 1, 1, []) else none)) else (bif Nat.beq p 126 then some (2, 64, 0, 2, []) else none)))) else (bif Nat.ble 110 p then (bif Nat.ble 118 p then (bif Nat.ble 121 p then (bif Nat.ble 123 p then (bif Nat.beq p 123 then some (28, 0, 201, 3, []) else none) else (bif Nat.beq p 121 then some (0, 0, 6, 2, []) else none)) else (bif Nat.ble 119 p then (bif Nat.beq p 119 then some (3, 0, 6, 2, []) else none) else (bif Nat.beq p 118 then some (2, 1, 0, 1, []) else none))) else (bif Nat.ble 112 p then (bif Nat.ble 115 p then (bif Nat.beq p 115 then some (34, 0, 84, 3, []) else none) else (bif Nat.beq p 112 then some (5, 1, 6, 3, []) else none)) else (bif Nat.ble 111 p then (bif Nat.beq p 111 then some (42, 0, 0, 1, []) else none) else (bif Nat.beq p 110 then some (38, 0, 0, 1, []) else none)))) else (bif Nat.ble 103 p then (bif Nat.ble 107 p then (bif Nat.ble 109 p then (bif Nat.beq p 109 then some (6, 0, 0, 1, []) else none) else (bif Nat.beq p 107 then some (0, 0, 6, 2, []) else none)) else (bif Nat.ble 106 p then (bif Nat.beq p 106 then some (2, 1, 0, 1, []) else none) else (bif Nat.beq p 103 then some (35, 0, 139, 3, []) else none))) else (bif Nat.ble 101 p then (bif Nat.ble 102 p then (bif Nat.beq p 102 then some (1, 0, 0, 1, []) else none) else (bif Nat.beq p 101 then some (6, 0, 0, 1, []) else none)) else (bif Nat.beq p 99 then some (0, 0, 6, 2, []) else none)))))) else (bif Nat.ble 49 p then (bif Nat.ble 73 p then (bif Nat.ble 84 p then (bif Nat.ble 91 p then (bif Nat.ble 96 p then (bif Nat.ble 98 p then (bif Nat.beq p 98 then some (8, 0, 0, 1, []) else none) else (bif Nat.beq p 96 then some (0, 0, 5, 2, []) else none)) else (bif Nat.ble 94 p then (bif Nat.beq p 94 then some (2, 60, 0, 2, []) else none) else (bif Nat.beq p 91 then some (35, 0, 97, 3, []) else none))) else (bif Nat.ble 87 p then (bif Nat.ble 90 p then (bif Nat.beq p 90 then some (1, 0, 0, 1, []) else none) else (bif Nat.beq p 87 then some (25, 0, 118, 3, []) else none)) else (bif Nat.ble 86 p then (bif Nat.beq p 86 then some (0, 0, 3, 1, []) else none) else (bif Nat.beq p 84 then some (0, 0, 6, 2, []) else none)))) else (bif Nat.ble 79 p then (bif Nat.ble 81 p then (bif Nat.ble 82 p then (bif Nat.beq p 82 then some (3, 0, 6, 2, []) else none) else (bif Nat.beq p 81 then some (2, 0, 0, 1, []) else none)) else (bif Nat.ble 80 p then (bif Nat.beq p 80 then some (41, 0, 0, 1, []) else none) else (bif Nat.beq p 79 then some (0, 0, 3, 1, []) else none))) else (bif Nat.ble 74 p then (bif Nat.ble 77 p then (bif Nat.beq p 77 then some (0, 0, 5, 2, []) else none) else (bif Nat.beq p 74 then some (35, 0, 94, 3, []) else none)) else (bif Nat.beq p 73 then some (1, 0, 0, 1, []) else none)))) else (bif Nat.ble 60 p then (bif Nat.ble 66 p then (bif Nat.ble 71 p then (bif Nat.ble 72 p then (bif Nat.beq p 72 then some (42, 0, 0, 1, []) else none) else (bif Nat.beq p 71 then some (2, 1, 0, 1, []) else none)) else (bif Nat.ble 69 p then (bif Nat.beq p 69 then some (0, 0, 5, 2, []) else none) else (bif Nat.beq p 66 then some (35, 0, 91, 3, []) else none))) else (bif Nat.ble 62 p then (bif Nat.ble 65 p then (bif Nat.beq p 65 then some (1, 0, 0, 1, []) else none) else (bif Nat.beq p 62 then some (34, 0, 201, 3, []) else none)) else (bif Nat.ble 61 p then (bif Nat.beq p 61 then some (41, 0, 0, 1, []) else none) else (bif Nat.beq p 60 then some (6, 0, 0, 1, []) else none)))) else (bif Nat.ble 56 p then (bif Nat.ble 58 p then (bif Nat.ble 59 p then (bif Nat.beq p 59 then some (2, 1, 0, 1, []) else none) else (bif Nat.beq p 58 then some (37, 0, 0, 1, []) else none)) else (bif Nat.ble 57 p then (bif Nat.beq p 57 then some (20, 0, 0, 1, []) else none) else (bif Nat.beq p 56 then some (2, 5, 0, 1, []) else none))) else (bif Nat.ble 52 p then (bif Nat.ble 53 p then (bif Nat.beq p 53 then some (35, 0, 133, 3, []) else none) else (bif Nat.beq p 52 then some (1, 0, 0, 1, []) else none)) else (bif Nat.beq p 49 then some (28, 0, 65, 3, []) else none))))) else (bif Nat.ble 23 p then (bif Nat.ble 33 p then (bif Nat.ble 42 p then (bif Nat.ble 46 p then (bif Nat.ble 48 p then (bif Nat.beq p 48 then some (38, 0, 0, 1, []) else none) else (bif Nat.beq p 46 then some (0, 0, 5, 2, []) else none)) else (bif Nat.ble 43 p then (bif Nat.beq p 43 then some (35, 0, 91, 3, []) else none) else (bif Nat.beq p 42 then some (1, 0, 0, 1, []) else none))) else (bif Nat.ble 36 p then (bif Nat.ble 39 p then (bif Nat.beq p 39 then some (25, 0, 52, 3, []) else none) else (bif Nat.beq p 36 then some (35, 0, 45, 3, []) else none)) else (bif Nat.ble 35 p then (bif Nat.beq p 35 then some (1, 0, 0, 1, []) else none) else (bif Nat.beq p 33 then some (0, 0, 4, 2, []) else none)))) else (bif Nat.ble 28 p then (bif Nat.ble 30 p then (bif Nat.ble 31 p then (bif Nat.beq p 31 then some (3, 0, 5, 2, []) else none) else (bif Nat.beq p 30 then some (6, 0, 0, 1, []) else none)) else (bif Nat.ble 29 p then (bif Nat.beq p 29 then some (0, 0, 2, 1, []) else none) else (bif Nat.beq p 28 then some (8, 0, 0, 1, []) else none))) else (bif Nat.ble 25 p then (bif Nat.ble 27 p then (bif Nat.beq p 27 then some (0, 0, 1, 1, []) else none) else (bif Nat.beq p 25 then some (2, 64, 0, 2, []) else none)) else (bif Nat.beq p 23 then some (3, 0, 4, 2, []) else none)))) else (bif Nat.ble 11 p then (bif Nat.ble 17 p then (bif Nat.ble 19 p then (bif Nat.ble 22 p then (bif Nat.beq p 22 then some (10, 0, 0, 1, []) else none) else (bif Nat.beq p 19 then some (35, 0, 42, 3, []) else none)) else (bif Nat.ble 18 p then (bif Nat.beq p 18 then some (1, 0, 0, 1, []) else none) else (bif Nat.beq p 17 then some (6, 0, 0, 1, []) else none))) else (bif Nat.ble 13 p then (bif Nat.ble 14 p then (bif Nat.beq p 14 then some (35, 0, 42, 3, []) else none) else (bif Nat.beq p 13 then some (1, 0, 0, 1, []) else none)) else (bif Nat.ble 12 p then (bif Nat.beq p 12 then some (7, 0, 0, 1, []) else none) else (bif Nat.beq p 11 then some (10, 0, 0, 1, []) else none)))) else (bif Nat.ble 5 p then (bif Nat.ble 7 p then (bif Nat.ble 8 p then (bif Nat.beq p 8 then some (35, 0, 42, 3, []) else none) else (bif Nat.beq p 7 then some (1, 0, 0, 1, []) else none)) else (bif Nat.ble 6 p then (bif Nat.beq p 6 then some (37, 0, 0, 1, []) else none) else (bif Nat.beq p 5 then some (0, 0, 1, 1, []) else none))) else (bif Nat.ble 1 p then (bif Nat.ble 2 p then (bif Nat.beq p 2 then some (35, 0, 78, 3, []) else none) else (bif Nat.beq p 1 then some (1, 0, 0, 1, []) else none)) else (bif Nat.beq p 0 then some (0, 0, 2, 1, []) else none)))))))
def ca_X11_byItself (y : Nat) (as : List sl_V) (m : sl_M) : Option (sl_PL × sl_M) := bif Nat.ble 116 y then (bif Nat.beq y 116 then F_X11_getsAll as m else none) else (bif Nat.beq y 110 then F_X11_layKnown as m else none)
def sp_X11_byItself (p : Nat) : Bool := Nat.beq p 84 || Nat.beq p 121
def mk_X11_byItself (p : Nat) : List Bool := bif Nat.ble 121 p then (bif Nat.beq p 121 then [true, true, false, false, false, false, true, false] else []) else (bif Nat.beq p 84 then [true, true, false, true, false, true, true, false] else [])
def cl_X11_byItself (p : Nat) : Option sl_C := bif Nat.ble 205 p then none else (bif Nat.ble 204 p then (bif Nat.beq p 204 then some (110, 2, 0, 0, 0, 12) else none) else (bif Nat.beq p 200 then some (116, 5, 1, 0, 0, 12) else none))
def R_X11_byItself (ca : Nat → List sl_V → sl_M → Option (sl_PL × sl_M)) : Nat → sl_S → sl_M → Option (sl_PL × sl_M) := sl_B tb_X11_byItself fl_X11 pf_X11 cl_X11_byItself nw_X11 sl_rd sl_wr sl_al sl_ln 0 (fun _ => 0) ca sp_X11_byItself mk_X11_byItself
def F_X11_byItself (as : List sl_V) (m : sl_M) : Option (sl_PL × sl_M) := R_X11_byItself ca_X11_byItself 100000 (0, sl_lo 8 as, []) m
def f_X11_byItself (a0 : Int32) (a1 : Int32) (a2 : Int32) (m : sl_M) : Option (sl_PL × sl_M) := F_X11_byItself [.inr (.inl (some (11, 0))), .inl a0, .inl a1, .inl a2] m
def r_X11_byItself_0 (ca : Nat → List sl_V → sl_M → Option (sl_PL × sl_M)) (n : Nat) (a0 : Int32) (a1 : Int32) (a2 : Int32) (m : sl_M) : Option (sl_PL × sl_M) := R_X11_byItself ca n (0, sl_lo 8 [.inr (.inl (some (11, 0))), .inl a0, .inl a1, .inl a2], []) m
def r_X11_byItself_84 (ca : Nat → List sl_V → sl_M → Option (sl_PL × sl_M)) (n : Nat) (v1 : Int32) (v3 : Int32) (v5 : Int32) (v6 : Int32) (m : sl_M) : Option (sl_PL × sl_M) := R_X11_byItself ca n (84, [some (.inr (.inl (some (11, 0)))), some (.inl v1), none, some (.inl v3), none, some (.inl v5), some (.inl v6), none], []) m
def b_X11_byItself_84 (n : Nat) (v1 : Int32) (v3 : Int32) (v5 : Int32) (v6 : Int32) (m : sl_M) : Option (sl_PL × sl_M) := r_X11_byItself_84 ca_X11_byItself n v1 v3 v5 v6 m
def r_X11_byItself_121 (ca : Nat → List sl_V → sl_M → Option (sl_PL × sl_M)) (n : Nat) (v1 : Int32) (v6 : Int32) (m : sl_M) : Option (sl_PL × sl_M) := R_X11_byItself ca n (121, [some (.inr (.inl (some (11, 0)))), some (.inl v1), none, none, none, none, some (.inl v6), none], []) m
def b_X11_byItself_121 (n : Nat) (v1 : Int32) (v6 : Int32) (m : sl_M) : Option (sl_PL × sl_M) := r_X11_byItself_121 ca_X11_byItself n v1 v6 m
set_option maxRecDepth 100000 in
theorem g_X11_byItself_0 (ca : Nat → List sl_V → sl_M → Option (sl_PL × sl_M)) (n : Nat) (a0 : Int32) (a1 : Int32) (a2 : Int32) (m : sl_M) : r_X11_byItself_0 ca (n + 1) a0 a1 a2 m =
  if 0 ≤ a0 ∧ a0.toNatClampNeg < 2 then
  if (m.1 11 0 10) = 0 then none else
  if (m.1 11 0 10) = 0 then none else
    if (m.1 11 0 11) ≤ (((a1 - ((m.1 57 0 a0.toNatClampNeg) - (m.1 57 0 a0.toNatClampNeg) / (m.1 11 0 10) * (m.1 11 0 10))) + (m.1 11 0 10)) - ((a1 - ((m.1 57 0 a0.toNatClampNeg) - (m.1 57 0 a0.toNatClampNeg) / (m.1 11 0 10) * (m.1 11 0 10))) + (m.1 11 0 10)) / (m.1 11 0 10) * (m.1 11 0 10)) then
        (ca 110 [.inr (.inl (some (11, 0))), .inl a0] (sl_up m 68 0 5 ((m.1 68 0 5) + (1 : Int32)))).bind (fun q1 =>
        some ((0, 0, 0), q1.2))
      else
        if 0 ≤ (((64 : Int32) * a0) + a1) ∧ (((64 : Int32) * a0) + a1).toNatClampNeg < 128 then
        if ((m.1 71 0 ((((64 : Int32) * a0) + a1).toNatClampNeg)) &&& 1) = 0 then
          if 0 ≤ (((64 : Int32) * a0) + a1) ∧ (((64 : Int32) * a0) + a1).toNatClampNeg < 128 then
          if 0 ≤ (((64 : Int32) * a0) + a1) ∧ (((64 : Int32) * a0) + a1).toNatClampNeg < 128 then
          r_X11_byItself_84 ca n a0 a2 (((64 : Int32) * a0) + a1) (0 : Int32) (sl_up (sl_up m 71 0 ((((64 : Int32) * a0) + a1).toNatClampNeg) (1 : Int32)) 60 0 ((((64 : Int32) * a0) + a1).toNatClampNeg) a2)
          else none
          else none
        else
          (ca 110 [.inr (.inl (some (11, 0))), .inl a0] (sl_up m 68 0 5 ((m.1 68 0 5) + (1 : Int32)))).bind (fun q2 =>
          some ((0, 0, 0), q2.2))
        else none
  else none := by rfl
set_option maxRecDepth 100000 in
theorem g_X11_byItself_84 (ca : Nat → List sl_V → sl_M → Option (sl_PL × sl_M)) (n : Nat) (v1 : Int32) (v3 : Int32) (v5 : Int32) (v6 : Int32) (m : sl_M) : r_X11_byItself_84 ca (n + 1) v1 v3 v5 v6 m =
  if v3 ≤ v6 then
    r_X11_byItself_121 ca n v1 (1 : Int32) m
  else
    if 0 ≤ ((1 : Int32) + v6) ∧ ((1 : Int32) + v6).toNatClampNeg < 200 then
    if 0 ≤ (((60 : Int32) * v5) + v6) ∧ (((60 : Int32) * v5) + v6).toNatClampNeg < 7680 then
    r_X11_byItself_84 ca n v1 v3 v5 (v6 + (1 : Int32)) (sl_up m 30 5 ((((60 : Int32) * v5) + v6).toNatClampNeg) (sl_sx (m.1 30 9 (((1 : Int32) + v6).toNatClampNeg))))
    else none
    else none := by rfl
set_option maxRecDepth 100000 in
theorem g_X11_byItself_121 (ca : Nat → List sl_V → sl_M → Option (sl_PL × sl_M)) (n : Nat) (v1 : Int32) (v6 : Int32) (m : sl_M) : r_X11_byItself_121 ca (n + 1) v1 v6 m =
  if v6 = 0 then
    (ca 110 [.inr (.inl (some (11, 0))), .inl v1] m).bind (fun q1 =>
    some ((0, 0, 0), q1.2))
  else
    if 0 ≤ v1 ∧ v1.toNatClampNeg < 2 then
    if (m.1 11 0 10) = 0 then none else
    if 0 ≤ (((64 : Int32) * v1) + ((m.1 57 0 v1.toNatClampNeg) - (m.1 57 0 v1.toNatClampNeg) / (m.1 11 0 10) * (m.1 11 0 10))) ∧ (((64 : Int32) * v1) + ((m.1 57 0 v1.toNatClampNeg) - (m.1 57 0 v1.toNatClampNeg) / (m.1 11 0 10) * (m.1 11 0 10))).toNatClampNeg < 128 then
      if ((m.1 71 0 ((((64 : Int32) * v1) + ((m.1 57 0 v1.toNatClampNeg) - (m.1 57 0 v1.toNatClampNeg) / (m.1 11 0 10) * (m.1 11 0 10))).toNatClampNeg)) &&& 1) = 0 then
        r_X11_byItself_121 ca n v1 (0 : Int32) m
      else
        if 0 ≤ (((64 : Int32) * v1) + ((m.1 57 0 v1.toNatClampNeg) - (m.1 57 0 v1.toNatClampNeg) / (m.1 11 0 10) * (m.1 11 0 10))) ∧ (((64 : Int32) * v1) + ((m.1 57 0 v1.toNatClampNeg) - (m.1 57 0 v1.toNatClampNeg) / (m.1 11 0 10) * (m.1 11 0 10))).toNatClampNeg < 128 then
        (ca 116 [.inr (.inl (some (11, 0))), .inl v1, .inr (.inl (some (30, 5))), .inl ((60 : Int32) * (((64 : Int32) * v1) + ((m.1 57 0 v1.toNatClampNeg) - (m.1 57 0 v1.toNatClampNeg) / (m.1 11 0 10) * (m.1 11 0 10)))), .inl (m.1 60 0 ((((64 : Int32) * v1) + ((m.1 57 0 v1.toNatClampNeg) - (m.1 57 0 v1.toNatClampNeg) / (m.1 11 0 10) * (m.1 11 0 10))).toNatClampNeg))] m).bind (fun q2 =>
        if q2.1.1 = 0 then
          r_X11_byItself_121 ca n v1 (0 : Int32) q2.2
        else
          if 0 ≤ (((64 : Int32) * v1) + ((m.1 57 0 v1.toNatClampNeg) - (m.1 57 0 v1.toNatClampNeg) / (m.1 11 0 10) * (m.1 11 0 10))) ∧ (((64 : Int32) * v1) + ((m.1 57 0 v1.toNatClampNeg) - (m.1 57 0 v1.toNatClampNeg) / (m.1 11 0 10) * (m.1 11 0 10))).toNatClampNeg < 128 then
          r_X11_byItself_121 ca n v1 (1 : Int32) (sl_up q2.2 71 0 ((((64 : Int32) * v1) + ((m.1 57 0 v1.toNatClampNeg) - (m.1 57 0 v1.toNatClampNeg) / (m.1 11 0 10) * (m.1 11 0 10))).toNatClampNeg) (0 : Int32))
          else none)
        else none
      else none
    else none := by rfl
theorem cq_X11_byItself_X11_layKnown (a0 : Int32) (m : sl_M) : ca_X11_byItself 110 [.inr (.inl (some (11, 0))), .inl a0] m = f_X11_layKnown a0 m := by
  unfold ca_X11_byItself f_X11_layKnown
  rw [show Nat.ble 116 110 = false from rfl, cond_false, show Nat.beq 110 110 = true from rfl, cond_true]
theorem cq_X11_byItself_X11_getsAll (a0 : Int32) (a1 : Nat) (a2 : Int32) (a3 : Int32) (m : sl_M) : ca_X11_byItself 116 [.inr (.inl (some (11, 0))), .inl a0, .inr (.inl (some (30, a1))), .inl a2, .inl a3] m = f_X11_getsAll a0 a1 a2 a3 m := by
  unfold ca_X11_byItself f_X11_getsAll
  rw [show Nat.ble 116 116 = true from rfl, cond_true, show Nat.beq 116 116 = true from rfl, cond_true]
theorem bq_X11_byItself_84 (n : Nat) (v1 : Int32) (v3 : Int32) (v5 : Int32) (v6 : Int32) (m : sl_M) : r_X11_byItself_84 ca_X11_byItself n v1 v3 v5 v6 m = b_X11_byItself_84 n v1 v3 v5 v6 m := rfl
theorem bq_X11_byItself_121 (n : Nat) (v1 : Int32) (v6 : Int32) (m : sl_M) : r_X11_byItself_121 ca_X11_byItself n v1 v6 m = b_X11_byItself_121 n v1 v6 m := rfl
theorem e_X11_byItself (a0 : Int32) (a1 : Int32) (a2 : Int32) (m : sl_M) : f_X11_byItself a0 a1 a2 m =
  if 0 ≤ a0 ∧ a0.toNatClampNeg < 2 then
  if (m.1 11 0 10) = 0 then none else
  if (m.1 11 0 10) = 0 then none else
    if (m.1 11 0 11) ≤ (((a1 - ((m.1 57 0 a0.toNatClampNeg) - (m.1 57 0 a0.toNatClampNeg) / (m.1 11 0 10) * (m.1 11 0 10))) + (m.1 11 0 10)) - ((a1 - ((m.1 57 0 a0.toNatClampNeg) - (m.1 57 0 a0.toNatClampNeg) / (m.1 11 0 10) * (m.1 11 0 10))) + (m.1 11 0 10)) / (m.1 11 0 10) * (m.1 11 0 10)) then
        (f_X11_layKnown a0 (sl_up m 68 0 5 ((m.1 68 0 5) + (1 : Int32)))).bind (fun q1 =>
        some ((0, 0, 0), q1.2))
      else
        if 0 ≤ (((64 : Int32) * a0) + a1) ∧ (((64 : Int32) * a0) + a1).toNatClampNeg < 128 then
        if ((m.1 71 0 ((((64 : Int32) * a0) + a1).toNatClampNeg)) &&& 1) = 0 then
          if 0 ≤ (((64 : Int32) * a0) + a1) ∧ (((64 : Int32) * a0) + a1).toNatClampNeg < 128 then
          if 0 ≤ (((64 : Int32) * a0) + a1) ∧ (((64 : Int32) * a0) + a1).toNatClampNeg < 128 then
          b_X11_byItself_84 99999 a0 a2 (((64 : Int32) * a0) + a1) (0 : Int32) (sl_up (sl_up m 71 0 ((((64 : Int32) * a0) + a1).toNatClampNeg) (1 : Int32)) 60 0 ((((64 : Int32) * a0) + a1).toNatClampNeg) a2)
          else none
          else none
        else
          (f_X11_layKnown a0 (sl_up m 68 0 5 ((m.1 68 0 5) + (1 : Int32)))).bind (fun q2 =>
          some ((0, 0, 0), q2.2))
        else none
  else none := by
  have h := g_X11_byItself_0 ca_X11_byItself 99999 a0 a1 a2 m
  simp only [cq_X11_byItself_X11_layKnown, cq_X11_byItself_X11_getsAll, bq_X11_byItself_84, bq_X11_byItself_121] at h
  exact h
theorem e_X11_byItself_84 (n : Nat) (v1 : Int32) (v3 : Int32) (v5 : Int32) (v6 : Int32) (m : sl_M) : b_X11_byItself_84 (n + 1) v1 v3 v5 v6 m =
  if v3 ≤ v6 then
    b_X11_byItself_121 n v1 (1 : Int32) m
  else
    if 0 ≤ ((1 : Int32) + v6) ∧ ((1 : Int32) + v6).toNatClampNeg < 200 then
    if 0 ≤ (((60 : Int32) * v5) + v6) ∧ (((60 : Int32) * v5) + v6).toNatClampNeg < 7680 then
    b_X11_byItself_84 n v1 v3 v5 (v6 + (1 : Int32)) (sl_up m 30 5 ((((60 : Int32) * v5) + v6).toNatClampNeg) (sl_sx (m.1 30 9 (((1 : Int32) + v6).toNatClampNeg))))
    else none
    else none := by
  have h := g_X11_byItself_84 ca_X11_byItself n v1 v3 v5 v6 m
  simp only [cq_X11_byItself_X11_layKnown, cq_X11_byItself_X11_getsAll, bq_X11_byItself_84, bq_X11_byItself_121] at h
  exact h
theorem e_X11_byItself_121 (n : Nat) (v1 : Int32) (v6 : Int32) (m : sl_M) : b_X11_byItself_121 (n + 1) v1 v6 m =
  if v6 = 0 then
    (f_X11_layKnown v1 m).bind (fun q1 =>
    some ((0, 0, 0), q1.2))
  else
    if 0 ≤ v1 ∧ v1.toNatClampNeg < 2 then
    if (m.1 11 0 10) = 0 then none else
    if 0 ≤ (((64 : Int32) * v1) + ((m.1 57 0 v1.toNatClampNeg) - (m.1 57 0 v1.toNatClampNeg) / (m.1 11 0 10) * (m.1 11 0 10))) ∧ (((64 : Int32) * v1) + ((m.1 57 0 v1.toNatClampNeg) - (m.1 57 0 v1.toNatClampNeg) / (m.1 11 0 10) * (m.1 11 0 10))).toNatClampNeg < 128 then
      if ((m.1 71 0 ((((64 : Int32) * v1) + ((m.1 57 0 v1.toNatClampNeg) - (m.1 57 0 v1.toNatClampNeg) / (m.1 11 0 10) * (m.1 11 0 10))).toNatClampNeg)) &&& 1) = 0 then
        b_X11_byItself_121 n v1 (0 : Int32) m
      else
        if 0 ≤ (((64 : Int32) * v1) + ((m.1 57 0 v1.toNatClampNeg) - (m.1 57 0 v1.toNatClampNeg) / (m.1 11 0 10) * (m.1 11 0 10))) ∧ (((64 : Int32) * v1) + ((m.1 57 0 v1.toNatClampNeg) - (m.1 57 0 v1.toNatClampNeg) / (m.1 11 0 10) * (m.1 11 0 10))).toNatClampNeg < 128 then
        (f_X11_getsAll v1 5 ((60 : Int32) * (((64 : Int32) * v1) + ((m.1 57 0 v1.toNatClampNeg) - (m.1 57 0 v1.toNatClampNeg) / (m.1 11 0 10) * (m.1 11 0 10)))) (m.1 60 0 ((((64 : Int32) * v1) + ((m.1 57 0 v1.toNatClampNeg) - (m.1 57 0 v1.toNatClampNeg) / (m.1 11 0 10) * (m.1 11 0 10))).toNatClampNeg)) m).bind (fun q2 =>
        if q2.1.1 = 0 then
          b_X11_byItself_121 n v1 (0 : Int32) q2.2
        else
          if 0 ≤ (((64 : Int32) * v1) + ((m.1 57 0 v1.toNatClampNeg) - (m.1 57 0 v1.toNatClampNeg) / (m.1 11 0 10) * (m.1 11 0 10))) ∧ (((64 : Int32) * v1) + ((m.1 57 0 v1.toNatClampNeg) - (m.1 57 0 v1.toNatClampNeg) / (m.1 11 0 10) * (m.1 11 0 10))).toNatClampNeg < 128 then
          b_X11_byItself_121 n v1 (1 : Int32) (sl_up q2.2 71 0 ((((64 : Int32) * v1) + ((m.1 57 0 v1.toNatClampNeg) - (m.1 57 0 v1.toNatClampNeg) / (m.1 11 0 10) * (m.1 11 0 10))).toNatClampNeg) (0 : Int32))
          else none)
        else none
      else none
    else none := by
  have h := g_X11_byItself_121 ca_X11_byItself n v1 v6 m
  simp only [cq_X11_byItself_X11_layKnown, cq_X11_byItself_X11_getsAll, bq_X11_byItself_84, bq_X11_byItself_121] at h
  exact h

def tb_X11_known (p : Nat) : Option sl_E := bif Nat.ble 177 p then none else (bif Nat.ble 89 p then (bif Nat.ble 132 p then (bif Nat.ble 155 p then (bif Nat.ble 165 p then (bif Nat.ble 169 p then (bif Nat.ble 173 p then (bif Nat.ble 176 p then (bif Nat.beq p 176 then some (50, 0, 0, 1, []) else none) else (bif Nat.beq p 173 then some (34, 0, 94, 3, []) else none)) else (bif Nat.ble 170 p then (bif Nat.beq p 170 then some (5, 1, 5, 3, []) else none) else (bif Nat.beq p 169 then some (42, 0, 0, 1, []) else none))) else (bif Nat.ble 167 p then (bif Nat.ble 168 p then (bif Nat.beq p 168 then some (2, 1, 0, 1, []) else none) else (bif Nat.beq p 167 then some (6, 0, 0, 1, []) else none)) else (bif Nat.ble 166 p then (bif Nat.beq p 166 then some (2, 1, 0, 1, []) else none) else (bif Nat.beq p 165 then some (6, 0, 0, 1, []) else none)))) else (bif Nat.ble 160 p then (bif Nat.ble 162 p then (bif Nat.ble 163 p then (bif Nat.beq p 163 then some (0, 0, 5, 2, []) else none) else (bif Nat.beq p 162 then some (6, 0, 0, 1, []) else none)) else (bif Nat.ble 161 p then (bif Nat.beq p 161 then some (37, 0, 0, 1, []) else none) else (bif Nat.beq p 160 then some (0, 0, 1, 1, []) else none))) else (bif Nat.ble 156 p then (bif Nat.ble 157 p then (bif Nat.beq p 157 then some (35, 0, 72, 3, []) else none) else (bif Nat.beq p 156 then some (1, 0, 0, 1, []) else none)) else (bif Nat.beq p 155 then some (8, 0, 0, 1, []) else none)))) else (bif Nat.ble 142 p then (bif Nat.ble 147 p then (bif Nat.ble 151 p then (bif Nat.ble 154 p then (bif Nat.beq p 154 then some (0, 0, 1, 1, []) else none) else (bif Nat.beq p 151 then some (2, 3002, 0, 3, []) else none)) else (bif Nat.ble 148 p then (bif Nat.beq p 148 then some (35, 0, 87, 3, []) else none) else (bif Nat.beq p 147 then some (1, 0, 0, 1, []) else none))) else (bif Nat.ble 143 p then (bif Nat.ble 144 p then (bif Nat.beq p 144 then some (25, 0, 170, 3, []) else none) else (bif Nat.beq p 143 then some (37, 0, 0, 1, []) else none)) else (bif Nat.beq p 142 then some (0, 0, 1, 1, []) else none))) else (bif Nat.ble 136 p then (bif Nat.ble 138 p then (bif Nat.ble 139 p then (bif Nat.beq p 139 then some (35, 0, 75, 3, []) else none) else (bif Nat.beq p 138 then some (1, 0, 0, 1, []) else none)) else (bif Nat.ble 137 p then (bif Nat.beq p 137 then some (6, 0, 0, 1, []) else none) else (bif Nat.beq p 136 then some (2, 1, 0, 1, []) else none))) else (bif Nat.ble 133 p then (bif Nat.ble 135 p then (bif Nat.beq p 135 then some (6, 0, 0, 1, []) else none) else (bif Nat.beq p 133 then some (0, 0, 5, 2, []) else none)) else (bif Nat.beq p 132 then some (37, 0, 0, 1, []) else none))))) else (bif Nat.ble 112 p then (bif Nat.ble 121 p then (bif Nat.ble 124 p then (bif Nat.ble 128 p then (bif Nat.ble 131 p then (bif Nat.beq p 131 then some (0, 0, 1, 1, []) else none) else (bif Nat.beq p 128 then some (35, 0, 72, 3, []) else none)) else (bif Nat.ble 127 p then (bif Nat.beq p 127 then some (1, 0, 0, 1, []) else none) else (bif Nat.beq p 124 then some (23, 0, 170, 3, []) else none))) else (bif Nat.ble 122 p then (bif Nat.ble 123 p then (bif Nat.beq p 123 then some (2, 1, 0, 1, []) else none) else (bif Nat.beq p 122 then some (11, 0, 0, 1, []) else none)) else (bif Nat.beq p 121 then some (2, 1, 0, 1, []) else none))) else (bif Nat.ble 115 p then (bif Nat.ble 119 p then (bif Nat.ble 120 p then (bif Nat.beq p 120 then some (15, 0, 0, 1, []) else none) else (bif Nat.beq p 119 then some (10, 0, 0, 1, []) else none)) else (bif Nat.ble 117 p then (bif Nat.beq p 117 then some (2, 8, 0, 2, []) else none) else (bif Nat.beq p 115 then some (0, 0, 5, 2, []) else none))) else (bif Nat.ble 113 p then (bif Nat.ble 114 p then (bif Nat.beq p 114 then some (38, 0, 0, 1, []) else none) else (bif Nat.beq p 113 then some (6, 0, 0, 1, []) else none)) else (bif Nat.beq p 112 then some (9, 0, 0, 1, []) else none)))) else (bif Nat.ble 99 p then (bif Nat.ble 104 p then (bif Nat.ble 108 p then (bif Nat.ble 110 p then (bif Nat.beq p 110 then some (2, 8, 0, 2, []) else none) else (bif Nat.beq p 108 then some (0, 0, 5, 2, []) else none)) else (bif Nat.ble 107 p then (bif Nat.beq p 107 then some (2, 1, 0, 1, []) else none) else (bif Nat.beq p 104 then some (35, 0, 139, 3, []) else none))) else (bif Nat.ble 100 p then (bif Nat.ble 103 p then (bif Nat.beq p 103 then some (1, 0, 0, 1, []) else none) else (bif Nat.beq p 100 then some (25, 0, 176, 3, []) else none)) else (bif Nat.beq p 99 then some (8, 0, 0, 1, []) else none))) else (bif Nat.ble 92 p then (bif Nat.ble 96 p then (bif Nat.ble 98 p then (bif Nat.beq p 98 then some (0, 0, 3, 1, []) else none) else (bif Nat.beq p 96 then some (2, 8, 0, 2, []) else none)) else (bif Nat.ble 94 p then (bif Nat.beq p 94 then some (0, 0, 5, 2, []) else none) else (bif Nat.beq p 92 then some (3, 0, 5, 2, []) else none))) else (bif Nat.ble 90 p then (bif Nat.ble 91 p then (bif Nat.beq p 91 then some (2, 0, 0, 1, []) else none) else (bif Nat.beq p 90 then some (41, 0, 0, 1, []) else none)) else (bif Nat.beq p 89 then some (37, 0, 0, 1, []) else none)))))) else (bif Nat.ble 44 p then (bif Nat.ble 64 p then (bif Nat.ble 76 p then (bif Nat.ble 83 p then (bif Nat.ble 85 p then (bif Nat.ble 88 p then (bif Nat.beq p 88 then some (0, 0, 1, 1, []) else none) else (bif Nat.beq p 85 then some (35, 0, 66, 3, []) else none)) else (bif Nat.ble 84 p then (bif Nat.beq p 84 then some (1, 0, 0, 1, []) else none) else (bif Nat.beq p 83 then some (0, 0, 1, 1, []) else none))) else (bif Nat.ble 79 p then (bif Nat.ble 80 p then (bif Nat.beq p 80 then some (35, 0, 69, 3, []) else none) else (bif Nat.beq p 79 then some (1, 0, 0, 1, []) else none)) else (bif Nat.beq p 76 then some (25, 0, 91, 3, []) else none))) else (bif Nat.ble 68 p then (bif Nat.ble 72 p then (bif Nat.ble 75 p then (bif Nat.beq p 75 then some (2, 2, 0, 1, []) else none) else (bif Nat.beq p 72 then some (35, 0, 39, 3, []) else none)) else (bif Nat.ble 71 p then (bif Nat.beq p 71 then some (1, 0, 0, 1, []) else none) else (bif Nat.beq p 68 then some (33, 0, 91, 3, []) else none))) else (bif Nat.ble 65 p then (bif Nat.ble 66 p then (bif Nat.beq p 66 then some (0, 0, 4, 2, []) else none) else (bif Nat.beq p 65 then some (41, 0, 0, 1, []) else none)) else (bif Nat.beq p 64 then some (6, 0, 0, 1, []) else none)))) else (bif Nat.ble 54 p then (bif Nat.ble 59 p then (bif Nat.ble 61 p then (bif Nat.ble 62 p then (bif Nat.beq p 62 then some (0, 0, 4, 2, []) else none) else (bif Nat.beq p 61 then some (37, 0, 0, 1, []) else none)) else (bif Nat.ble 60 p then (bif Nat.beq p 60 then some (20, 0, 0, 1, []) else none) else (bif Nat.beq p 59 then some (0, 0, 1, 1, []) else none))) else (bif Nat.ble 55 p then (bif Nat.ble 56 p then (bif Nat.beq p 56 then some (35, 0, 72, 3, []) else none) else (bif Nat.beq p 55 then some (1, 0, 0, 1, []) else none)) else (bif Nat.beq p 54 then some (50, 0, 0, 1, []) else none))) else (bif Nat.ble 50 p then (bif Nat.ble 52 p then (bif Nat.ble 53 p then (bif Nat.beq p 53 then some (41, 0, 0, 1, []) else none) else (bif Nat.beq p 52 then some (6, 0, 0, 1, []) else none)) else (bif Nat.ble 51 p then (bif Nat.beq p 51 then some (2, 1, 0, 1, []) else none) else (bif Nat.beq p 50 then some (37, 0, 0, 1, []) else none))) else (bif Nat.ble 47 p then (bif Nat.ble 49 p then (bif Nat.beq p 49 then some (20, 0, 0, 1, []) else none) else (bif Nat.beq p 47 then some (2, 6, 0, 2, []) else none)) else (bif Nat.beq p 44 then some (35, 0, 133, 3, []) else none))))) else (bif Nat.ble 22 p then (bif Nat.ble 33 p then (bif Nat.ble 38 p then (bif Nat.ble 40 p then (bif Nat.ble 43 p then (bif Nat.beq p 43 then some (1, 0, 0, 1, []) else none) else (bif Nat.beq p 40 then some (27, 0, 55, 3, []) else none)) else (bif Nat.ble 39 p then (bif Nat.beq p 39 then some (7, 0, 0, 1, []) else none) else (bif Nat.beq p 38 then some (37, 0, 0, 1, []) else none))) else (bif Nat.ble 34 p then (bif Nat.ble 37 p then (bif Nat.beq p 37 then some (0, 0, 1, 1, []) else none) else (bif Nat.beq p 34 then some (35, 0, 72, 3, []) else none)) else (bif Nat.beq p 33 then some (1, 0, 0, 1, []) else none))) else (bif Nat.ble 27 p then (bif Nat.ble 31 p then (bif Nat.ble 32 p then (bif Nat.beq p 32 then some (37, 0, 0, 1, []) else none) else (bif Nat.beq p 31 then some (0, 0, 1, 1, []) else none)) else (bif Nat.ble 28 p then (bif Nat.beq p 28 then some (35, 0, 75, 3, []) else none) else (bif Nat.beq p 27 then some (1, 0, 0, 1, []) else none))) else (bif Nat.ble 23 p then (bif Nat.ble 25 p then (bif Nat.beq p 25 then some (0, 0, 4, 2, []) else none) else (bif Nat.beq p 23 then some (3, 0, 4, 2, []) else none)) else (bif Nat.beq p 22 then some (10, 0, 0, 1, []) else none)))) else (bif Nat.ble 11 p then (bif Nat.ble 14 p then (bif Nat.ble 18 p then (bif Nat.ble 19 p then (bif Nat.beq p 19 then some (35, 0, 42, 3, []) else none) else (bif Nat.beq p 18 then some (1, 0, 0, 1, []) else none)) else (bif Nat.ble 17 p then (bif Nat.beq p 17 then some (6, 0, 0, 1, []) else none) else (bif Nat.beq p 14 then some (35, 0, 42, 3, []) else none))) else (bif Nat.ble 12 p then (bif Nat.ble 13 p then (bif Nat.beq p 13 then some (1, 0, 0, 1, []) else none) else (bif Nat.beq p 12 then some (7, 0, 0, 1, []) else none)) else (bif Nat.beq p 11 then some (10, 0, 0, 1, []) else none))) else (bif Nat.ble 5 p then (bif Nat.ble 7 p then (bif Nat.ble 8 p then (bif Nat.beq p 8 then some (35, 0, 42, 3, []) else none) else (bif Nat.beq p 7 then some (1, 0, 0, 1, []) else none)) else (bif Nat.ble 6 p then (bif Nat.beq p 6 then some (37, 0, 0, 1, []) else none) else (bif Nat.beq p 5 then some (0, 0, 1, 1, []) else none))) else (bif Nat.ble 1 p then (bif Nat.ble 2 p then (bif Nat.beq p 2 then some (35, 0, 72, 3, []) else none) else (bif Nat.beq p 1 then some (1, 0, 0, 1, []) else none)) else (bif Nat.beq p 0 then some (0, 0, 2, 1, []) else none)))))))
def ca_X11_known (y : Nat) (as : List sl_V) (m : sl_M) : Option (sl_PL × sl_M) := none
def sp_X11_known (p : Nat) : Bool := Nat.beq p 94
def mk_X11_known (p : Nat) : List Bool := bif Nat.beq p 94 then [true, true, false, true, false, true] else []
def cl_X11_known (p : Nat) : Option sl_C := none
def R_X11_known (ca : Nat → List sl_V → sl_M → Option (sl_PL × sl_M)) : Nat → sl_S → sl_M → Option (sl_PL × sl_M) := sl_B tb_X11_known fl_X11 pf_X11 cl_X11_known nw_X11 sl_rd sl_wr sl_al sl_ln 0 (fun _ => 0) ca sp_X11_known mk_X11_known
def F_X11_known (as : List sl_V) (m : sl_M) : Option (sl_PL × sl_M) := R_X11_known ca_X11_known 100000 (0, sl_lo 6 as, []) m
def f_X11_known (a0 : Int32) (a1 : Int32) (a2 : Int32) (m : sl_M) : Option (sl_PL × sl_M) := F_X11_known [.inr (.inl (some (11, 0))), .inl a0, .inl a1, .inl a2] m
def r_X11_known_0 (ca : Nat → List sl_V → sl_M → Option (sl_PL × sl_M)) (n : Nat) (a0 : Int32) (a1 : Int32) (a2 : Int32) (m : sl_M) : Option (sl_PL × sl_M) := R_X11_known ca n (0, sl_lo 6 [.inr (.inl (some (11, 0))), .inl a0, .inl a1, .inl a2], []) m
def r_X11_known_94 (ca : Nat → List sl_V → sl_M → Option (sl_PL × sl_M)) (n : Nat) (v1 : Int32) (v3 : Int32) (v5 : Int32) (m : sl_M) : Option (sl_PL × sl_M) := R_X11_known ca n (94, [some (.inr (.inl (some (11, 0)))), some (.inl v1), none, some (.inl v3), none, some (.inl v5)], []) m
def b_X11_known_94 (n : Nat) (v1 : Int32) (v3 : Int32) (v5 : Int32) (m : sl_M) : Option (sl_PL × sl_M) := r_X11_known_94 ca_X11_known n v1 v3 v5 m
set_option maxRecDepth 100000 in
theorem g_X11_known_0 (ca : Nat → List sl_V → sl_M → Option (sl_PL × sl_M)) (n : Nat) (a0 : Int32) (a1 : Int32) (a2 : Int32) (m : sl_M) : r_X11_known_0 ca (n + 1) a0 a1 a2 m =
  if 0 ≤ a0 ∧ a0.toNatClampNeg < 2 then
  if (m.1 11 0 10) = 0 then none else
  if (m.1 11 0 10) = 0 then none else
    if 0 ≤ a0 ∧ a0.toNatClampNeg < 2 then
      if 0 ≤ a0 ∧ a0.toNatClampNeg < 2 then
      if (((a1 - ((m.1 55 0 a0.toNatClampNeg) - (m.1 55 0 a0.toNatClampNeg) / (m.1 11 0 10) * (m.1 11 0 10))) + (m.1 11 0 10)) - ((a1 - ((m.1 55 0 a0.toNatClampNeg) - (m.1 55 0 a0.toNatClampNeg) / (m.1 11 0 10) * (m.1 11 0 10))) + (m.1 11 0 10)) / (m.1 11 0 10) * (m.1 11 0 10)) ≤ ((m.1 56 0 a0.toNatClampNeg) - (m.1 55 0 a0.toNatClampNeg)) then
        if 0 ≤ a0 ∧ a0.toNatClampNeg < 2 then
        if 0 ≤ a0 ∧ a0.toNatClampNeg < 2 then
        if (((a1 - ((m.1 55 0 a0.toNatClampNeg) - (m.1 55 0 a0.toNatClampNeg) / (m.1 11 0 10) * (m.1 11 0 10))) + (m.1 11 0 10)) - ((a1 - ((m.1 55 0 a0.toNatClampNeg) - (m.1 55 0 a0.toNatClampNeg) / (m.1 11 0 10) * (m.1 11 0 10))) + (m.1 11 0 10)) / (m.1 11 0 10) * (m.1 11 0 10)) ≤ 0 then
          r_X11_known_94 ca n a0 a2 (0 : Int32) (sl_up m 55 0 a0.toNatClampNeg ((m.1 55 0 a0.toNatClampNeg) + (((a1 - ((m.1 55 0 a0.toNatClampNeg) - (m.1 55 0 a0.toNatClampNeg) / (m.1 11 0 10) * (m.1 11 0 10))) + (m.1 11 0 10)) - ((a1 - ((m.1 55 0 a0.toNatClampNeg) - (m.1 55 0 a0.toNatClampNeg) / (m.1 11 0 10) * (m.1 11 0 10))) + (m.1 11 0 10)) / (m.1 11 0 10) * (m.1 11 0 10))))
        else
          if (2 : Int32) ≤ (m.1 11 0 9) then
            r_X11_known_94 ca n a0 a2 (0 : Int32) (sl_up m 55 0 a0.toNatClampNeg ((m.1 55 0 a0.toNatClampNeg) + (((a1 - ((m.1 55 0 a0.toNatClampNeg) - (m.1 55 0 a0.toNatClampNeg) / (m.1 11 0 10) * (m.1 11 0 10))) + (m.1 11 0 10)) - ((a1 - ((m.1 55 0 a0.toNatClampNeg) - (m.1 55 0 a0.toNatClampNeg) / (m.1 11 0 10) * (m.1 11 0 10))) + (m.1 11 0 10)) / (m.1 11 0 10) * (m.1 11 0 10))))
          else
            if 0 ≤ a0 ∧ a0.toNatClampNeg < 2 then
            if 0 ≤ a0 ∧ a0.toNatClampNeg < 2 then
            r_X11_known_94 ca n a0 a2 (0 : Int32) (sl_up (sl_up m 55 0 a0.toNatClampNeg ((m.1 55 0 a0.toNatClampNeg) + (((a1 - ((m.1 55 0 a0.toNatClampNeg) - (m.1 55 0 a0.toNatClampNeg) / (m.1 11 0 10) * (m.1 11 0 10))) + (m.1 11 0 10)) - ((a1 - ((m.1 55 0 a0.toNatClampNeg) - (m.1 55 0 a0.toNatClampNeg) / (m.1 11 0 10) * (m.1 11 0 10))) + (m.1 11 0 10)) / (m.1 11 0 10) * (m.1 11 0 10)))) 54 0 a0.toNatClampNeg (m.1 53 0 a0.toNatClampNeg))
            else none
            else none
        else none
        else none
      else
        some ((0, 0, 0), (sl_up m 68 0 6 ((m.1 68 0 6) + (1 : Int32))))
      else none
      else none
  else none := by rfl
set_option maxRecDepth 100000 in
theorem g_X11_known_94 (ca : Nat → List sl_V → sl_M → Option (sl_PL × sl_M)) (n : Nat) (v1 : Int32) (v3 : Int32) (v5 : Int32) (m : sl_M) : r_X11_known_94 ca (n + 1) v1 v3 v5 m =
  if ((8 : Int32) * v3) ≤ v5 then
    some ((0, 0, 0), m)
  else
    if 0 ≤ ((1 : Int32) + (v5 / (8 : Int32))) ∧ ((1 : Int32) + (v5 / (8 : Int32))).toNatClampNeg < 200 then
    if (((sl_sx (m.1 30 9 (((1 : Int32) + (v5 / (8 : Int32))).toNatClampNeg))) >>> ((v5 - v5 / (8 : Int32) * (8 : Int32)) &&& 31)) &&& (1 : Int32)) = (1 : Int32) then
      if 0 ≤ v1 ∧ v1.toNatClampNeg < 2 then
      if 0 ≤ v1 ∧ v1.toNatClampNeg < 2 then
      if (m.1 56 0 v1.toNatClampNeg) ≤ (((m.1 55 0 v1.toNatClampNeg) + v5) + (1 : Int32)) then
        r_X11_known_94 ca n v1 v3 (v5 + (1 : Int32)) m
      else
        if 0 ≤ v1 ∧ v1.toNatClampNeg < 2 then
        if 0 ≤ (((((3002 : Int32) * v1) + (m.1 55 0 v1.toNatClampNeg)) + v5) + (1 : Int32)) ∧ (((((3002 : Int32) * v1) + (m.1 55 0 v1.toNatClampNeg)) + v5) + (1 : Int32)).toNatClampNeg < 6004 then
        r_X11_known_94 ca n v1 v3 (v5 + (1 : Int32)) (sl_up m 70 0 ((((((3002 : Int32) * v1) + (m.1 55 0 v1.toNatClampNeg)) + v5) + (1 : Int32)).toNatClampNeg) (1 : Int32))
        else none
        else none
      else none
      else none
    else
      r_X11_known_94 ca n v1 v3 (v5 + (1 : Int32)) m
    else none := by rfl
theorem bq_X11_known_94 (n : Nat) (v1 : Int32) (v3 : Int32) (v5 : Int32) (m : sl_M) : r_X11_known_94 ca_X11_known n v1 v3 v5 m = b_X11_known_94 n v1 v3 v5 m := rfl
theorem e_X11_known (a0 : Int32) (a1 : Int32) (a2 : Int32) (m : sl_M) : f_X11_known a0 a1 a2 m =
  if 0 ≤ a0 ∧ a0.toNatClampNeg < 2 then
  if (m.1 11 0 10) = 0 then none else
  if (m.1 11 0 10) = 0 then none else
    if 0 ≤ a0 ∧ a0.toNatClampNeg < 2 then
      if 0 ≤ a0 ∧ a0.toNatClampNeg < 2 then
      if (((a1 - ((m.1 55 0 a0.toNatClampNeg) - (m.1 55 0 a0.toNatClampNeg) / (m.1 11 0 10) * (m.1 11 0 10))) + (m.1 11 0 10)) - ((a1 - ((m.1 55 0 a0.toNatClampNeg) - (m.1 55 0 a0.toNatClampNeg) / (m.1 11 0 10) * (m.1 11 0 10))) + (m.1 11 0 10)) / (m.1 11 0 10) * (m.1 11 0 10)) ≤ ((m.1 56 0 a0.toNatClampNeg) - (m.1 55 0 a0.toNatClampNeg)) then
        if 0 ≤ a0 ∧ a0.toNatClampNeg < 2 then
        if 0 ≤ a0 ∧ a0.toNatClampNeg < 2 then
        if (((a1 - ((m.1 55 0 a0.toNatClampNeg) - (m.1 55 0 a0.toNatClampNeg) / (m.1 11 0 10) * (m.1 11 0 10))) + (m.1 11 0 10)) - ((a1 - ((m.1 55 0 a0.toNatClampNeg) - (m.1 55 0 a0.toNatClampNeg) / (m.1 11 0 10) * (m.1 11 0 10))) + (m.1 11 0 10)) / (m.1 11 0 10) * (m.1 11 0 10)) ≤ 0 then
          b_X11_known_94 99999 a0 a2 (0 : Int32) (sl_up m 55 0 a0.toNatClampNeg ((m.1 55 0 a0.toNatClampNeg) + (((a1 - ((m.1 55 0 a0.toNatClampNeg) - (m.1 55 0 a0.toNatClampNeg) / (m.1 11 0 10) * (m.1 11 0 10))) + (m.1 11 0 10)) - ((a1 - ((m.1 55 0 a0.toNatClampNeg) - (m.1 55 0 a0.toNatClampNeg) / (m.1 11 0 10) * (m.1 11 0 10))) + (m.1 11 0 10)) / (m.1 11 0 10) * (m.1 11 0 10))))
        else
          if (2 : Int32) ≤ (m.1 11 0 9) then
            b_X11_known_94 99999 a0 a2 (0 : Int32) (sl_up m 55 0 a0.toNatClampNeg ((m.1 55 0 a0.toNatClampNeg) + (((a1 - ((m.1 55 0 a0.toNatClampNeg) - (m.1 55 0 a0.toNatClampNeg) / (m.1 11 0 10) * (m.1 11 0 10))) + (m.1 11 0 10)) - ((a1 - ((m.1 55 0 a0.toNatClampNeg) - (m.1 55 0 a0.toNatClampNeg) / (m.1 11 0 10) * (m.1 11 0 10))) + (m.1 11 0 10)) / (m.1 11 0 10) * (m.1 11 0 10))))
          else
            if 0 ≤ a0 ∧ a0.toNatClampNeg < 2 then
            if 0 ≤ a0 ∧ a0.toNatClampNeg < 2 then
            b_X11_known_94 99999 a0 a2 (0 : Int32) (sl_up (sl_up m 55 0 a0.toNatClampNeg ((m.1 55 0 a0.toNatClampNeg) + (((a1 - ((m.1 55 0 a0.toNatClampNeg) - (m.1 55 0 a0.toNatClampNeg) / (m.1 11 0 10) * (m.1 11 0 10))) + (m.1 11 0 10)) - ((a1 - ((m.1 55 0 a0.toNatClampNeg) - (m.1 55 0 a0.toNatClampNeg) / (m.1 11 0 10) * (m.1 11 0 10))) + (m.1 11 0 10)) / (m.1 11 0 10) * (m.1 11 0 10)))) 54 0 a0.toNatClampNeg (m.1 53 0 a0.toNatClampNeg))
            else none
            else none
        else none
        else none
      else
        some ((0, 0, 0), (sl_up m 68 0 6 ((m.1 68 0 6) + (1 : Int32))))
      else none
      else none
  else none := by
  have h := g_X11_known_0 ca_X11_known 99999 a0 a1 a2 m
  simp only [bq_X11_known_94] at h
  exact h
theorem e_X11_known_94 (n : Nat) (v1 : Int32) (v3 : Int32) (v5 : Int32) (m : sl_M) : b_X11_known_94 (n + 1) v1 v3 v5 m =
  if ((8 : Int32) * v3) ≤ v5 then
    some ((0, 0, 0), m)
  else
    if 0 ≤ ((1 : Int32) + (v5 / (8 : Int32))) ∧ ((1 : Int32) + (v5 / (8 : Int32))).toNatClampNeg < 200 then
    if (((sl_sx (m.1 30 9 (((1 : Int32) + (v5 / (8 : Int32))).toNatClampNeg))) >>> ((v5 - v5 / (8 : Int32) * (8 : Int32)) &&& 31)) &&& (1 : Int32)) = (1 : Int32) then
      if 0 ≤ v1 ∧ v1.toNatClampNeg < 2 then
      if 0 ≤ v1 ∧ v1.toNatClampNeg < 2 then
      if (m.1 56 0 v1.toNatClampNeg) ≤ (((m.1 55 0 v1.toNatClampNeg) + v5) + (1 : Int32)) then
        b_X11_known_94 n v1 v3 (v5 + (1 : Int32)) m
      else
        if 0 ≤ v1 ∧ v1.toNatClampNeg < 2 then
        if 0 ≤ (((((3002 : Int32) * v1) + (m.1 55 0 v1.toNatClampNeg)) + v5) + (1 : Int32)) ∧ (((((3002 : Int32) * v1) + (m.1 55 0 v1.toNatClampNeg)) + v5) + (1 : Int32)).toNatClampNeg < 6004 then
        b_X11_known_94 n v1 v3 (v5 + (1 : Int32)) (sl_up m 70 0 ((((((3002 : Int32) * v1) + (m.1 55 0 v1.toNatClampNeg)) + v5) + (1 : Int32)).toNatClampNeg) (1 : Int32))
        else none
        else none
      else none
      else none
    else
      b_X11_known_94 n v1 v3 (v5 + (1 : Int32)) m
    else none := by
  have h := g_X11_known_94 ca_X11_known n v1 v3 v5 m
  simp only [bq_X11_known_94] at h
  exact h
