def tb_X11_takes (p : Nat) : Option sl_E := bif Nat.ble 175 p then none else (bif Nat.ble 92 p then (bif Nat.ble 128 p then (bif Nat.ble 150 p then (bif Nat.ble 162 p then (bif Nat.ble 167 p then (bif Nat.ble 171 p then (bif Nat.ble 174 p then (bif Nat.beq p 174 then some (50, 0, 0, 1, []) else none) else (bif Nat.beq p 171 then some (46, 0, 197, 3, []) else none)) else (bif Nat.ble 169 p then (bif Nat.beq p 169 then some (0, 0, 5, 2, []) else none) else (bif Nat.beq p 167 then some (0, 0, 4, 2, []) else none))) else (bif Nat.ble 165 p then (bif Nat.ble 166 p then (bif Nat.beq p 166 then some (0, 0, 1, 1, []) else none) else (bif Nat.beq p 165 then some (1, 0, 0, 1, []) else none)) else (bif Nat.beq p 162 then some (34, 0, 174, 3, []) else none))) else (bif Nat.ble 155 p then (bif Nat.ble 157 p then (bif Nat.ble 159 p then (bif Nat.beq p 159 then some (46, 0, 194, 3, []) else none) else (bif Nat.beq p 157 then some (0, 0, 5, 2, []) else none)) else (bif Nat.beq p 155 then some (0, 0, 4, 2, []) else none)) else (bif Nat.ble 153 p then (bif Nat.ble 154 p then (bif Nat.beq p 154 then some (0, 0, 1, 1, []) else none) else (bif Nat.beq p 153 then some (1, 0, 0, 1, []) else none)) else (bif Nat.beq p 150 then some (25, 0, 165, 3, []) else none)))) else (bif Nat.ble 137 p then (bif Nat.ble 145 p then (bif Nat.ble 146 p then (bif Nat.ble 149 p then (bif Nat.beq p 149 then some (2, 2, 0, 1, []) else none) else (bif Nat.beq p 146 then some (35, 0, 39, 3, []) else none)) else (bif Nat.beq p 145 then some (1, 0, 0, 1, []) else none)) else (bif Nat.ble 139 p then (bif Nat.ble 142 p then (bif Nat.beq p 142 then some (34, 0, 174, 3, []) else none) else (bif Nat.beq p 139 then some (46, 0, 190, 3, []) else none)) else (bif Nat.beq p 137 then some (0, 0, 5, 2, []) else none))) else (bif Nat.ble 133 p then (bif Nat.ble 134 p then (bif Nat.ble 135 p then (bif Nat.beq p 135 then some (0, 0, 4, 2, []) else none) else (bif Nat.beq p 134 then some (0, 0, 1, 1, []) else none)) else (bif Nat.beq p 133 then some (1, 0, 0, 1, []) else none)) else (bif Nat.ble 129 p then (bif Nat.ble 130 p then (bif Nat.beq p 130 then some (23, 0, 145, 3, []) else none) else (bif Nat.beq p 129 then some (2, 1, 0, 1, []) else none)) else (bif Nat.beq p 128 then some (0, 0, 3, 1, []) else none))))) else (bif Nat.ble 108 p then (bif Nat.ble 118 p then (bif Nat.ble 124 p then (bif Nat.ble 126 p then (bif Nat.ble 127 p then (bif Nat.beq p 127 then some (41, 0, 0, 1, []) else none) else (bif Nat.beq p 126 then some (6, 0, 0, 1, []) else none)) else (bif Nat.ble 125 p then (bif Nat.beq p 125 then some (2, 1, 0, 1, []) else none) else (bif Nat.beq p 124 then some (37, 0, 0, 1, []) else none))) else (bif Nat.ble 121 p then (bif Nat.ble 123 p then (bif Nat.beq p 123 then some (20, 0, 0, 1, []) else none) else (bif Nat.beq p 121 then some (2, 8, 0, 2, []) else none)) else (bif Nat.beq p 118 then some (35, 0, 133, 3, []) else none))) else (bif Nat.ble 113 p then (bif Nat.ble 114 p then (bif Nat.ble 117 p then (bif Nat.beq p 117 then some (1, 0, 0, 1, []) else none) else (bif Nat.beq p 114 then some (29, 0, 128, 3, []) else none)) else (bif Nat.beq p 113 then some (38, 0, 0, 1, []) else none)) else (bif Nat.ble 109 p then (bif Nat.ble 112 p then (bif Nat.beq p 112 then some (0, 0, 1, 1, []) else none) else (bif Nat.beq p 109 then some (35, 0, 106, 3, []) else none)) else (bif Nat.beq p 108 then some (1, 0, 0, 1, []) else none)))) else (bif Nat.ble 102 p then (bif Nat.ble 105 p then (bif Nat.ble 106 p then (bif Nat.ble 107 p then (bif Nat.beq p 107 then some (41, 0, 0, 1, []) else none) else (bif Nat.beq p 106 then some (6, 0, 0, 1, []) else none)) else (bif Nat.beq p 105 then some (2, 1, 0, 1, []) else none)) else (bif Nat.ble 103 p then (bif Nat.ble 104 p then (bif Nat.beq p 104 then some (37, 0, 0, 1, []) else none) else (bif Nat.beq p 103 then some (20, 0, 0, 1, []) else none)) else (bif Nat.beq p 102 then some (2, 4, 0, 1, []) else none))) else (bif Nat.ble 97 p then (bif Nat.ble 98 p then (bif Nat.ble 99 p then (bif Nat.beq p 99 then some (35, 0, 133, 3, []) else none) else (bif Nat.beq p 98 then some (1, 0, 0, 1, []) else none)) else (bif Nat.beq p 97 then some (50, 0, 0, 1, []) else none)) else (bif Nat.ble 93 p then (bif Nat.ble 94 p then (bif Nat.beq p 94 then some (46, 0, 187, 3, []) else none) else (bif Nat.beq p 93 then some (2, 4, 0, 1, []) else none)) else (bif Nat.beq p 92 then some (1, 0, 0, 1, []) else none)))))) else (bif Nat.ble 40 p then (bif Nat.ble 64 p then (bif Nat.ble 76 p then (bif Nat.ble 83 p then (bif Nat.ble 86 p then (bif Nat.ble 89 p then (bif Nat.beq p 89 then some (24, 0, 98, 3, []) else none) else (bif Nat.beq p 86 then some (35, 0, 42, 3, []) else none)) else (bif Nat.ble 85 p then (bif Nat.beq p 85 then some (1, 0, 0, 1, []) else none) else (bif Nat.beq p 83 then some (0, 0, 4, 2, []) else none))) else (bif Nat.ble 78 p then (bif Nat.ble 80 p then (bif Nat.beq p 80 then some (28, 0, 92, 3, []) else none) else (bif Nat.beq p 78 then some (0, 0, 6, 2, []) else none)) else (bif Nat.beq p 76 then some (3, 0, 6, 2, []) else none))) else (bif Nat.ble 71 p then (bif Nat.ble 72 p then (bif Nat.ble 75 p then (bif Nat.beq p 75 then some (2, 0, 0, 1, []) else none) else (bif Nat.beq p 72 then some (34, 0, 76, 3, []) else none)) else (bif Nat.beq p 71 then some (2, 1, 0, 1, []) else none)) else (bif Nat.ble 65 p then (bif Nat.ble 68 p then (bif Nat.beq p 68 then some (23, 0, 75, 3, []) else none) else (bif Nat.beq p 65 then some (46, 0, 173, 3, []) else none)) else (bif Nat.beq p 64 then some (1, 0, 0, 1, []) else none)))) else (bif Nat.ble 53 p then (bif Nat.ble 58 p then (bif Nat.ble 59 p then (bif Nat.ble 62 p then (bif Nat.beq p 62 then some (0, 0, 5, 2, []) else none) else (bif Nat.beq p 59 then some (23, 0, 75, 3, []) else none)) else (bif Nat.beq p 58 then some (2, 1, 0, 1, []) else none)) else (bif Nat.ble 54 p then (bif Nat.ble 57 p then (bif Nat.beq p 57 then some (0, 0, 3, 1, []) else none) else (bif Nat.beq p 54 then some (34, 0, 76, 3, []) else none)) else (bif Nat.beq p 53 then some (2, 0, 0, 1, []) else none))) else (bif Nat.ble 46 p then (bif Nat.ble 49 p then (bif Nat.ble 50 p then (bif Nat.beq p 50 then some (34, 0, 76, 3, []) else none) else (bif Nat.beq p 49 then some (2, 1, 0, 1, []) else none)) else (bif Nat.beq p 46 then some (26, 0, 53, 3, []) else none)) else (bif Nat.ble 42 p then (bif Nat.ble 43 p then (bif Nat.beq p 43 then some (35, 0, 48, 3, []) else none) else (bif Nat.beq p 42 then some (1, 0, 0, 1, []) else none)) else (bif Nat.beq p 40 then some (0, 0, 5, 2, []) else none))))) else (bif Nat.ble 19 p then (bif Nat.ble 27 p then (bif Nat.ble 31 p then (bif Nat.ble 36 p then (bif Nat.ble 37 p then (bif Nat.beq p 37 then some (24, 0, 53, 3, []) else none) else (bif Nat.beq p 36 then some (2, 1, 0, 1, []) else none)) else (bif Nat.ble 34 p then (bif Nat.beq p 34 then some (0, 0, 5, 2, []) else none) else (bif Nat.beq p 31 then some (29, 0, 57, 3, []) else none))) else (bif Nat.ble 28 p then (bif Nat.ble 30 p then (bif Nat.beq p 30 then some (0, 0, 3, 1, []) else none) else (bif Nat.beq p 28 then some (3, 0, 5, 2, []) else none)) else (bif Nat.beq p 27 then some (7, 0, 0, 1, []) else none))) else (bif Nat.ble 23 p then (bif Nat.ble 25 p then (bif Nat.ble 26 p then (bif Nat.beq p 26 then some (2, 5, 0, 1, []) else none) else (bif Nat.beq p 25 then some (0, 0, 2, 1, []) else none)) else (bif Nat.beq p 23 then some (3, 0, 4, 2, []) else none)) else (bif Nat.ble 20 p then (bif Nat.ble 22 p then (bif Nat.beq p 22 then some (11, 0, 0, 1, []) else none) else (bif Nat.beq p 20 then some (2, 63, 0, 2, []) else none)) else (bif Nat.beq p 19 then some (38, 0, 0, 1, []) else none)))) else (bif Nat.ble 10 p then (bif Nat.ble 14 p then (bif Nat.ble 15 p then (bif Nat.ble 18 p then (bif Nat.beq p 18 then some (2, 0, 0, 1, []) else none) else (bif Nat.beq p 15 then some (35, 0, 139, 3, []) else none)) else (bif Nat.beq p 14 then some (1, 0, 0, 1, []) else none)) else (bif Nat.ble 12 p then (bif Nat.ble 13 p then (bif Nat.beq p 13 then some (3, 0, 3, 1, []) else none) else (bif Nat.beq p 12 then some (15, 0, 0, 1, []) else none)) else (bif Nat.beq p 10 then some (2, 6, 0, 2, []) else none))) else (bif Nat.ble 5 p then (bif Nat.ble 6 p then (bif Nat.ble 9 p then (bif Nat.beq p 9 then some (11, 0, 0, 1, []) else none) else (bif Nat.beq p 6 then some (2, 255, 0, 3, []) else none)) else (bif Nat.beq p 5 then some (38, 0, 0, 1, []) else none)) else (bif Nat.ble 1 p then (bif Nat.ble 4 p then (bif Nat.beq p 4 then some (2, 0, 0, 1, []) else none) else (bif Nat.beq p 1 then some (35, 0, 139, 3, []) else none)) else (bif Nat.beq p 0 then some (1, 0, 0, 1, []) else none)))))))
def ca_X11_takes (y : Nat) (as : List sl_V) (m : sl_M) : Option (sl_PL × sl_M) := bif Nat.ble 117 y then (bif Nat.ble 118 y then (bif Nat.ble 119 y then (bif Nat.beq y 119 then F_X11_known as m else none) else (bif Nat.beq y 118 then F_X11_byItself as m else none)) else (bif Nat.beq y 117 then F_X11_inOrder as m else none)) else (bif Nat.ble 114 y then (bif Nat.beq y 114 then F_X11_wrong as m else none) else (bif Nat.beq y 109 then F_X11_knownBytes as m else none))
def sp_X11_takes (p : Nat) : Bool := false
def mk_X11_takes (p : Nat) : List Bool := []
def cl_X11_takes (p : Nat) : Option sl_C := bif Nat.ble 198 p then none else (bif Nat.ble 190 p then (bif Nat.ble 194 p then (bif Nat.ble 197 p then (bif Nat.beq p 197 then some (118, 4, 0, 0, 0, 12) else none) else (bif Nat.beq p 194 then some (117, 4, 0, 0, 0, 12) else none)) else (bif Nat.beq p 190 then some (119, 4, 0, 0, 0, 12) else none)) else (bif Nat.ble 187 p then (bif Nat.beq p 187 then some (114, 2, 0, 0, 0, 12) else none) else (bif Nat.beq p 173 then some (109, 1, 1, 0, 0, 12) else none)))
def R_X11_takes (ca : Nat → List sl_V → sl_M → Option (sl_PL × sl_M)) : Nat → sl_S → sl_M → Option (sl_PL × sl_M) := sl_B tb_X11_takes fl_X11 pf_X11 cl_X11_takes nw_X11 sl_rd sl_wr sl_al sl_ln 0 (fun _ => 0) ca sp_X11_takes mk_X11_takes
def F_X11_takes (as : List sl_V) (m : sl_M) : Option (sl_PL × sl_M) := R_X11_takes ca_X11_takes 100000 (0, sl_lo 7 as, []) m
def f_X11_takes (a0 : Int32) (a1 : Int32) (m : sl_M) : Option (sl_PL × sl_M) := F_X11_takes [.inr (.inl (some (11, 0))), .inl a0, .inl a1] m
def r_X11_takes_0 (ca : Nat → List sl_V → sl_M → Option (sl_PL × sl_M)) (n : Nat) (a0 : Int32) (a1 : Int32) (m : sl_M) : Option (sl_PL × sl_M) := R_X11_takes ca n (0, sl_lo 7 [.inr (.inl (some (11, 0))), .inl a0, .inl a1], []) m
set_option maxRecDepth 100000 in
theorem g_X11_takes_0 (ca : Nat → List sl_V → sl_M → Option (sl_PL × sl_M)) (n : Nat) (a0 : Int32) (a1 : Int32) (m : sl_M) : r_X11_takes_0 ca (n + 1) a0 a1 m =
  if (((sl_sx (m.1 30 9 0)) &&& (255 : Int32)) >>> ((6 : Int32) &&& 31)) = 0 then
    if (a1 - (5 : Int32)) < (1 : Int32) then
      (ca 114 [.inr (.inl (some (11, 0))), .inl (4 : Int32)] m).bind (fun q1 =>
      some ((0, 0, 0), q1.2))
    else
      if (m.1 11 0 12) < (a1 - (5 : Int32)) then
        (ca 114 [.inr (.inl (some (11, 0))), .inl (4 : Int32)] m).bind (fun q2 =>
        some ((0, 0, 0), q2.2))
      else
        if ((sl_sx (m.1 30 9 0)) &&& (63 : Int32)) < (m.1 11 0 10) then
          if 0 ≤ a0 ∧ a0.toNatClampNeg < 2 then
          if ((m.1 72 0 a0.toNatClampNeg) &&& 1) = 0 then
            if (((sl_sx (m.1 30 9 0)) &&& (255 : Int32)) >>> ((6 : Int32) &&& 31)) = (1 : Int32) then
              (ca 119 [.inr (.inl (some (11, 0))), .inl a0, .inl ((sl_sx (m.1 30 9 0)) &&& (63 : Int32)), .inl (a1 - (5 : Int32))] (sl_up (sl_up m 68 0 4 ((m.1 68 0 4) + (1 : Int32))) 68 0 8 ((m.1 68 0 8) + (1 : Int32)))).bind (fun q3 =>
              some ((0, 0, 0), q3.2))
            else
              if (2 : Int32) ≤ (m.1 11 0 9) then
                (ca 118 [.inr (.inl (some (11, 0))), .inl a0, .inl ((sl_sx (m.1 30 9 0)) &&& (63 : Int32)), .inl (a1 - (5 : Int32))] (sl_up (sl_up m 68 0 4 ((m.1 68 0 4) + (1 : Int32))) 68 0 8 ((m.1 68 0 8) + (1 : Int32)))).bind (fun q4 =>
                some ((0, 0, 0), q4.2))
              else
                (ca 117 [.inr (.inl (some (11, 0))), .inl a0, .inl ((sl_sx (m.1 30 9 0)) &&& (63 : Int32)), .inl (a1 - (5 : Int32))] (sl_up (sl_up m 68 0 4 ((m.1 68 0 4) + (1 : Int32))) 68 0 8 ((m.1 68 0 8) + (1 : Int32)))).bind (fun q5 =>
                some ((0, 0, 0), q5.2))
          else
            if (((sl_sx (m.1 30 9 0)) &&& (255 : Int32)) >>> ((6 : Int32) &&& 31)) = (1 : Int32) then
              (ca 119 [.inr (.inl (some (11, 0))), .inl a0, .inl ((sl_sx (m.1 30 9 0)) &&& (63 : Int32)), .inl (a1 - (5 : Int32))] (sl_up m 68 0 4 ((m.1 68 0 4) + (1 : Int32)))).bind (fun q6 =>
              some ((0, 0, 0), q6.2))
            else
              if (2 : Int32) ≤ (m.1 11 0 9) then
                (ca 118 [.inr (.inl (some (11, 0))), .inl a0, .inl ((sl_sx (m.1 30 9 0)) &&& (63 : Int32)), .inl (a1 - (5 : Int32))] (sl_up m 68 0 4 ((m.1 68 0 4) + (1 : Int32)))).bind (fun q7 =>
                some ((0, 0, 0), q7.2))
              else
                (ca 117 [.inr (.inl (some (11, 0))), .inl a0, .inl ((sl_sx (m.1 30 9 0)) &&& (63 : Int32)), .inl (a1 - (5 : Int32))] (sl_up m 68 0 4 ((m.1 68 0 4) + (1 : Int32)))).bind (fun q8 =>
                some ((0, 0, 0), q8.2))
          else none
        else
          (ca 114 [.inr (.inl (some (11, 0))), .inl (4 : Int32)] m).bind (fun q9 =>
          some ((0, 0, 0), q9.2))
  else
    if (((sl_sx (m.1 30 9 0)) &&& (255 : Int32)) >>> ((6 : Int32) &&& 31)) = (1 : Int32) then
      (ca 109 [.inr (.inl (some (11, 0)))] m).bind (fun q10 =>
      if (a1 - (5 : Int32)) = q10.1.1 then
        if ((sl_sx (m.1 30 9 0)) &&& (63 : Int32)) < (q10.2.1 11 0 10) then
          if 0 ≤ a0 ∧ a0.toNatClampNeg < 2 then
          if ((q10.2.1 72 0 a0.toNatClampNeg) &&& 1) = 0 then
            if (((sl_sx (m.1 30 9 0)) &&& (255 : Int32)) >>> ((6 : Int32) &&& 31)) = (1 : Int32) then
              (ca 119 [.inr (.inl (some (11, 0))), .inl a0, .inl ((sl_sx (m.1 30 9 0)) &&& (63 : Int32)), .inl (a1 - (5 : Int32))] (sl_up (sl_up q10.2 68 0 4 ((q10.2.1 68 0 4) + (1 : Int32))) 68 0 8 ((q10.2.1 68 0 8) + (1 : Int32)))).bind (fun q11 =>
              some ((0, 0, 0), q11.2))
            else
              if (2 : Int32) ≤ (q10.2.1 11 0 9) then
                (ca 118 [.inr (.inl (some (11, 0))), .inl a0, .inl ((sl_sx (m.1 30 9 0)) &&& (63 : Int32)), .inl (a1 - (5 : Int32))] (sl_up (sl_up q10.2 68 0 4 ((q10.2.1 68 0 4) + (1 : Int32))) 68 0 8 ((q10.2.1 68 0 8) + (1 : Int32)))).bind (fun q12 =>
                some ((0, 0, 0), q12.2))
              else
                (ca 117 [.inr (.inl (some (11, 0))), .inl a0, .inl ((sl_sx (m.1 30 9 0)) &&& (63 : Int32)), .inl (a1 - (5 : Int32))] (sl_up (sl_up q10.2 68 0 4 ((q10.2.1 68 0 4) + (1 : Int32))) 68 0 8 ((q10.2.1 68 0 8) + (1 : Int32)))).bind (fun q13 =>
                some ((0, 0, 0), q13.2))
          else
            if (((sl_sx (m.1 30 9 0)) &&& (255 : Int32)) >>> ((6 : Int32) &&& 31)) = (1 : Int32) then
              (ca 119 [.inr (.inl (some (11, 0))), .inl a0, .inl ((sl_sx (m.1 30 9 0)) &&& (63 : Int32)), .inl (a1 - (5 : Int32))] (sl_up q10.2 68 0 4 ((q10.2.1 68 0 4) + (1 : Int32)))).bind (fun q14 =>
              some ((0, 0, 0), q14.2))
            else
              if (2 : Int32) ≤ (q10.2.1 11 0 9) then
                (ca 118 [.inr (.inl (some (11, 0))), .inl a0, .inl ((sl_sx (m.1 30 9 0)) &&& (63 : Int32)), .inl (a1 - (5 : Int32))] (sl_up q10.2 68 0 4 ((q10.2.1 68 0 4) + (1 : Int32)))).bind (fun q15 =>
                some ((0, 0, 0), q15.2))
              else
                (ca 117 [.inr (.inl (some (11, 0))), .inl a0, .inl ((sl_sx (m.1 30 9 0)) &&& (63 : Int32)), .inl (a1 - (5 : Int32))] (sl_up q10.2 68 0 4 ((q10.2.1 68 0 4) + (1 : Int32)))).bind (fun q16 =>
                some ((0, 0, 0), q16.2))
          else none
        else
          (ca 114 [.inr (.inl (some (11, 0))), .inl (4 : Int32)] q10.2).bind (fun q17 =>
          some ((0, 0, 0), q17.2))
      else
        (ca 114 [.inr (.inl (some (11, 0))), .inl (4 : Int32)] q10.2).bind (fun q18 =>
        some ((0, 0, 0), q18.2)))
    else
      (ca 114 [.inr (.inl (some (11, 0))), .inl (4 : Int32)] m).bind (fun q19 =>
      some ((0, 0, 0), q19.2)) := by rfl
theorem cq_X11_takes_X11_knownBytes  (m : sl_M) : ca_X11_takes 109 [.inr (.inl (some (11, 0)))] m = f_X11_knownBytes m := by
  unfold ca_X11_takes f_X11_knownBytes
  rw [show Nat.ble 117 109 = false from rfl, cond_false, show Nat.ble 114 109 = false from rfl, cond_false, show Nat.beq 109 109 = true from rfl, cond_true]
theorem cq_X11_takes_X11_wrong (a0 : Int32) (m : sl_M) : ca_X11_takes 114 [.inr (.inl (some (11, 0))), .inl a0] m = f_X11_wrong a0 m := by
  unfold ca_X11_takes f_X11_wrong
  rw [show Nat.ble 117 114 = false from rfl, cond_false, show Nat.ble 114 114 = true from rfl, cond_true, show Nat.beq 114 114 = true from rfl, cond_true]
theorem cq_X11_takes_X11_inOrder (a0 : Int32) (a1 : Int32) (a2 : Int32) (m : sl_M) : ca_X11_takes 117 [.inr (.inl (some (11, 0))), .inl a0, .inl a1, .inl a2] m = f_X11_inOrder a0 a1 a2 m := by
  unfold ca_X11_takes f_X11_inOrder
  rw [show Nat.ble 117 117 = true from rfl, cond_true, show Nat.ble 118 117 = false from rfl, cond_false, show Nat.beq 117 117 = true from rfl, cond_true]
theorem cq_X11_takes_X11_byItself (a0 : Int32) (a1 : Int32) (a2 : Int32) (m : sl_M) : ca_X11_takes 118 [.inr (.inl (some (11, 0))), .inl a0, .inl a1, .inl a2] m = f_X11_byItself a0 a1 a2 m := by
  unfold ca_X11_takes f_X11_byItself
  rw [show Nat.ble 117 118 = true from rfl, cond_true, show Nat.ble 118 118 = true from rfl, cond_true, show Nat.ble 119 118 = false from rfl, cond_false, show Nat.beq 118 118 = true from rfl, cond_true]
theorem cq_X11_takes_X11_known (a0 : Int32) (a1 : Int32) (a2 : Int32) (m : sl_M) : ca_X11_takes 119 [.inr (.inl (some (11, 0))), .inl a0, .inl a1, .inl a2] m = f_X11_known a0 a1 a2 m := by
  unfold ca_X11_takes f_X11_known
  rw [show Nat.ble 117 119 = true from rfl, cond_true, show Nat.ble 118 119 = true from rfl, cond_true, show Nat.ble 119 119 = true from rfl, cond_true, show Nat.beq 119 119 = true from rfl, cond_true]
theorem e_X11_takes (a0 : Int32) (a1 : Int32) (m : sl_M) : f_X11_takes a0 a1 m =
  if (((sl_sx (m.1 30 9 0)) &&& (255 : Int32)) >>> ((6 : Int32) &&& 31)) = 0 then
    if (a1 - (5 : Int32)) < (1 : Int32) then
      (f_X11_wrong (4 : Int32) m).bind (fun q1 =>
      some ((0, 0, 0), q1.2))
    else
      if (m.1 11 0 12) < (a1 - (5 : Int32)) then
        (f_X11_wrong (4 : Int32) m).bind (fun q2 =>
        some ((0, 0, 0), q2.2))
      else
        if ((sl_sx (m.1 30 9 0)) &&& (63 : Int32)) < (m.1 11 0 10) then
          if 0 ≤ a0 ∧ a0.toNatClampNeg < 2 then
          if ((m.1 72 0 a0.toNatClampNeg) &&& 1) = 0 then
            if (((sl_sx (m.1 30 9 0)) &&& (255 : Int32)) >>> ((6 : Int32) &&& 31)) = (1 : Int32) then
              (f_X11_known a0 ((sl_sx (m.1 30 9 0)) &&& (63 : Int32)) (a1 - (5 : Int32)) (sl_up (sl_up m 68 0 4 ((m.1 68 0 4) + (1 : Int32))) 68 0 8 ((m.1 68 0 8) + (1 : Int32)))).bind (fun q3 =>
              some ((0, 0, 0), q3.2))
            else
              if (2 : Int32) ≤ (m.1 11 0 9) then
                (f_X11_byItself a0 ((sl_sx (m.1 30 9 0)) &&& (63 : Int32)) (a1 - (5 : Int32)) (sl_up (sl_up m 68 0 4 ((m.1 68 0 4) + (1 : Int32))) 68 0 8 ((m.1 68 0 8) + (1 : Int32)))).bind (fun q4 =>
                some ((0, 0, 0), q4.2))
              else
                (f_X11_inOrder a0 ((sl_sx (m.1 30 9 0)) &&& (63 : Int32)) (a1 - (5 : Int32)) (sl_up (sl_up m 68 0 4 ((m.1 68 0 4) + (1 : Int32))) 68 0 8 ((m.1 68 0 8) + (1 : Int32)))).bind (fun q5 =>
                some ((0, 0, 0), q5.2))
          else
            if (((sl_sx (m.1 30 9 0)) &&& (255 : Int32)) >>> ((6 : Int32) &&& 31)) = (1 : Int32) then
              (f_X11_known a0 ((sl_sx (m.1 30 9 0)) &&& (63 : Int32)) (a1 - (5 : Int32)) (sl_up m 68 0 4 ((m.1 68 0 4) + (1 : Int32)))).bind (fun q6 =>
              some ((0, 0, 0), q6.2))
            else
              if (2 : Int32) ≤ (m.1 11 0 9) then
                (f_X11_byItself a0 ((sl_sx (m.1 30 9 0)) &&& (63 : Int32)) (a1 - (5 : Int32)) (sl_up m 68 0 4 ((m.1 68 0 4) + (1 : Int32)))).bind (fun q7 =>
                some ((0, 0, 0), q7.2))
              else
                (f_X11_inOrder a0 ((sl_sx (m.1 30 9 0)) &&& (63 : Int32)) (a1 - (5 : Int32)) (sl_up m 68 0 4 ((m.1 68 0 4) + (1 : Int32)))).bind (fun q8 =>
                some ((0, 0, 0), q8.2))
          else none
        else
          (f_X11_wrong (4 : Int32) m).bind (fun q9 =>
          some ((0, 0, 0), q9.2))
  else
    if (((sl_sx (m.1 30 9 0)) &&& (255 : Int32)) >>> ((6 : Int32) &&& 31)) = (1 : Int32) then
      (f_X11_knownBytes m).bind (fun q10 =>
      if (a1 - (5 : Int32)) = q10.1.1 then
        if ((sl_sx (m.1 30 9 0)) &&& (63 : Int32)) < (q10.2.1 11 0 10) then
          if 0 ≤ a0 ∧ a0.toNatClampNeg < 2 then
          if ((q10.2.1 72 0 a0.toNatClampNeg) &&& 1) = 0 then
            if (((sl_sx (m.1 30 9 0)) &&& (255 : Int32)) >>> ((6 : Int32) &&& 31)) = (1 : Int32) then
              (f_X11_known a0 ((sl_sx (m.1 30 9 0)) &&& (63 : Int32)) (a1 - (5 : Int32)) (sl_up (sl_up q10.2 68 0 4 ((q10.2.1 68 0 4) + (1 : Int32))) 68 0 8 ((q10.2.1 68 0 8) + (1 : Int32)))).bind (fun q11 =>
              some ((0, 0, 0), q11.2))
            else
              if (2 : Int32) ≤ (q10.2.1 11 0 9) then
                (f_X11_byItself a0 ((sl_sx (m.1 30 9 0)) &&& (63 : Int32)) (a1 - (5 : Int32)) (sl_up (sl_up q10.2 68 0 4 ((q10.2.1 68 0 4) + (1 : Int32))) 68 0 8 ((q10.2.1 68 0 8) + (1 : Int32)))).bind (fun q12 =>
                some ((0, 0, 0), q12.2))
              else
                (f_X11_inOrder a0 ((sl_sx (m.1 30 9 0)) &&& (63 : Int32)) (a1 - (5 : Int32)) (sl_up (sl_up q10.2 68 0 4 ((q10.2.1 68 0 4) + (1 : Int32))) 68 0 8 ((q10.2.1 68 0 8) + (1 : Int32)))).bind (fun q13 =>
                some ((0, 0, 0), q13.2))
          else
            if (((sl_sx (m.1 30 9 0)) &&& (255 : Int32)) >>> ((6 : Int32) &&& 31)) = (1 : Int32) then
              (f_X11_known a0 ((sl_sx (m.1 30 9 0)) &&& (63 : Int32)) (a1 - (5 : Int32)) (sl_up q10.2 68 0 4 ((q10.2.1 68 0 4) + (1 : Int32)))).bind (fun q14 =>
              some ((0, 0, 0), q14.2))
            else
              if (2 : Int32) ≤ (q10.2.1 11 0 9) then
                (f_X11_byItself a0 ((sl_sx (m.1 30 9 0)) &&& (63 : Int32)) (a1 - (5 : Int32)) (sl_up q10.2 68 0 4 ((q10.2.1 68 0 4) + (1 : Int32)))).bind (fun q15 =>
                some ((0, 0, 0), q15.2))
              else
                (f_X11_inOrder a0 ((sl_sx (m.1 30 9 0)) &&& (63 : Int32)) (a1 - (5 : Int32)) (sl_up q10.2 68 0 4 ((q10.2.1 68 0 4) + (1 : Int32)))).bind (fun q16 =>
                some ((0, 0, 0), q16.2))
          else none
        else
          (f_X11_wrong (4 : Int32) q10.2).bind (fun q17 =>
          some ((0, 0, 0), q17.2))
      else
        (f_X11_wrong (4 : Int32) q10.2).bind (fun q18 =>
        some ((0, 0, 0), q18.2)))
    else
      (f_X11_wrong (4 : Int32) m).bind (fun q19 =>
      some ((0, 0, 0), q19.2)) := by
  have h := g_X11_takes_0 ca_X11_takes 99999 a0 a1 m
  simp only [cq_X11_takes_X11_knownBytes, cq_X11_takes_X11_wrong, cq_X11_takes_X11_inOrder, cq_X11_takes_X11_byItself, cq_X11_takes_X11_known] at h
  exact h

def tb_X11_isRight (p : Nat) : Option sl_E := bif Nat.ble 71 p then none else (bif Nat.ble 34 p then (bif Nat.ble 50 p then (bif Nat.ble 61 p then (bif Nat.ble 66 p then (bif Nat.ble 69 p then (bif Nat.ble 70 p then (bif Nat.beq p 70 then some (47, 0, 2, 1, []) else none) else (bif Nat.beq p 69 then some (0, 0, 3, 1, []) else none)) else (bif Nat.beq p 66 then some (34, 0, 18, 3, []) else none)) else (bif Nat.ble 62 p then (bif Nat.ble 63 p then (bif Nat.beq p 63 then some (5, 1, 4, 3, []) else none) else (bif Nat.beq p 62 then some (3, 0, 3, 1, []) else none)) else (bif Nat.beq p 61 then some (2, 0, 0, 1, []) else none))) else (bif Nat.ble 54 p then (bif Nat.ble 57 p then (bif Nat.ble 58 p then (bif Nat.beq p 58 then some (34, 0, 62, 3, []) else none) else (bif Nat.beq p 57 then some (2, 1, 0, 1, []) else none)) else (bif Nat.beq p 54 then some (23, 0, 61, 3, []) else none)) else (bif Nat.ble 53 p then (bif Nat.beq p 53 then some (11, 0, 0, 1, []) else none) else (bif Nat.beq p 50 then some (2, 255, 0, 3, []) else none)))) else (bif Nat.ble 42 p then (bif Nat.ble 46 p then (bif Nat.ble 48 p then (bif Nat.ble 49 p then (bif Nat.beq p 49 then some (16, 0, 0, 1, []) else none) else (bif Nat.beq p 48 then some (8, 0, 0, 1, []) else none)) else (bif Nat.beq p 46 then some (0, 0, 4, 2, []) else none)) else (bif Nat.ble 43 p then (bif Nat.ble 44 p then (bif Nat.beq p 44 then some (2, 8, 0, 2, []) else none) else (bif Nat.beq p 43 then some (0, 0, 2, 1, []) else none)) else (bif Nat.beq p 42 then some (11, 0, 0, 1, []) else none))) else (bif Nat.ble 37 p then (bif Nat.ble 38 p then (bif Nat.ble 39 p then (bif Nat.beq p 39 then some (2, 255, 0, 3, []) else none) else (bif Nat.beq p 38 then some (38, 0, 0, 1, []) else none)) else (bif Nat.beq p 37 then some (6, 0, 0, 1, []) else none)) else (bif Nat.ble 35 p then (bif Nat.beq p 35 then some (0, 0, 4, 2, []) else none) else (bif Nat.beq p 34 then some (7, 0, 0, 1, []) else none))))) else (bif Nat.ble 15 p then (bif Nat.ble 24 p then (bif Nat.ble 29 p then (bif Nat.ble 32 p then (bif Nat.ble 33 p then (bif Nat.beq p 33 then some (2, 4, 0, 1, []) else none) else (bif Nat.beq p 32 then some (0, 0, 1, 1, []) else none)) else (bif Nat.beq p 29 then some (35, 0, 139, 3, []) else none)) else (bif Nat.ble 25 p then (bif Nat.ble 28 p then (bif Nat.beq p 28 then some (1, 0, 0, 1, []) else none) else (bif Nat.beq p 25 then some (28, 0, 61, 3, []) else none)) else (bif Nat.beq p 24 then some (0, 0, 3, 1, []) else none))) else (bif Nat.ble 18 p then (bif Nat.ble 20 p then (bif Nat.ble 21 p then (bif Nat.beq p 21 then some (25, 0, 69, 3, []) else none) else (bif Nat.beq p 20 then some (2, 4, 0, 1, []) else none)) else (bif Nat.beq p 18 then some (0, 0, 4, 2, []) else none)) else (bif Nat.ble 16 p then (bif Nat.beq p 16 then some (3, 0, 4, 2, []) else none) else (bif Nat.beq p 15 then some (2, 0, 0, 1, []) else none)))) else (bif Nat.ble 7 p then (bif Nat.ble 12 p then (bif Nat.ble 13 p then (bif Nat.ble 14 p then (bif Nat.beq p 14 then some (3, 0, 3, 1, []) else none) else (bif Nat.beq p 13 then some (2, 1, 0, 1, []) else none)) else (bif Nat.beq p 12 then some (3, 0, 2, 1, []) else none)) else (bif Nat.ble 8 p then (bif Nat.ble 9 p then (bif Nat.beq p 9 then some (46, 0, 149, 3, []) else none) else (bif Nat.beq p 8 then some (7, 0, 0, 1, []) else none)) else (bif Nat.beq p 7 then some (2, 4, 0, 1, []) else none))) else (bif Nat.ble 2 p then (bif Nat.ble 5 p then (bif Nat.ble 6 p then (bif Nat.beq p 6 then some (0, 0, 1, 1, []) else none) else (bif Nat.beq p 5 then some (2, 0, 0, 1, []) else none)) else (bif Nat.beq p 2 then some (35, 0, 139, 3, []) else none)) else (bif Nat.ble 1 p then (bif Nat.beq p 1 then some (1, 0, 0, 1, []) else none) else (bif Nat.beq p 0 then some (1, 0, 0, 1, []) else none))))))
def ca_X11_isRight (y : Nat) (as : List sl_V) (m : sl_M) : Option (sl_PL × sl_M) := bif Nat.beq y 95 then F_X11_checkOf as m else none
def sp_X11_isRight (p : Nat) : Bool := Nat.beq p 18
def mk_X11_isRight (p : Nat) : List Bool := bif Nat.beq p 18 then [true, true, true, true, true] else []
def cl_X11_isRight (p : Nat) : Option sl_C := bif Nat.ble 150 p then none else (bif Nat.beq p 149 then some (95, 4, 1, 0, 0, 12) else none)
def R_X11_isRight (ca : Nat → List sl_V → sl_M → Option (sl_PL × sl_M)) : Nat → sl_S → sl_M → Option (sl_PL × sl_M) := sl_B tb_X11_isRight fl_X11 pf_X11 cl_X11_isRight nw_X11 sl_rd sl_wr sl_al sl_ln 0 (fun _ => 0) ca sp_X11_isRight mk_X11_isRight
def F_X11_isRight (as : List sl_V) (m : sl_M) : Option (sl_PL × sl_M) := R_X11_isRight ca_X11_isRight 100000 (0, sl_lo 5 as, []) m
def f_X11_isRight (a0 : Int32) (m : sl_M) : Option (sl_PL × sl_M) := F_X11_isRight [.inr (.inl (some (11, 0))), .inl a0] m
def r_X11_isRight_0 (ca : Nat → List sl_V → sl_M → Option (sl_PL × sl_M)) (n : Nat) (a0 : Int32) (m : sl_M) : Option (sl_PL × sl_M) := R_X11_isRight ca n (0, sl_lo 5 [.inr (.inl (some (11, 0))), .inl a0], []) m
def r_X11_isRight_18 (ca : Nat → List sl_V → sl_M → Option (sl_PL × sl_M)) (n : Nat) (v1 : Int32) (v2 : Int32) (v3 : Int32) (v4 : Int32) (m : sl_M) : Option (sl_PL × sl_M) := R_X11_isRight ca n (18, [some (.inr (.inl (some (11, 0)))), some (.inl v1), some (.inl v2), some (.inl v3), some (.inl v4)], []) m
def b_X11_isRight_18 (n : Nat) (v1 : Int32) (v2 : Int32) (v3 : Int32) (v4 : Int32) (m : sl_M) : Option (sl_PL × sl_M) := r_X11_isRight_18 ca_X11_isRight n v1 v2 v3 v4 m
set_option maxRecDepth 100000 in
theorem g_X11_isRight_0 (ca : Nat → List sl_V → sl_M → Option (sl_PL × sl_M)) (n : Nat) (a0 : Int32) (m : sl_M) : r_X11_isRight_0 ca (n + 1) a0 m =
  (ca 95 [.inr (.inl (some (11, 0))), .inr (.inl (some (30, 9))), .inl (0 : Int32), .inl (a0 - (4 : Int32))] m).bind (fun q1 =>
  r_X11_isRight_18 ca n a0 q1.1.1 (1 : Int32) (0 : Int32) q1.2) := by rfl
set_option maxRecDepth 100000 in
theorem g_X11_isRight_18 (ca : Nat → List sl_V → sl_M → Option (sl_PL × sl_M)) (n : Nat) (v1 : Int32) (v2 : Int32) (v3 : Int32) (v4 : Int32) (m : sl_M) : r_X11_isRight_18 ca (n + 1) v1 v2 v3 v4 m =
  if (4 : Int32) ≤ v4 then
    if v3 = 0 ∨ v3 = 1 then some ((v3, 0, 0), m) else none
  else
    if v3 = 0 then
      r_X11_isRight_18 ca n v1 v2 (0 : Int32) (v4 + (1 : Int32)) m
    else
      if 0 ≤ ((v1 - (4 : Int32)) + v4) ∧ ((v1 - (4 : Int32)) + v4).toNatClampNeg < 200 then
      if ((sl_sx (m.1 30 9 (((v1 - (4 : Int32)) + v4).toNatClampNeg))) &&& (255 : Int32)) = ((sl_ush v2 ((8 : Int32) * v4)) &&& (255 : Int32)) then
        r_X11_isRight_18 ca n v1 v2 (1 : Int32) (v4 + (1 : Int32)) m
      else
        r_X11_isRight_18 ca n v1 v2 (0 : Int32) (v4 + (1 : Int32)) m
      else none := by rfl
theorem cq_X11_isRight_X11_checkOf (a0 : Nat) (a1 : Int32) (a2 : Int32) (m : sl_M) : ca_X11_isRight 95 [.inr (.inl (some (11, 0))), .inr (.inl (some (30, a0))), .inl a1, .inl a2] m = f_X11_checkOf a0 a1 a2 m := by
  unfold ca_X11_isRight f_X11_checkOf
  rw [show Nat.beq 95 95 = true from rfl, cond_true]
theorem bq_X11_isRight_18 (n : Nat) (v1 : Int32) (v2 : Int32) (v3 : Int32) (v4 : Int32) (m : sl_M) : r_X11_isRight_18 ca_X11_isRight n v1 v2 v3 v4 m = b_X11_isRight_18 n v1 v2 v3 v4 m := rfl
theorem e_X11_isRight (a0 : Int32) (m : sl_M) : f_X11_isRight a0 m =
  (f_X11_checkOf 9 (0 : Int32) (a0 - (4 : Int32)) m).bind (fun q1 =>
  b_X11_isRight_18 99999 a0 q1.1.1 (1 : Int32) (0 : Int32) q1.2) := by
  have h := g_X11_isRight_0 ca_X11_isRight 99999 a0 m
  simp only [cq_X11_isRight_X11_checkOf, bq_X11_isRight_18] at h
  exact h
theorem e_X11_isRight_18 (n : Nat) (v1 : Int32) (v2 : Int32) (v3 : Int32) (v4 : Int32) (m : sl_M) : b_X11_isRight_18 (n + 1) v1 v2 v3 v4 m =
  if (4 : Int32) ≤ v4 then
    if v3 = 0 ∨ v3 = 1 then some ((v3, 0, 0), m) else none
  else
    if v3 = 0 then
      b_X11_isRight_18 n v1 v2 (0 : Int32) (v4 + (1 : Int32)) m
    else
      if 0 ≤ ((v1 - (4 : Int32)) + v4) ∧ ((v1 - (4 : Int32)) + v4).toNatClampNeg < 200 then
      if ((sl_sx (m.1 30 9 (((v1 - (4 : Int32)) + v4).toNatClampNeg))) &&& (255 : Int32)) = ((sl_ush v2 ((8 : Int32) * v4)) &&& (255 : Int32)) then
        b_X11_isRight_18 n v1 v2 (1 : Int32) (v4 + (1 : Int32)) m
      else
        b_X11_isRight_18 n v1 v2 (0 : Int32) (v4 + (1 : Int32)) m
      else none := by
  have h := g_X11_isRight_18 ca_X11_isRight n v1 v2 v3 v4 m
  simp only [cq_X11_isRight_X11_checkOf, bq_X11_isRight_18] at h
  exact h

def tb_X11_hears (p : Nat) : Option sl_E := bif Nat.ble 224 p then none else (bif Nat.ble 104 p then (bif Nat.ble 162 p then (bif Nat.ble 195 p then (bif Nat.ble 211 p then (bif Nat.ble 220 p then (bif Nat.ble 222 p then (bif Nat.ble 223 p then (bif Nat.beq p 223 then some (50, 0, 0, 1, []) else none) else (bif Nat.beq p 222 then some (42, 0, 0, 1, []) else none)) else (bif Nat.ble 221 p then (bif Nat.beq p 221 then some (2, 0, 0, 1, []) else none) else (bif Nat.beq p 220 then some (0, 0, 1, 1, []) else none))) else (bif Nat.ble 216 p then (bif Nat.ble 217 p then (bif Nat.beq p 217 then some (35, 0, 106, 3, []) else none) else (bif Nat.beq p 216 then some (1, 0, 0, 1, []) else none)) else (bif Nat.ble 213 p then (bif Nat.beq p 213 then some (46, 0, 210, 3, []) else none) else (bif Nat.beq p 211 then some (0, 0, 7, 2, []) else none)))) else (bif Nat.ble 203 p then (bif Nat.ble 209 p then (bif Nat.ble 210 p then (bif Nat.beq p 210 then some (0, 0, 1, 1, []) else none) else (bif Nat.beq p 209 then some (1, 0, 0, 1, []) else none)) else (bif Nat.ble 206 p then (bif Nat.beq p 206 then some (34, 0, 216, 3, []) else none) else (bif Nat.beq p 203 then some (46, 0, 187, 3, []) else none))) else (bif Nat.ble 201 p then (bif Nat.ble 202 p then (bif Nat.beq p 202 then some (2, 3, 0, 1, []) else none) else (bif Nat.beq p 201 then some (1, 0, 0, 1, []) else none)) else (bif Nat.ble 198 p then (bif Nat.beq p 198 then some (29, 0, 209, 3, []) else none) else (bif Nat.beq p 195 then some (46, 0, 207, 3, []) else none))))) else (bif Nat.ble 180 p then (bif Nat.ble 186 p then (bif Nat.ble 192 p then (bif Nat.ble 193 p then (bif Nat.beq p 193 then some (0, 0, 7, 2, []) else none) else (bif Nat.beq p 192 then some (1, 0, 0, 1, []) else none)) else (bif Nat.ble 189 p then (bif Nat.beq p 189 then some (34, 0, 216, 3, []) else none) else (bif Nat.beq p 186 then some (46, 0, 187, 3, []) else none))) else (bif Nat.ble 184 p then (bif Nat.ble 185 p then (bif Nat.beq p 185 then some (2, 2, 0, 1, []) else none) else (bif Nat.beq p 184 then some (1, 0, 0, 1, []) else none)) else (bif Nat.ble 181 p then (bif Nat.beq p 181 then some (25, 0, 192, 3, []) else none) else (bif Nat.beq p 180 then some (2, 5, 0, 1, []) else none)))) else (bif Nat.ble 171 p then (bif Nat.ble 175 p then (bif Nat.ble 178 p then (bif Nat.beq p 178 then some (0, 0, 7, 2, []) else none) else (bif Nat.beq p 175 then some (34, 0, 216, 3, []) else none)) else (bif Nat.ble 172 p then (bif Nat.beq p 172 then some (46, 0, 187, 3, []) else none) else (bif Nat.beq p 171 then some (2, 1, 0, 1, []) else none))) else (bif Nat.ble 167 p then (bif Nat.ble 170 p then (bif Nat.beq p 170 then some (1, 0, 0, 1, []) else none) else (bif Nat.beq p 167 then some (31, 0, 178, 3, []) else none)) else (bif Nat.ble 165 p then (bif Nat.beq p 165 then some (0, 0, 7, 2, []) else none) else (bif Nat.beq p 162 then some (36, 0, 33, 3, []) else none)))))) else (bif Nat.ble 131 p then (bif Nat.ble 145 p then (bif Nat.ble 154 p then (bif Nat.ble 159 p then (bif Nat.ble 160 p then (bif Nat.beq p 160 then some (0, 0, 6, 2, []) else none) else (bif Nat.beq p 159 then some (1, 0, 0, 1, []) else none)) else (bif Nat.ble 156 p then (bif Nat.beq p 156 then some (36, 0, 30, 3, []) else none) else (bif Nat.beq p 154 then some (0, 0, 5, 2, []) else none))) else (bif Nat.ble 151 p then (bif Nat.ble 153 p then (bif Nat.beq p 153 then some (1, 0, 0, 1, []) else none) else (bif Nat.beq p 151 then some (3, 0, 7, 2, []) else none)) else (bif Nat.ble 148 p then (bif Nat.beq p 148 then some (46, 0, 161, 3, []) else none) else (bif Nat.beq p 145 then some (35, 0, 139, 3, []) else none)))) else (bif Nat.ble 138 p then (bif Nat.ble 142 p then (bif Nat.ble 144 p then (bif Nat.beq p 144 then some (1, 0, 0, 1, []) else none) else (bif Nat.beq p 142 then some (0, 0, 4, 2, []) else none)) else (bif Nat.ble 139 p then (bif Nat.beq p 139 then some (35, 0, 36, 3, []) else none) else (bif Nat.beq p 138 then some (1, 0, 0, 1, []) else none))) else (bif Nat.ble 135 p then (bif Nat.ble 137 p then (bif Nat.beq p 137 then some (1, 0, 0, 1, []) else none) else (bif Nat.beq p 135 then some (3, 0, 6, 2, []) else none)) else (bif Nat.ble 132 p then (bif Nat.beq p 132 then some (35, 0, 33, 3, []) else none) else (bif Nat.beq p 131 then some (1, 0, 0, 1, []) else none))))) else (bif Nat.ble 116 p then (bif Nat.ble 122 p then (bif Nat.ble 126 p then (bif Nat.ble 129 p then (bif Nat.beq p 129 then some (3, 0, 5, 2, []) else none) else (bif Nat.beq p 126 then some (35, 0, 30, 3, []) else none)) else (bif Nat.ble 125 p then (bif Nat.beq p 125 then some (1, 0, 0, 1, []) else none) else (bif Nat.beq p 122 then some (34, 0, 93, 3, []) else none))) else (bif Nat.ble 118 p then (bif Nat.ble 119 p then (bif Nat.beq p 119 then some (5, 1, 5, 3, []) else none) else (bif Nat.beq p 118 then some (42, 0, 0, 1, []) else none)) else (bif Nat.ble 117 p then (bif Nat.beq p 117 then some (38, 0, 0, 1, []) else none) else (bif Nat.beq p 116 then some (6, 0, 0, 1, []) else none)))) else (bif Nat.ble 110 p then (bif Nat.ble 113 p then (bif Nat.ble 114 p then (bif Nat.beq p 114 then some (0, 0, 5, 2, []) else none) else (bif Nat.beq p 113 then some (8, 0, 0, 1, []) else none)) else (bif Nat.ble 112 p then (bif Nat.beq p 112 then some (0, 0, 1, 1, []) else none) else (bif Nat.beq p 110 then some (2, 120, 0, 2, []) else none))) else (bif Nat.ble 106 p then (bif Nat.ble 107 p then (bif Nat.beq p 107 then some (35, 0, 100, 3, []) else none) else (bif Nat.beq p 106 then some (1, 0, 0, 1, []) else none)) else (bif Nat.beq p 104 then some (0, 0, 5, 2, []) else none)))))) else (bif Nat.ble 49 p then (bif Nat.ble 70 p then (bif Nat.ble 87 p then (bif Nat.ble 95 p then (bif Nat.ble 100 p then (bif Nat.ble 101 p then (bif Nat.beq p 101 then some (35, 0, 36, 3, []) else none) else (bif Nat.beq p 100 then some (1, 0, 0, 1, []) else none)) else (bif Nat.ble 97 p then (bif Nat.beq p 97 then some (25, 0, 125, 3, []) else none) else (bif Nat.beq p 95 then some (0, 0, 4, 2, []) else none))) else (bif Nat.ble 91 p then (bif Nat.ble 93 p then (bif Nat.beq p 93 then some (0, 0, 5, 2, []) else none) else (bif Nat.beq p 91 then some (3, 0, 5, 2, []) else none)) else (bif Nat.ble 90 p then (bif Nat.beq p 90 then some (2, 0, 0, 1, []) else none) else (bif Nat.beq p 87 then some (33, 0, 216, 3, []) else none)))) else (bif Nat.ble 78 p then (bif Nat.ble 82 p then (bif Nat.ble 85 p then (bif Nat.beq p 85 then some (0, 0, 4, 2, []) else none) else (bif Nat.beq p 82 then some (34, 0, 216, 3, []) else none)) else (bif Nat.ble 79 p then (bif Nat.beq p 79 then some (46, 0, 187, 3, []) else none) else (bif Nat.beq p 78 then some (2, 5, 0, 1, []) else none))) else (bif Nat.ble 74 p then (bif Nat.ble 77 p then (bif Nat.beq p 77 then some (1, 0, 0, 1, []) else none) else (bif Nat.beq p 74 then some (27, 0, 85, 3, []) else none)) else (bif Nat.ble 72 p then (bif Nat.beq p 72 then some (2, 120, 0, 2, []) else none) else (bif Nat.beq p 70 then some (0, 0, 4, 2, []) else none))))) else (bif Nat.ble 59 p then (bif Nat.ble 64 p then (bif Nat.ble 68 p then (bif Nat.ble 69 p then (bif Nat.beq p 69 then some (41, 0, 0, 1, []) else none) else (bif Nat.beq p 68 then some (2, 0, 0, 1, []) else none)) else (bif Nat.ble 67 p then (bif Nat.beq p 67 then some (0, 0, 1, 1, []) else none) else (bif Nat.beq p 64 then some (35, 0, 103, 3, []) else none))) else (bif Nat.ble 61 p then (bif Nat.ble 63 p then (bif Nat.beq p 63 then some (1, 0, 0, 1, []) else none) else (bif Nat.beq p 61 then some (3, 0, 4, 2, []) else none)) else (bif Nat.ble 60 p then (bif Nat.beq p 60 then some (37, 0, 0, 1, []) else none) else (bif Nat.beq p 59 then some (0, 0, 1, 1, []) else none)))) else (bif Nat.ble 53 p then (bif Nat.ble 55 p then (bif Nat.ble 56 p then (bif Nat.beq p 56 then some (35, 0, 103, 3, []) else none) else (bif Nat.beq p 55 then some (1, 0, 0, 1, []) else none)) else (bif Nat.ble 54 p then (bif Nat.beq p 54 then some (50, 0, 0, 1, []) else none) else (bif Nat.beq p 53 then some (41, 0, 0, 1, []) else none))) else (bif Nat.ble 51 p then (bif Nat.ble 52 p then (bif Nat.beq p 52 then some (6, 0, 0, 1, []) else none) else (bif Nat.beq p 51 then some (2, 1, 0, 1, []) else none)) else (bif Nat.ble 50 p then (bif Nat.beq p 50 then some (37, 0, 0, 1, []) else none) else (bif Nat.beq p 49 then some (20, 0, 0, 1, []) else none)))))) else (bif Nat.ble 26 p then (bif Nat.ble 39 p then (bif Nat.ble 43 p then (bif Nat.ble 45 p then (bif Nat.ble 48 p then (bif Nat.beq p 48 then some (0, 0, 1, 1, []) else none) else (bif Nat.beq p 45 then some (35, 0, 103, 3, []) else none)) else (bif Nat.ble 44 p then (bif Nat.beq p 44 then some (1, 0, 0, 1, []) else none) else (bif Nat.beq p 43 then some (42, 0, 0, 1, []) else none))) else (bif Nat.ble 41 p then (bif Nat.ble 42 p then (bif Nat.beq p 42 then some (17, 0, 0, 1, []) else none) else (bif Nat.beq p 41 then some (0, 0, 2, 1, []) else none)) else (bif Nat.ble 40 p then (bif Nat.beq p 40 then some (6, 0, 0, 1, []) else none) else (bif Nat.beq p 39 then some (37, 0, 0, 1, []) else none)))) else (bif Nat.ble 33 p then (bif Nat.ble 35 p then (bif Nat.ble 38 p then (bif Nat.beq p 38 then some (0, 0, 1, 1, []) else none) else (bif Nat.beq p 35 then some (35, 0, 103, 3, []) else none)) else (bif Nat.ble 34 p then (bif Nat.beq p 34 then some (1, 0, 0, 1, []) else none) else (bif Nat.beq p 33 then some (8, 0, 0, 1, []) else none))) else (bif Nat.ble 30 p then (bif Nat.ble 32 p then (bif Nat.beq p 32 then some (0, 0, 1, 1, []) else none) else (bif Nat.beq p 30 then some (2, 120, 0, 2, []) else none)) else (bif Nat.ble 27 p then (bif Nat.beq p 27 then some (35, 0, 100, 3, []) else none) else (bif Nat.beq p 26 then some (1, 0, 0, 1, []) else none))))) else (bif Nat.ble 11 p then (bif Nat.ble 19 p then (bif Nat.ble 21 p then (bif Nat.ble 23 p then (bif Nat.beq p 23 then some (25, 0, 44, 3, []) else none) else (bif Nat.beq p 21 then some (2, 120, 0, 2, []) else none)) else (bif Nat.ble 20 p then (bif Nat.beq p 20 then some (37, 0, 0, 1, []) else none) else (bif Nat.beq p 19 then some (0, 0, 1, 1, []) else none))) else (bif Nat.ble 15 p then (bif Nat.ble 16 p then (bif Nat.beq p 16 then some (35, 0, 103, 3, []) else none) else (bif Nat.beq p 15 then some (1, 0, 0, 1, []) else none)) else (bif Nat.ble 12 p then (bif Nat.beq p 12 then some (28, 0, 55, 3, []) else none) else (bif Nat.beq p 11 then some (0, 0, 2, 1, []) else none)))) else (bif Nat.ble 5 p then (bif Nat.ble 9 p then (bif Nat.ble 10 p then (bif Nat.beq p 10 then some (42, 0, 0, 1, []) else none) else (bif Nat.beq p 9 then some (2, 0, 0, 1, []) else none)) else (bif Nat.ble 8 p then (bif Nat.beq p 8 then some (0, 0, 1, 1, []) else none) else (bif Nat.beq p 5 then some (35, 0, 106, 3, []) else none))) else (bif Nat.ble 1 p then (bif Nat.ble 4 p then (bif Nat.beq p 4 then some (1, 0, 0, 1, []) else none) else (bif Nat.beq p 1 then some (29, 0, 11, 3, []) else none)) else (bif Nat.beq p 0 then some (0, 0, 3, 1, []) else none)))))))
def ca_X11_hears (y : Nat) (as : List sl_V) (m : sl_M) : Option (sl_PL × sl_M) := bif Nat.ble 115 y then (bif Nat.ble 121 y then (bif Nat.beq y 121 then F_X11_isRight as m else none) else (bif Nat.beq y 115 then F_X11_takes as m else none)) else (bif Nat.ble 114 y then (bif Nat.beq y 114 then F_X11_wrong as m else none) else (bif Nat.beq y 98 then F_X11_unstuffed as m else none))
def sp_X11_hears (p : Nat) : Bool := Nat.beq p 93
def mk_X11_hears (p : Nat) : List Bool := bif Nat.beq p 93 then [true, true, false, false, true, true, false, false] else []
def cl_X11_hears (p : Nat) : Option sl_C := bif Nat.ble 211 p then none else (bif Nat.ble 207 p then (bif Nat.ble 210 p then (bif Nat.beq p 210 then some (115, 3, 0, 0, 0, 12) else none) else (bif Nat.beq p 207 then some (121, 2, 1, 0, 0, 12) else none)) else (bif Nat.ble 187 p then (bif Nat.beq p 187 then some (114, 2, 0, 0, 0, 12) else none) else (bif Nat.beq p 161 then some (98, 4, 1, 0, 0, 12) else none)))
def R_X11_hears (ca : Nat → List sl_V → sl_M → Option (sl_PL × sl_M)) : Nat → sl_S → sl_M → Option (sl_PL × sl_M) := sl_B tb_X11_hears fl_X11 pf_X11 cl_X11_hears nw_X11 sl_rd sl_wr sl_al sl_ln 0 (fun _ => 0) ca sp_X11_hears mk_X11_hears
def F_X11_hears (as : List sl_V) (m : sl_M) : Option (sl_PL × sl_M) := R_X11_hears ca_X11_hears 100000 (0, sl_lo 8 as, []) m
def f_X11_hears (a0 : Int32) (a1 : Int32) (a2 : Int32) (m : sl_M) : Option (sl_PL × sl_M) := F_X11_hears [.inr (.inl (some (11, 0))), .inl a0, .inl a1, .inl a2] m
def r_X11_hears_0 (ca : Nat → List sl_V → sl_M → Option (sl_PL × sl_M)) (n : Nat) (a0 : Int32) (a1 : Int32) (a2 : Int32) (m : sl_M) : Option (sl_PL × sl_M) := R_X11_hears ca n (0, sl_lo 8 [.inr (.inl (some (11, 0))), .inl a0, .inl a1, .inl a2], []) m
def r_X11_hears_93 (ca : Nat → List sl_V → sl_M → Option (sl_PL × sl_M)) (n : Nat) (v1 : Int32) (v4 : Int32) (v5 : Int32) (m : sl_M) : Option (sl_PL × sl_M) := R_X11_hears ca n (93, [some (.inr (.inl (some (11, 0)))), some (.inl v1), none, none, some (.inl v4), some (.inl v5), none, none], []) m
def b_X11_hears_93 (n : Nat) (v1 : Int32) (v4 : Int32) (v5 : Int32) (m : sl_M) : Option (sl_PL × sl_M) := r_X11_hears_93 ca_X11_hears n v1 v4 v5 m
set_option maxRecDepth 100000 in
theorem g_X11_hears_0 (ca : Nat → List sl_V → sl_M → Option (sl_PL × sl_M)) (n : Nat) (a0 : Int32) (a1 : Int32) (a2 : Int32) (m : sl_M) : r_X11_hears_0 ca (n + 1) a0 a1 a2 m =
  if a2 = 0 then
    if 0 ≤ a0 ∧ a0.toNatClampNeg < 2 then
    if a1 = 0 then
      if 0 ≤ a0 ∧ a0.toNatClampNeg < 2 then
      if 0 ≤ a0 ∧ a0.toNatClampNeg < 2 then
      if (m.1 61 0 a0.toNatClampNeg) ≤ (120 : Int32) then
        if (m.1 61 0 a0.toNatClampNeg) ≤ 0 then
          if 0 ≤ a0 ∧ a0.toNatClampNeg < 2 then
          some ((0, 0, 0), (sl_up (sl_up (sl_up m 72 0 a0.toNatClampNeg (0 : Int32)) 61 0 a0.toNatClampNeg (0 : Int32)) 72 0 a0.toNatClampNeg (0 : Int32)))
          else none
        else
          r_X11_hears_93 ca n a0 (m.1 61 0 a0.toNatClampNeg) (0 : Int32) (sl_up (sl_up m 72 0 a0.toNatClampNeg (0 : Int32)) 61 0 a0.toNatClampNeg (0 : Int32))
      else
        (ca 114 [.inr (.inl (some (11, 0))), .inl (5 : Int32)] (sl_up (sl_up m 72 0 a0.toNatClampNeg (0 : Int32)) 61 0 a0.toNatClampNeg (0 : Int32))).bind (fun q1 =>
        if 0 ≤ a0 ∧ a0.toNatClampNeg < 2 then
        some ((0, 0, 0), (sl_up q1.2 72 0 a0.toNatClampNeg (0 : Int32)))
        else none)
      else none
      else none
    else
      if 0 ≤ a0 ∧ a0.toNatClampNeg < 2 then
      if (120 : Int32) ≤ (m.1 61 0 a0.toNatClampNeg) then
        if 0 ≤ a0 ∧ a0.toNatClampNeg < 2 then
        if 0 ≤ a0 ∧ a0.toNatClampNeg < 2 then
        some ((0, 0, 0), (sl_up (sl_up m 72 0 a0.toNatClampNeg (0 : Int32)) 61 0 a0.toNatClampNeg ((m.1 61 0 a0.toNatClampNeg) + (1 : Int32))))
        else none
        else none
      else
        if 0 ≤ a0 ∧ a0.toNatClampNeg < 2 then
        if 0 ≤ (((120 : Int32) * a0) + (m.1 61 0 a0.toNatClampNeg)) ∧ (((120 : Int32) * a0) + (m.1 61 0 a0.toNatClampNeg)).toNatClampNeg < 240 then
        if 0 ≤ a0 ∧ a0.toNatClampNeg < 2 then
        if 0 ≤ a0 ∧ a0.toNatClampNeg < 2 then
        some ((0, 0, 0), (sl_up (sl_up (sl_up m 72 0 a0.toNatClampNeg (0 : Int32)) 30 6 ((((120 : Int32) * a0) + (m.1 61 0 a0.toNatClampNeg)).toNatClampNeg) (sl_sx a1)) 61 0 a0.toNatClampNeg ((m.1 61 0 a0.toNatClampNeg) + (1 : Int32))))
        else none
        else none
        else none
        else none
      else none
    else none
  else
    if a1 = 0 then
      if 0 ≤ a0 ∧ a0.toNatClampNeg < 2 then
      if 0 ≤ a0 ∧ a0.toNatClampNeg < 2 then
      if (m.1 61 0 a0.toNatClampNeg) ≤ (120 : Int32) then
        if (m.1 61 0 a0.toNatClampNeg) ≤ 0 then
          if 0 ≤ a0 ∧ a0.toNatClampNeg < 2 then
          some ((0, 0, 0), (sl_up (sl_up m 61 0 a0.toNatClampNeg (0 : Int32)) 72 0 a0.toNatClampNeg (0 : Int32)))
          else none
        else
          r_X11_hears_93 ca n a0 (m.1 61 0 a0.toNatClampNeg) (0 : Int32) (sl_up m 61 0 a0.toNatClampNeg (0 : Int32))
      else
        (ca 114 [.inr (.inl (some (11, 0))), .inl (5 : Int32)] (sl_up m 61 0 a0.toNatClampNeg (0 : Int32))).bind (fun q2 =>
        if 0 ≤ a0 ∧ a0.toNatClampNeg < 2 then
        some ((0, 0, 0), (sl_up q2.2 72 0 a0.toNatClampNeg (0 : Int32)))
        else none)
      else none
      else none
    else
      if 0 ≤ a0 ∧ a0.toNatClampNeg < 2 then
      if (120 : Int32) ≤ (m.1 61 0 a0.toNatClampNeg) then
        if 0 ≤ a0 ∧ a0.toNatClampNeg < 2 then
        if 0 ≤ a0 ∧ a0.toNatClampNeg < 2 then
        some ((0, 0, 0), (sl_up m 61 0 a0.toNatClampNeg ((m.1 61 0 a0.toNatClampNeg) + (1 : Int32))))
        else none
        else none
      else
        if 0 ≤ a0 ∧ a0.toNatClampNeg < 2 then
        if 0 ≤ (((120 : Int32) * a0) + (m.1 61 0 a0.toNatClampNeg)) ∧ (((120 : Int32) * a0) + (m.1 61 0 a0.toNatClampNeg)).toNatClampNeg < 240 then
        if 0 ≤ a0 ∧ a0.toNatClampNeg < 2 then
        if 0 ≤ a0 ∧ a0.toNatClampNeg < 2 then
        some ((0, 0, 0), (sl_up (sl_up m 30 6 ((((120 : Int32) * a0) + (m.1 61 0 a0.toNatClampNeg)).toNatClampNeg) (sl_sx a1)) 61 0 a0.toNatClampNeg ((m.1 61 0 a0.toNatClampNeg) + (1 : Int32))))
        else none
        else none
        else none
        else none
      else none := by rfl
set_option maxRecDepth 100000 in
theorem g_X11_hears_93 (ca : Nat → List sl_V → sl_M → Option (sl_PL × sl_M)) (n : Nat) (v1 : Int32) (v4 : Int32) (v5 : Int32) (m : sl_M) : r_X11_hears_93 ca (n + 1) v1 v4 v5 m =
  if v4 ≤ v5 then
    (ca 98 [.inr (.inl (some (11, 0))), .inr (.inl (some (30, 2))), .inl v4, .inr (.inl (some (30, 9)))] m).bind (fun q1 =>
    if 0 ≤ q1.1.1 then
      if (5 : Int32) ≤ q1.1.1 then
        (ca 121 [.inr (.inl (some (11, 0))), .inl q1.1.1] (sl_up (sl_up q1.2 11 0 6 (m.1 11 0 6)) 11 0 7 (m.1 11 0 7))).bind (fun q2 =>
        if q2.1.1 = 0 then
          (ca 114 [.inr (.inl (some (11, 0))), .inl (3 : Int32)] q2.2).bind (fun q3 =>
          if 0 ≤ v1 ∧ v1.toNatClampNeg < 2 then
          some ((0, 0, 0), (sl_up q3.2 72 0 v1.toNatClampNeg (0 : Int32)))
          else none)
        else
          (ca 115 [.inr (.inl (some (11, 0))), .inl v1, .inl q1.1.1] q2.2).bind (fun q4 =>
          if 0 ≤ v1 ∧ v1.toNatClampNeg < 2 then
          some ((0, 0, 0), (sl_up q4.2 72 0 v1.toNatClampNeg (0 : Int32)))
          else none))
      else
        (ca 114 [.inr (.inl (some (11, 0))), .inl (2 : Int32)] (sl_up (sl_up q1.2 11 0 6 (m.1 11 0 6)) 11 0 7 (m.1 11 0 7))).bind (fun q5 =>
        if 0 ≤ v1 ∧ v1.toNatClampNeg < 2 then
        some ((0, 0, 0), (sl_up q5.2 72 0 v1.toNatClampNeg (0 : Int32)))
        else none)
    else
      (ca 114 [.inr (.inl (some (11, 0))), .inl (1 : Int32)] (sl_up (sl_up q1.2 11 0 6 (m.1 11 0 6)) 11 0 7 (m.1 11 0 7))).bind (fun q6 =>
      if 0 ≤ v1 ∧ v1.toNatClampNeg < 2 then
      some ((0, 0, 0), (sl_up q6.2 72 0 v1.toNatClampNeg (0 : Int32)))
      else none))
  else
    if 0 ≤ (((120 : Int32) * v1) + v5) ∧ (((120 : Int32) * v1) + v5).toNatClampNeg < 240 then
    if 0 ≤ v5 ∧ v5.toNatClampNeg < 1300 then
    r_X11_hears_93 ca n v1 v4 (v5 + (1 : Int32)) (sl_up m 30 2 v5.toNatClampNeg (sl_sx (m.1 30 6 ((((120 : Int32) * v1) + v5).toNatClampNeg))))
    else none
    else none := by rfl
theorem cq_X11_hears_X11_unstuffed (a0 : Nat) (a1 : Int32) (a2 : Nat) (m : sl_M) : ca_X11_hears 98 [.inr (.inl (some (11, 0))), .inr (.inl (some (30, a0))), .inl a1, .inr (.inl (some (30, a2)))] m = f_X11_unstuffed a0 a1 a2 m := by
  unfold ca_X11_hears f_X11_unstuffed
  rw [show Nat.ble 115 98 = false from rfl, cond_false, show Nat.ble 114 98 = false from rfl, cond_false, show Nat.beq 98 98 = true from rfl, cond_true]
theorem cq_X11_hears_X11_wrong (a0 : Int32) (m : sl_M) : ca_X11_hears 114 [.inr (.inl (some (11, 0))), .inl a0] m = f_X11_wrong a0 m := by
  unfold ca_X11_hears f_X11_wrong
  rw [show Nat.ble 115 114 = false from rfl, cond_false, show Nat.ble 114 114 = true from rfl, cond_true, show Nat.beq 114 114 = true from rfl, cond_true]
theorem cq_X11_hears_X11_takes (a0 : Int32) (a1 : Int32) (m : sl_M) : ca_X11_hears 115 [.inr (.inl (some (11, 0))), .inl a0, .inl a1] m = f_X11_takes a0 a1 m := by
  unfold ca_X11_hears f_X11_takes
  rw [show Nat.ble 115 115 = true from rfl, cond_true, show Nat.ble 121 115 = false from rfl, cond_false, show Nat.beq 115 115 = true from rfl, cond_true]
theorem cq_X11_hears_X11_isRight (a0 : Int32) (m : sl_M) : ca_X11_hears 121 [.inr (.inl (some (11, 0))), .inl a0] m = f_X11_isRight a0 m := by
  unfold ca_X11_hears f_X11_isRight
  rw [show Nat.ble 115 121 = true from rfl, cond_true, show Nat.ble 121 121 = true from rfl, cond_true, show Nat.beq 121 121 = true from rfl, cond_true]
theorem bq_X11_hears_93 (n : Nat) (v1 : Int32) (v4 : Int32) (v5 : Int32) (m : sl_M) : r_X11_hears_93 ca_X11_hears n v1 v4 v5 m = b_X11_hears_93 n v1 v4 v5 m := rfl
theorem e_X11_hears (a0 : Int32) (a1 : Int32) (a2 : Int32) (m : sl_M) : f_X11_hears a0 a1 a2 m =
  if a2 = 0 then
    if 0 ≤ a0 ∧ a0.toNatClampNeg < 2 then
    if a1 = 0 then
      if 0 ≤ a0 ∧ a0.toNatClampNeg < 2 then
      if 0 ≤ a0 ∧ a0.toNatClampNeg < 2 then
      if (m.1 61 0 a0.toNatClampNeg) ≤ (120 : Int32) then
        if (m.1 61 0 a0.toNatClampNeg) ≤ 0 then
          if 0 ≤ a0 ∧ a0.toNatClampNeg < 2 then
          some ((0, 0, 0), (sl_up (sl_up (sl_up m 72 0 a0.toNatClampNeg (0 : Int32)) 61 0 a0.toNatClampNeg (0 : Int32)) 72 0 a0.toNatClampNeg (0 : Int32)))
          else none
        else
          b_X11_hears_93 99999 a0 (m.1 61 0 a0.toNatClampNeg) (0 : Int32) (sl_up (sl_up m 72 0 a0.toNatClampNeg (0 : Int32)) 61 0 a0.toNatClampNeg (0 : Int32))
      else
        (f_X11_wrong (5 : Int32) (sl_up (sl_up m 72 0 a0.toNatClampNeg (0 : Int32)) 61 0 a0.toNatClampNeg (0 : Int32))).bind (fun q1 =>
        if 0 ≤ a0 ∧ a0.toNatClampNeg < 2 then
        some ((0, 0, 0), (sl_up q1.2 72 0 a0.toNatClampNeg (0 : Int32)))
        else none)
      else none
      else none
    else
      if 0 ≤ a0 ∧ a0.toNatClampNeg < 2 then
      if (120 : Int32) ≤ (m.1 61 0 a0.toNatClampNeg) then
        if 0 ≤ a0 ∧ a0.toNatClampNeg < 2 then
        if 0 ≤ a0 ∧ a0.toNatClampNeg < 2 then
        some ((0, 0, 0), (sl_up (sl_up m 72 0 a0.toNatClampNeg (0 : Int32)) 61 0 a0.toNatClampNeg ((m.1 61 0 a0.toNatClampNeg) + (1 : Int32))))
        else none
        else none
      else
        if 0 ≤ a0 ∧ a0.toNatClampNeg < 2 then
        if 0 ≤ (((120 : Int32) * a0) + (m.1 61 0 a0.toNatClampNeg)) ∧ (((120 : Int32) * a0) + (m.1 61 0 a0.toNatClampNeg)).toNatClampNeg < 240 then
        if 0 ≤ a0 ∧ a0.toNatClampNeg < 2 then
        if 0 ≤ a0 ∧ a0.toNatClampNeg < 2 then
        some ((0, 0, 0), (sl_up (sl_up (sl_up m 72 0 a0.toNatClampNeg (0 : Int32)) 30 6 ((((120 : Int32) * a0) + (m.1 61 0 a0.toNatClampNeg)).toNatClampNeg) (sl_sx a1)) 61 0 a0.toNatClampNeg ((m.1 61 0 a0.toNatClampNeg) + (1 : Int32))))
        else none
        else none
        else none
        else none
      else none
    else none
  else
    if a1 = 0 then
      if 0 ≤ a0 ∧ a0.toNatClampNeg < 2 then
      if 0 ≤ a0 ∧ a0.toNatClampNeg < 2 then
      if (m.1 61 0 a0.toNatClampNeg) ≤ (120 : Int32) then
        if (m.1 61 0 a0.toNatClampNeg) ≤ 0 then
          if 0 ≤ a0 ∧ a0.toNatClampNeg < 2 then
          some ((0, 0, 0), (sl_up (sl_up m 61 0 a0.toNatClampNeg (0 : Int32)) 72 0 a0.toNatClampNeg (0 : Int32)))
          else none
        else
          b_X11_hears_93 99999 a0 (m.1 61 0 a0.toNatClampNeg) (0 : Int32) (sl_up m 61 0 a0.toNatClampNeg (0 : Int32))
      else
        (f_X11_wrong (5 : Int32) (sl_up m 61 0 a0.toNatClampNeg (0 : Int32))).bind (fun q2 =>
        if 0 ≤ a0 ∧ a0.toNatClampNeg < 2 then
        some ((0, 0, 0), (sl_up q2.2 72 0 a0.toNatClampNeg (0 : Int32)))
        else none)
      else none
      else none
    else
      if 0 ≤ a0 ∧ a0.toNatClampNeg < 2 then
      if (120 : Int32) ≤ (m.1 61 0 a0.toNatClampNeg) then
        if 0 ≤ a0 ∧ a0.toNatClampNeg < 2 then
        if 0 ≤ a0 ∧ a0.toNatClampNeg < 2 then
        some ((0, 0, 0), (sl_up m 61 0 a0.toNatClampNeg ((m.1 61 0 a0.toNatClampNeg) + (1 : Int32))))
        else none
        else none
      else
        if 0 ≤ a0 ∧ a0.toNatClampNeg < 2 then
        if 0 ≤ (((120 : Int32) * a0) + (m.1 61 0 a0.toNatClampNeg)) ∧ (((120 : Int32) * a0) + (m.1 61 0 a0.toNatClampNeg)).toNatClampNeg < 240 then
        if 0 ≤ a0 ∧ a0.toNatClampNeg < 2 then
        if 0 ≤ a0 ∧ a0.toNatClampNeg < 2 then
        some ((0, 0, 0), (sl_up (sl_up m 30 6 ((((120 : Int32) * a0) + (m.1 61 0 a0.toNatClampNeg)).toNatClampNeg) (sl_sx a1)) 61 0 a0.toNatClampNeg ((m.1 61 0 a0.toNatClampNeg) + (1 : Int32))))
        else none
        else none
        else none
        else none
      else none := by
  have h := g_X11_hears_0 ca_X11_hears 99999 a0 a1 a2 m
  simp only [cq_X11_hears_X11_unstuffed, cq_X11_hears_X11_wrong, cq_X11_hears_X11_takes, cq_X11_hears_X11_isRight, bq_X11_hears_93] at h
  exact h
theorem e_X11_hears_93 (n : Nat) (v1 : Int32) (v4 : Int32) (v5 : Int32) (m : sl_M) : b_X11_hears_93 (n + 1) v1 v4 v5 m =
  if v4 ≤ v5 then
    (f_X11_unstuffed 2 v4 9 m).bind (fun q1 =>
    if 0 ≤ q1.1.1 then
      if (5 : Int32) ≤ q1.1.1 then
        (f_X11_isRight q1.1.1 (sl_up (sl_up q1.2 11 0 6 (m.1 11 0 6)) 11 0 7 (m.1 11 0 7))).bind (fun q2 =>
        if q2.1.1 = 0 then
          (f_X11_wrong (3 : Int32) q2.2).bind (fun q3 =>
          if 0 ≤ v1 ∧ v1.toNatClampNeg < 2 then
          some ((0, 0, 0), (sl_up q3.2 72 0 v1.toNatClampNeg (0 : Int32)))
          else none)
        else
          (f_X11_takes v1 q1.1.1 q2.2).bind (fun q4 =>
          if 0 ≤ v1 ∧ v1.toNatClampNeg < 2 then
          some ((0, 0, 0), (sl_up q4.2 72 0 v1.toNatClampNeg (0 : Int32)))
          else none))
      else
        (f_X11_wrong (2 : Int32) (sl_up (sl_up q1.2 11 0 6 (m.1 11 0 6)) 11 0 7 (m.1 11 0 7))).bind (fun q5 =>
        if 0 ≤ v1 ∧ v1.toNatClampNeg < 2 then
        some ((0, 0, 0), (sl_up q5.2 72 0 v1.toNatClampNeg (0 : Int32)))
        else none)
    else
      (f_X11_wrong (1 : Int32) (sl_up (sl_up q1.2 11 0 6 (m.1 11 0 6)) 11 0 7 (m.1 11 0 7))).bind (fun q6 =>
      if 0 ≤ v1 ∧ v1.toNatClampNeg < 2 then
      some ((0, 0, 0), (sl_up q6.2 72 0 v1.toNatClampNeg (0 : Int32)))
      else none))
  else
    if 0 ≤ (((120 : Int32) * v1) + v5) ∧ (((120 : Int32) * v1) + v5).toNatClampNeg < 240 then
    if 0 ≤ v5 ∧ v5.toNatClampNeg < 1300 then
    b_X11_hears_93 n v1 v4 (v5 + (1 : Int32)) (sl_up m 30 2 v5.toNatClampNeg (sl_sx (m.1 30 6 ((((120 : Int32) * v1) + v5).toNatClampNeg))))
    else none
    else none := by
  have h := g_X11_hears_93 ca_X11_hears n v1 v4 v5 m
  simp only [cq_X11_hears_X11_unstuffed, cq_X11_hears_X11_wrong, cq_X11_hears_X11_takes, cq_X11_hears_X11_isRight, bq_X11_hears_93] at h
  exact h

def tb_X11_moves (p : Nat) : Option sl_E := bif Nat.ble 108 p then none else (bif Nat.ble 48 p then (bif Nat.ble 77 p then (bif Nat.ble 90 p then (bif Nat.ble 98 p then (bif Nat.ble 104 p then (bif Nat.ble 107 p then (bif Nat.beq p 107 then some (50, 0, 0, 1, []) else none) else (bif Nat.beq p 104 then some (34, 0, 30, 3, []) else none)) else (bif Nat.ble 101 p then (bif Nat.beq p 101 then some (5, 1, 6, 3, []) else none) else (bif Nat.beq p 98 then some (46, 0, 214, 3, []) else none))) else (bif Nat.ble 95 p then (bif Nat.ble 96 p then (bif Nat.beq p 96 then some (0, 0, 9, 2, []) else none) else (bif Nat.beq p 95 then some (11, 0, 0, 1, []) else none)) else (bif Nat.ble 92 p then (bif Nat.beq p 92 then some (2, 255, 0, 3, []) else none) else (bif Nat.beq p 90 then some (0, 0, 8, 2, []) else none)))) else (bif Nat.ble 84 p then (bif Nat.ble 87 p then (bif Nat.ble 88 p then (bif Nat.beq p 88 then some (0, 0, 5, 2, []) else none) else (bif Nat.beq p 87 then some (1, 0, 0, 1, []) else none)) else (bif Nat.ble 85 p then (bif Nat.beq p 85 then some (3, 0, 9, 2, []) else none) else (bif Nat.beq p 84 then some (2, 0, 0, 1, []) else none))) else (bif Nat.ble 80 p then (bif Nat.ble 81 p then (bif Nat.beq p 81 then some (34, 0, 85, 3, []) else none) else (bif Nat.beq p 80 then some (2, 1, 0, 1, []) else none)) else (bif Nat.beq p 77 then some (23, 0, 84, 3, []) else none)))) else (bif Nat.ble 63 p then (bif Nat.ble 69 p then (bif Nat.ble 73 p then (bif Nat.ble 75 p then (bif Nat.beq p 75 then some (0, 0, 7, 2, []) else none) else (bif Nat.beq p 73 then some (0, 0, 8, 2, []) else none)) else (bif Nat.ble 70 p then (bif Nat.beq p 70 then some (28, 0, 84, 3, []) else none) else (bif Nat.beq p 69 then some (38, 0, 0, 1, []) else none))) else (bif Nat.ble 64 p then (bif Nat.ble 67 p then (bif Nat.beq p 67 then some (0, 0, 5, 2, []) else none) else (bif Nat.beq p 64 then some (35, 0, 106, 3, []) else none)) else (bif Nat.beq p 63 then some (1, 0, 0, 1, []) else none))) else (bif Nat.ble 55 p then (bif Nat.ble 59 p then (bif Nat.ble 61 p then (bif Nat.beq p 61 then some (3, 0, 8, 2, []) else none) else (bif Nat.beq p 59 then some (0, 0, 7, 2, []) else none)) else (bif Nat.ble 56 p then (bif Nat.beq p 56 then some (34, 0, 61, 3, []) else none) else (bif Nat.beq p 55 then some (13, 0, 0, 1, []) else none))) else (bif Nat.ble 51 p then (bif Nat.ble 53 p then (bif Nat.beq p 53 then some (0, 0, 4, 2, []) else none) else (bif Nat.beq p 51 then some (0, 0, 7, 2, []) else none)) else (bif Nat.beq p 48 then some (23, 0, 59, 3, []) else none))))) else (bif Nat.ble 25 p then (bif Nat.ble 36 p then (bif Nat.ble 42 p then (bif Nat.ble 45 p then (bif Nat.ble 47 p then (bif Nat.beq p 47 then some (0, 0, 3, 1, []) else none) else (bif Nat.beq p 45 then some (0, 0, 6, 2, []) else none)) else (bif Nat.ble 43 p then (bif Nat.beq p 43 then some (3, 0, 7, 2, []) else none) else (bif Nat.beq p 42 then some (38, 0, 0, 1, []) else none))) else (bif Nat.ble 37 p then (bif Nat.ble 40 p then (bif Nat.beq p 40 then some (0, 0, 6, 2, []) else none) else (bif Nat.beq p 37 then some (35, 0, 142, 3, []) else none)) else (bif Nat.beq p 36 then some (1, 0, 0, 1, []) else none))) else (bif Nat.ble 28 p then (bif Nat.ble 32 p then (bif Nat.ble 33 p then (bif Nat.beq p 33 then some (25, 0, 107, 3, []) else none) else (bif Nat.beq p 32 then some (0, 0, 2, 1, []) else none)) else (bif Nat.ble 30 p then (bif Nat.beq p 30 then some (0, 0, 6, 2, []) else none) else (bif Nat.beq p 28 then some (3, 0, 6, 2, []) else none))) else (bif Nat.ble 26 p then (bif Nat.ble 27 p then (bif Nat.beq p 27 then some (2, 0, 0, 1, []) else none) else (bif Nat.beq p 26 then some (42, 0, 0, 1, []) else none)) else (bif Nat.beq p 25 then some (2, 0, 0, 1, []) else none)))) else (bif Nat.ble 11 p then (bif Nat.ble 17 p then (bif Nat.ble 21 p then (bif Nat.ble 22 p then (bif Nat.beq p 22 then some (34, 0, 26, 3, []) else none) else (bif Nat.beq p 21 then some (2, 1, 0, 1, []) else none)) else (bif Nat.ble 18 p then (bif Nat.beq p 18 then some (29, 0, 25, 3, []) else none) else (bif Nat.beq p 17 then some (37, 0, 0, 1, []) else none))) else (bif Nat.ble 12 p then (bif Nat.ble 15 p then (bif Nat.beq p 15 then some (0, 0, 5, 2, []) else none) else (bif Nat.beq p 12 then some (35, 0, 103, 3, []) else none)) else (bif Nat.beq p 11 then some (1, 0, 0, 1, []) else none))) else (bif Nat.ble 3 p then (bif Nat.ble 6 p then (bif Nat.ble 9 p then (bif Nat.beq p 9 then some (0, 0, 5, 2, []) else none) else (bif Nat.beq p 6 then some (35, 0, 106, 3, []) else none)) else (bif Nat.ble 5 p then (bif Nat.beq p 5 then some (1, 0, 0, 1, []) else none) else (bif Nat.beq p 3 then some (3, 0, 5, 2, []) else none))) else (bif Nat.ble 1 p then (bif Nat.ble 2 p then (bif Nat.beq p 2 then some (7, 0, 0, 1, []) else none) else (bif Nat.beq p 1 then some (0, 0, 1, 1, []) else none)) else (bif Nat.beq p 0 then some (2, 1, 0, 1, []) else none))))))
def ca_X11_moves (y : Nat) (as : List sl_V) (m : sl_M) : Option (sl_PL × sl_M) := bif Nat.beq y 120 then F_X11_hears as m else none
def sp_X11_moves (p : Nat) : Bool := Nat.beq p 30
def mk_X11_moves (p : Nat) : List Bool := bif Nat.beq p 30 then [true, false, true, true, true, true, true, false, false, false] else []
def cl_X11_moves (p : Nat) : Option sl_C := bif Nat.ble 215 p then none else (bif Nat.beq p 214 then some (120, 4, 0, 0, 0, 12) else none)
def R_X11_moves (ca : Nat → List sl_V → sl_M → Option (sl_PL × sl_M)) : Nat → sl_S → sl_M → Option (sl_PL × sl_M) := sl_B tb_X11_moves fl_X11 pf_X11 cl_X11_moves nw_X11 sl_rd sl_wr sl_al sl_ln 0 (fun _ => 0) ca sp_X11_moves mk_X11_moves
def F_X11_moves (as : List sl_V) (m : sl_M) : Option (sl_PL × sl_M) := R_X11_moves ca_X11_moves 100000 (0, sl_lo 10 as, []) m
def f_X11_moves (a0 : Int32) (a1 : Int32) (a2 : Int32) (a3 : Int32) (m : sl_M) : Option (sl_PL × sl_M) := F_X11_moves [.inr (.inl (some (11, 0))), .inl a0, .inl a1, .inl a2, .inl a3] m
def r_X11_moves_0 (ca : Nat → List sl_V → sl_M → Option (sl_PL × sl_M)) (n : Nat) (a0 : Int32) (a1 : Int32) (a2 : Int32) (a3 : Int32) (m : sl_M) : Option (sl_PL × sl_M) := R_X11_moves ca n (0, sl_lo 10 [.inr (.inl (some (11, 0))), .inl a0, .inl a1, .inl a2, .inl a3], []) m
def r_X11_moves_30 (ca : Nat → List sl_V → sl_M → Option (sl_PL × sl_M)) (n : Nat) (v2 : Int32) (v3 : Int32) (v4 : Int32) (v5 : Int32) (v6 : Int32) (m : sl_M) : Option (sl_PL × sl_M) := R_X11_moves ca n (30, [some (.inr (.inl (some (11, 0)))), none, some (.inl v2), some (.inl v3), some (.inl v4), some (.inl v5), some (.inl v6), none, none, none], []) m
def b_X11_moves_30 (n : Nat) (v2 : Int32) (v3 : Int32) (v4 : Int32) (v5 : Int32) (v6 : Int32) (m : sl_M) : Option (sl_PL × sl_M) := r_X11_moves_30 ca_X11_moves n v2 v3 v4 v5 v6 m
set_option maxRecDepth 100000 in
theorem g_X11_moves_0 (ca : Nat → List sl_V → sl_M → Option (sl_PL × sl_M)) (n : Nat) (a0 : Int32) (a1 : Int32) (a2 : Int32) (a3 : Int32) (m : sl_M) : r_X11_moves_0 ca (n + 1) a0 a1 a2 a3 m =
  if 0 ≤ ((1 : Int32) - a0) ∧ ((1 : Int32) - a0).toNatClampNeg < 2 then
  if (m.1 61 0 (((1 : Int32) - a0).toNatClampNeg)) = 0 then
    if 0 ≤ ((1 : Int32) - a0) ∧ ((1 : Int32) - a0).toNatClampNeg < 2 then
    r_X11_moves_30 ca n a1 a2 a3 ((1 : Int32) - a0) (0 : Int32) (sl_up m 72 0 (((1 : Int32) - a0).toNatClampNeg) (1 : Int32))
    else none
  else
    if 0 ≤ ((1 : Int32) - a0) ∧ ((1 : Int32) - a0).toNatClampNeg < 2 then
    r_X11_moves_30 ca n a1 a2 a3 ((1 : Int32) - a0) (0 : Int32) (sl_up m 72 0 (((1 : Int32) - a0).toNatClampNeg) (0 : Int32))
    else none
  else none := by rfl
set_option maxRecDepth 100000 in
theorem g_X11_moves_30 (ca : Nat → List sl_V → sl_M → Option (sl_PL × sl_M)) (n : Nat) (v2 : Int32) (v3 : Int32) (v4 : Int32) (v5 : Int32) (v6 : Int32) (m : sl_M) : r_X11_moves_30 ca (n + 1) v2 v3 v4 v5 v6 m =
  if v2 ≤ v6 then
    some ((0, 0, 0), m)
  else
    if 0 ≤ v6 ∧ v6.toNatClampNeg < 80 then
    if v6 = v3 then
      if 0 ≤ v5 ∧ v5.toNatClampNeg < 2 then
      if ((m.1 72 0 v5.toNatClampNeg) &&& 1) = 0 then
        (ca 120 [.inr (.inl (some (11, 0))), .inl v5, .inl (((sl_sx (m.1 30 10 v6.toNatClampNeg)) ^^^ v4) &&& (255 : Int32)), .inl (0 : Int32)] m).bind (fun q1 =>
        r_X11_moves_30 ca n v2 v3 v4 v5 (v6 + (1 : Int32)) q1.2)
      else
        if ((sl_sx (m.1 30 10 v6.toNatClampNeg)) ^^^ v4) = (sl_sx (m.1 30 10 v6.toNatClampNeg)) then
          (ca 120 [.inr (.inl (some (11, 0))), .inl v5, .inl (((sl_sx (m.1 30 10 v6.toNatClampNeg)) ^^^ v4) &&& (255 : Int32)), .inl (1 : Int32)] m).bind (fun q2 =>
          r_X11_moves_30 ca n v2 v3 v4 v5 (v6 + (1 : Int32)) q2.2)
        else
          (ca 120 [.inr (.inl (some (11, 0))), .inl v5, .inl (((sl_sx (m.1 30 10 v6.toNatClampNeg)) ^^^ v4) &&& (255 : Int32)), .inl (0 : Int32)] m).bind (fun q3 =>
          r_X11_moves_30 ca n v2 v3 v4 v5 (v6 + (1 : Int32)) q3.2)
      else none
    else
      if 0 ≤ v5 ∧ v5.toNatClampNeg < 2 then
      if ((m.1 72 0 v5.toNatClampNeg) &&& 1) = 0 then
        (ca 120 [.inr (.inl (some (11, 0))), .inl v5, .inl ((sl_sx (m.1 30 10 v6.toNatClampNeg)) &&& (255 : Int32)), .inl (0 : Int32)] m).bind (fun q4 =>
        r_X11_moves_30 ca n v2 v3 v4 v5 (v6 + (1 : Int32)) q4.2)
      else
        if (sl_sx (m.1 30 10 v6.toNatClampNeg)) = (sl_sx (m.1 30 10 v6.toNatClampNeg)) then
          (ca 120 [.inr (.inl (some (11, 0))), .inl v5, .inl ((sl_sx (m.1 30 10 v6.toNatClampNeg)) &&& (255 : Int32)), .inl (1 : Int32)] m).bind (fun q5 =>
          r_X11_moves_30 ca n v2 v3 v4 v5 (v6 + (1 : Int32)) q5.2)
        else
          (ca 120 [.inr (.inl (some (11, 0))), .inl v5, .inl ((sl_sx (m.1 30 10 v6.toNatClampNeg)) &&& (255 : Int32)), .inl (0 : Int32)] m).bind (fun q6 =>
          r_X11_moves_30 ca n v2 v3 v4 v5 (v6 + (1 : Int32)) q6.2)
      else none
    else none := by rfl
theorem cq_X11_moves_X11_hears (a0 : Int32) (a1 : Int32) (a2 : Int32) (m : sl_M) : ca_X11_moves 120 [.inr (.inl (some (11, 0))), .inl a0, .inl a1, .inl a2] m = f_X11_hears a0 a1 a2 m := by
  unfold ca_X11_moves f_X11_hears
  rw [show Nat.beq 120 120 = true from rfl, cond_true]
theorem bq_X11_moves_30 (n : Nat) (v2 : Int32) (v3 : Int32) (v4 : Int32) (v5 : Int32) (v6 : Int32) (m : sl_M) : r_X11_moves_30 ca_X11_moves n v2 v3 v4 v5 v6 m = b_X11_moves_30 n v2 v3 v4 v5 v6 m := rfl
theorem e_X11_moves (a0 : Int32) (a1 : Int32) (a2 : Int32) (a3 : Int32) (m : sl_M) : f_X11_moves a0 a1 a2 a3 m =
  if 0 ≤ ((1 : Int32) - a0) ∧ ((1 : Int32) - a0).toNatClampNeg < 2 then
  if (m.1 61 0 (((1 : Int32) - a0).toNatClampNeg)) = 0 then
    if 0 ≤ ((1 : Int32) - a0) ∧ ((1 : Int32) - a0).toNatClampNeg < 2 then
    b_X11_moves_30 99999 a1 a2 a3 ((1 : Int32) - a0) (0 : Int32) (sl_up m 72 0 (((1 : Int32) - a0).toNatClampNeg) (1 : Int32))
    else none
  else
    if 0 ≤ ((1 : Int32) - a0) ∧ ((1 : Int32) - a0).toNatClampNeg < 2 then
    b_X11_moves_30 99999 a1 a2 a3 ((1 : Int32) - a0) (0 : Int32) (sl_up m 72 0 (((1 : Int32) - a0).toNatClampNeg) (0 : Int32))
    else none
  else none := by
  have h := g_X11_moves_0 ca_X11_moves 99999 a0 a1 a2 a3 m
  simp only [cq_X11_moves_X11_hears, bq_X11_moves_30] at h
  exact h
theorem e_X11_moves_30 (n : Nat) (v2 : Int32) (v3 : Int32) (v4 : Int32) (v5 : Int32) (v6 : Int32) (m : sl_M) : b_X11_moves_30 (n + 1) v2 v3 v4 v5 v6 m =
  if v2 ≤ v6 then
    some ((0, 0, 0), m)
  else
    if 0 ≤ v6 ∧ v6.toNatClampNeg < 80 then
    if v6 = v3 then
      if 0 ≤ v5 ∧ v5.toNatClampNeg < 2 then
      if ((m.1 72 0 v5.toNatClampNeg) &&& 1) = 0 then
        (f_X11_hears v5 (((sl_sx (m.1 30 10 v6.toNatClampNeg)) ^^^ v4) &&& (255 : Int32)) (0 : Int32) m).bind (fun q1 =>
        b_X11_moves_30 n v2 v3 v4 v5 (v6 + (1 : Int32)) q1.2)
      else
        if ((sl_sx (m.1 30 10 v6.toNatClampNeg)) ^^^ v4) = (sl_sx (m.1 30 10 v6.toNatClampNeg)) then
          (f_X11_hears v5 (((sl_sx (m.1 30 10 v6.toNatClampNeg)) ^^^ v4) &&& (255 : Int32)) (1 : Int32) m).bind (fun q2 =>
          b_X11_moves_30 n v2 v3 v4 v5 (v6 + (1 : Int32)) q2.2)
        else
          (f_X11_hears v5 (((sl_sx (m.1 30 10 v6.toNatClampNeg)) ^^^ v4) &&& (255 : Int32)) (0 : Int32) m).bind (fun q3 =>
          b_X11_moves_30 n v2 v3 v4 v5 (v6 + (1 : Int32)) q3.2)
      else none
    else
      if 0 ≤ v5 ∧ v5.toNatClampNeg < 2 then
      if ((m.1 72 0 v5.toNatClampNeg) &&& 1) = 0 then
        (f_X11_hears v5 ((sl_sx (m.1 30 10 v6.toNatClampNeg)) &&& (255 : Int32)) (0 : Int32) m).bind (fun q4 =>
        b_X11_moves_30 n v2 v3 v4 v5 (v6 + (1 : Int32)) q4.2)
      else
        if True then
          (f_X11_hears v5 ((sl_sx (m.1 30 10 v6.toNatClampNeg)) &&& (255 : Int32)) (1 : Int32) m).bind (fun q5 =>
          b_X11_moves_30 n v2 v3 v4 v5 (v6 + (1 : Int32)) q5.2)
        else
          (f_X11_hears v5 ((sl_sx (m.1 30 10 v6.toNatClampNeg)) &&& (255 : Int32)) (0 : Int32) m).bind (fun q6 =>
          b_X11_moves_30 n v2 v3 v4 v5 (v6 + (1 : Int32)) q6.2)
      else none
    else none := by
  have h := g_X11_moves_30 ca_X11_moves n v2 v3 v4 v5 v6 m
  simp only [cq_X11_moves_X11_hears, bq_X11_moves_30] at h
  exact h

def tb_X11_leaves (p : Nat) : Option sl_E := bif Nat.ble 89 p then none else (bif Nat.ble 45 p then (bif Nat.ble 70 p then (bif Nat.ble 79 p then (bif Nat.ble 83 p then (bif Nat.ble 87 p then (bif Nat.ble 88 p then (bif Nat.beq p 88 then some (47, 0, 1, 1, []) else none) else (bif Nat.beq p 87 then some (37, 0, 0, 1, []) else none)) else (bif Nat.ble 86 p then (bif Nat.beq p 86 then some (0, 0, 3, 1, []) else none) else (bif Nat.beq p 83 then some (35, 0, 118, 3, []) else none))) else (bif Nat.ble 81 p then (bif Nat.ble 82 p then (bif Nat.beq p 82 then some (1, 0, 0, 1, []) else none) else (bif Nat.beq p 81 then some (41, 0, 0, 1, []) else none)) else (bif Nat.ble 80 p then (bif Nat.beq p 80 then some (7, 0, 0, 1, []) else none) else (bif Nat.beq p 79 then some (2, 1, 0, 1, []) else none)))) else (bif Nat.ble 73 p then (bif Nat.ble 77 p then (bif Nat.ble 78 p then (bif Nat.beq p 78 then some (37, 0, 0, 1, []) else none) else (bif Nat.beq p 77 then some (20, 0, 0, 1, []) else none)) else (bif Nat.ble 76 p then (bif Nat.beq p 76 then some (0, 0, 1, 1, []) else none) else (bif Nat.beq p 73 then some (35, 0, 112, 3, []) else none))) else (bif Nat.ble 71 p then (bif Nat.ble 72 p then (bif Nat.beq p 72 then some (1, 0, 0, 1, []) else none) else (bif Nat.beq p 71 then some (41, 0, 0, 1, []) else none)) else (bif Nat.beq p 70 then some (10, 0, 0, 1, []) else none)))) else (bif Nat.ble 60 p then (bif Nat.ble 65 p then (bif Nat.ble 67 p then (bif Nat.ble 68 p then (bif Nat.beq p 68 then some (2, 40, 0, 2, []) else none) else (bif Nat.beq p 67 then some (6, 0, 0, 1, []) else none)) else (bif Nat.ble 66 p then (bif Nat.beq p 66 then some (2, 1, 0, 1, []) else none) else (bif Nat.beq p 65 then some (37, 0, 0, 1, []) else none))) else (bif Nat.ble 61 p then (bif Nat.ble 64 p then (bif Nat.beq p 64 then some (0, 0, 1, 1, []) else none) else (bif Nat.beq p 61 then some (35, 0, 109, 3, []) else none)) else (bif Nat.beq p 60 then some (1, 0, 0, 1, []) else none))) else (bif Nat.ble 52 p then (bif Nat.ble 56 p then (bif Nat.ble 59 p then (bif Nat.beq p 59 then some (0, 0, 1, 1, []) else none) else (bif Nat.beq p 56 then some (35, 0, 109, 3, []) else none)) else (bif Nat.ble 55 p then (bif Nat.beq p 55 then some (1, 0, 0, 1, []) else none) else (bif Nat.beq p 52 then some (29, 0, 82, 3, []) else none))) else (bif Nat.ble 48 p then (bif Nat.ble 51 p then (bif Nat.beq p 51 then some (0, 0, 2, 1, []) else none) else (bif Nat.beq p 48 then some (34, 0, 15, 3, []) else none)) else (bif Nat.beq p 45 then some (5, 1, 4, 3, []) else none))))) else (bif Nat.ble 21 p then (bif Nat.ble 33 p then (bif Nat.ble 40 p then (bif Nat.ble 43 p then (bif Nat.ble 44 p then (bif Nat.beq p 44 then some (42, 0, 0, 1, []) else none) else (bif Nat.beq p 43 then some (38, 0, 0, 1, []) else none)) else (bif Nat.ble 42 p then (bif Nat.beq p 42 then some (6, 0, 0, 1, []) else none) else (bif Nat.beq p 40 then some (0, 0, 4, 2, []) else none))) else (bif Nat.ble 38 p then (bif Nat.ble 39 p then (bif Nat.beq p 39 then some (8, 0, 0, 1, []) else none) else (bif Nat.beq p 38 then some (0, 0, 3, 1, []) else none)) else (bif Nat.ble 36 p then (bif Nat.beq p 36 then some (2, 80, 0, 2, []) else none) else (bif Nat.beq p 33 then some (35, 0, 115, 3, []) else none)))) else (bif Nat.ble 26 p then (bif Nat.ble 30 p then (bif Nat.ble 32 p then (bif Nat.beq p 32 then some (1, 0, 0, 1, []) else none) else (bif Nat.beq p 30 then some (0, 0, 4, 2, []) else none)) else (bif Nat.ble 27 p then (bif Nat.beq p 27 then some (35, 0, 142, 3, []) else none) else (bif Nat.beq p 26 then some (1, 0, 0, 1, []) else none))) else (bif Nat.ble 22 p then (bif Nat.ble 23 p then (bif Nat.beq p 23 then some (25, 0, 51, 3, []) else none) else (bif Nat.beq p 22 then some (37, 0, 0, 1, []) else none)) else (bif Nat.beq p 21 then some (0, 0, 3, 1, []) else none)))) else (bif Nat.ble 10 p then (bif Nat.ble 13 p then (bif Nat.ble 17 p then (bif Nat.ble 18 p then (bif Nat.beq p 18 then some (35, 0, 118, 3, []) else none) else (bif Nat.beq p 17 then some (1, 0, 0, 1, []) else none)) else (bif Nat.ble 15 p then (bif Nat.beq p 15 then some (0, 0, 4, 2, []) else none) else (bif Nat.beq p 13 then some (3, 0, 4, 2, []) else none))) else (bif Nat.ble 11 p then (bif Nat.ble 12 p then (bif Nat.beq p 12 then some (2, 0, 0, 1, []) else none) else (bif Nat.beq p 11 then some (3, 0, 3, 1, []) else none)) else (bif Nat.beq p 10 then some (6, 0, 0, 1, []) else none))) else (bif Nat.ble 4 p then (bif Nat.ble 8 p then (bif Nat.ble 9 p then (bif Nat.beq p 9 then some (37, 0, 0, 1, []) else none) else (bif Nat.beq p 8 then some (0, 0, 1, 1, []) else none)) else (bif Nat.ble 5 p then (bif Nat.beq p 5 then some (35, 0, 109, 3, []) else none) else (bif Nat.beq p 4 then some (1, 0, 0, 1, []) else none))) else (bif Nat.ble 2 p then (bif Nat.ble 3 p then (bif Nat.beq p 3 then some (8, 0, 0, 1, []) else none) else (bif Nat.beq p 2 then some (0, 0, 1, 1, []) else none)) else (bif Nat.beq p 0 then some (2, 40, 0, 2, []) else none))))))
def ca_X11_leaves (y : Nat) (as : List sl_V) (m : sl_M) : Option (sl_PL × sl_M) := none
def sp_X11_leaves (p : Nat) : Bool := Nat.beq p 15
def mk_X11_leaves (p : Nat) : List Bool := bif Nat.beq p 15 then [true, true, true, true, true] else []
def cl_X11_leaves (p : Nat) : Option sl_C := none
def R_X11_leaves (ca : Nat → List sl_V → sl_M → Option (sl_PL × sl_M)) : Nat → sl_S → sl_M → Option (sl_PL × sl_M) := sl_B tb_X11_leaves fl_X11 pf_X11 cl_X11_leaves nw_X11 sl_rd sl_wr sl_al sl_ln 0 (fun _ => 0) ca sp_X11_leaves mk_X11_leaves
def F_X11_leaves (as : List sl_V) (m : sl_M) : Option (sl_PL × sl_M) := R_X11_leaves ca_X11_leaves 100000 (0, sl_lo 5 as, []) m
def f_X11_leaves (a0 : Int32) (a1 : Int32) (m : sl_M) : Option (sl_PL × sl_M) := F_X11_leaves [.inr (.inl (some (11, 0))), .inl a0, .inl a1] m
def r_X11_leaves_0 (ca : Nat → List sl_V → sl_M → Option (sl_PL × sl_M)) (n : Nat) (a0 : Int32) (a1 : Int32) (m : sl_M) : Option (sl_PL × sl_M) := R_X11_leaves ca n (0, sl_lo 5 [.inr (.inl (some (11, 0))), .inl a0, .inl a1], []) m
def r_X11_leaves_15 (ca : Nat → List sl_V → sl_M → Option (sl_PL × sl_M)) (n : Nat) (v1 : Int32) (v2 : Int32) (v3 : Int32) (v4 : Int32) (m : sl_M) : Option (sl_PL × sl_M) := R_X11_leaves ca n (15, [some (.inr (.inl (some (11, 0)))), some (.inl v1), some (.inl v2), some (.inl v3), some (.inl v4)], []) m
def b_X11_leaves_15 (n : Nat) (v1 : Int32) (v2 : Int32) (v3 : Int32) (v4 : Int32) (m : sl_M) : Option (sl_PL × sl_M) := r_X11_leaves_15 ca_X11_leaves n v1 v2 v3 v4 m
set_option maxRecDepth 100000 in
theorem g_X11_leaves_0 (ca : Nat → List sl_V → sl_M → Option (sl_PL × sl_M)) (n : Nat) (a0 : Int32) (a1 : Int32) (m : sl_M) : r_X11_leaves_0 ca (n + 1) a0 a1 m =
  if 0 ≤ a0 ∧ a0.toNatClampNeg < 2 then
  r_X11_leaves_15 ca n a0 a1 (((40 : Int32) * a0) + (m.1 62 0 a0.toNatClampNeg)) (0 : Int32) m
  else none := by rfl
set_option maxRecDepth 100000 in
theorem g_X11_leaves_15 (ca : Nat → List sl_V → sl_M → Option (sl_PL × sl_M)) (n : Nat) (v1 : Int32) (v2 : Int32) (v3 : Int32) (v4 : Int32) (m : sl_M) : r_X11_leaves_15 ca (n + 1) v1 v2 v3 v4 m =
  if 0 ≤ v3 ∧ v3.toNatClampNeg < 80 then
  if (m.1 64 0 v3.toNatClampNeg) ≤ v4 then
    if v2 = 0 then
      if 0 ≤ v1 ∧ v1.toNatClampNeg < 2 then
      if 0 ≤ v1 ∧ v1.toNatClampNeg < 2 then
      if 0 ≤ v1 ∧ v1.toNatClampNeg < 2 then
      if 0 ≤ v1 ∧ v1.toNatClampNeg < 2 then
      if 0 ≤ v3 ∧ v3.toNatClampNeg < 80 then
      some (((m.1 64 0 v3.toNatClampNeg), 0, 0), (sl_up (sl_up m 62 0 v1.toNatClampNeg (((m.1 62 0 v1.toNatClampNeg) + (1 : Int32)) - ((m.1 62 0 v1.toNatClampNeg) + (1 : Int32)) / (40 : Int32) * (40 : Int32))) 63 0 v1.toNatClampNeg ((m.1 63 0 v1.toNatClampNeg) - (1 : Int32))))
      else none
      else none
      else none
      else none
      else none
    else
      if 0 ≤ v3 ∧ v3.toNatClampNeg < 80 then
      some (((m.1 64 0 v3.toNatClampNeg), 0, 0), m)
      else none
  else
    if 0 ≤ (((80 : Int32) * v3) + v4) ∧ (((80 : Int32) * v3) + v4).toNatClampNeg < 6400 then
    if 0 ≤ v4 ∧ v4.toNatClampNeg < 80 then
    r_X11_leaves_15 ca n v1 v2 v3 (v4 + (1 : Int32)) (sl_up m 30 10 v4.toNatClampNeg (sl_sx (m.1 30 7 ((((80 : Int32) * v3) + v4).toNatClampNeg))))
    else none
    else none
  else none := by rfl
theorem bq_X11_leaves_15 (n : Nat) (v1 : Int32) (v2 : Int32) (v3 : Int32) (v4 : Int32) (m : sl_M) : r_X11_leaves_15 ca_X11_leaves n v1 v2 v3 v4 m = b_X11_leaves_15 n v1 v2 v3 v4 m := rfl
theorem e_X11_leaves (a0 : Int32) (a1 : Int32) (m : sl_M) : f_X11_leaves a0 a1 m =
  if 0 ≤ a0 ∧ a0.toNatClampNeg < 2 then
  b_X11_leaves_15 99999 a0 a1 (((40 : Int32) * a0) + (m.1 62 0 a0.toNatClampNeg)) (0 : Int32) m
  else none := by
  have h := g_X11_leaves_0 ca_X11_leaves 99999 a0 a1 m
  simp only [bq_X11_leaves_15] at h
  exact h
theorem e_X11_leaves_15 (n : Nat) (v1 : Int32) (v2 : Int32) (v3 : Int32) (v4 : Int32) (m : sl_M) : b_X11_leaves_15 (n + 1) v1 v2 v3 v4 m =
  if 0 ≤ v3 ∧ v3.toNatClampNeg < 80 then
  if (m.1 64 0 v3.toNatClampNeg) ≤ v4 then
    if v2 = 0 then
      if 0 ≤ v1 ∧ v1.toNatClampNeg < 2 then
      if 0 ≤ v1 ∧ v1.toNatClampNeg < 2 then
      if 0 ≤ v1 ∧ v1.toNatClampNeg < 2 then
      if 0 ≤ v1 ∧ v1.toNatClampNeg < 2 then
      if 0 ≤ v3 ∧ v3.toNatClampNeg < 80 then
      some (((m.1 64 0 v3.toNatClampNeg), 0, 0), (sl_up (sl_up m 62 0 v1.toNatClampNeg (((m.1 62 0 v1.toNatClampNeg) + (1 : Int32)) - ((m.1 62 0 v1.toNatClampNeg) + (1 : Int32)) / (40 : Int32) * (40 : Int32))) 63 0 v1.toNatClampNeg ((m.1 63 0 v1.toNatClampNeg) - (1 : Int32))))
      else none
      else none
      else none
      else none
      else none
    else
      if 0 ≤ v3 ∧ v3.toNatClampNeg < 80 then
      some (((m.1 64 0 v3.toNatClampNeg), 0, 0), m)
      else none
  else
    if 0 ≤ (((80 : Int32) * v3) + v4) ∧ (((80 : Int32) * v3) + v4).toNatClampNeg < 6400 then
    if 0 ≤ v4 ∧ v4.toNatClampNeg < 80 then
    b_X11_leaves_15 n v1 v2 v3 (v4 + (1 : Int32)) (sl_up m 30 10 v4.toNatClampNeg (sl_sx (m.1 30 7 ((((80 : Int32) * v3) + v4).toNatClampNeg))))
    else none
    else none
  else none := by
  have h := g_X11_leaves_15 ca_X11_leaves n v1 v2 v3 v4 m
  simp only [bq_X11_leaves_15] at h
  exact h

def tb_X11_carry (p : Nat) : Option sl_E := bif Nat.ble 194 p then none else (bif Nat.ble 99 p then (bif Nat.ble 142 p then (bif Nat.ble 167 p then (bif Nat.ble 182 p then (bif Nat.ble 188 p then (bif Nat.ble 192 p then (bif Nat.ble 193 p then (bif Nat.beq p 193 then some (47, 0, 1, 1, []) else none) else (bif Nat.beq p 192 then some (37, 0, 0, 1, []) else none)) else (bif Nat.ble 191 p then (bif Nat.beq p 191 then some (0, 0, 1, 1, []) else none) else (bif Nat.beq p 188 then some (35, 0, 112, 3, []) else none))) else (bif Nat.ble 184 p then (bif Nat.ble 187 p then (bif Nat.beq p 187 then some (1, 0, 0, 1, []) else none) else (bif Nat.beq p 184 then some (46, 0, 221, 3, []) else none)) else (bif Nat.ble 183 p then (bif Nat.beq p 183 then some (2, 0, 0, 1, []) else none) else (bif Nat.beq p 182 then some (2, (-1), 0, 1, []) else none)))) else (bif Nat.ble 175 p then (bif Nat.ble 179 p then (bif Nat.ble 180 p then (bif Nat.beq p 180 then some (0, 0, 4, 2, []) else none) else (bif Nat.beq p 179 then some (0, 0, 1, 1, []) else none)) else (bif Nat.ble 178 p then (bif Nat.beq p 178 then some (1, 0, 0, 1, []) else none) else (bif Nat.beq p 175 then some (22, 0, 187, 3, []) else none))) else (bif Nat.ble 173 p then (bif Nat.ble 174 p then (bif Nat.beq p 174 then some (2, 1, 0, 1, []) else none) else (bif Nat.beq p 173 then some (0, 0, 2, 1, []) else none)) else (bif Nat.ble 170 p then (bif Nat.beq p 170 then some (34, 0, 187, 3, []) else none) else (bif Nat.beq p 167 then some (46, 0, 221, 3, []) else none))))) else (bif Nat.ble 157 p then (bif Nat.ble 163 p then (bif Nat.ble 165 p then (bif Nat.ble 166 p then (bif Nat.beq p 166 then some (2, 0, 0, 1, []) else none) else (bif Nat.beq p 165 then some (2, (-1), 0, 1, []) else none)) else (bif Nat.ble 164 p then (bif Nat.beq p 164 then some (0, 0, 3, 1, []) else none) else (bif Nat.beq p 163 then some (0, 0, 1, 1, []) else none))) else (bif Nat.ble 159 p then (bif Nat.ble 162 p then (bif Nat.beq p 162 then some (1, 0, 0, 1, []) else none) else (bif Nat.beq p 159 then some (23, 0, 173, 3, []) else none)) else (bif Nat.ble 158 p then (bif Nat.beq p 158 then some (2, 4, 0, 1, []) else none) else (bif Nat.beq p 157 then some (0, 0, 2, 1, []) else none)))) else (bif Nat.ble 147 p then (bif Nat.ble 151 p then (bif Nat.ble 154 p then (bif Nat.beq p 154 then some (34, 0, 187, 3, []) else none) else (bif Nat.beq p 151 then some (46, 0, 221, 3, []) else none)) else (bif Nat.ble 150 p then (bif Nat.beq p 150 then some (10, 0, 0, 1, []) else none) else (bif Nat.beq p 147 then some (2, 256, 0, 3, []) else none))) else (bif Nat.ble 145 p then (bif Nat.ble 146 p then (bif Nat.beq p 146 then some (0, 0, 3, 1, []) else none) else (bif Nat.beq p 145 then some (9, 0, 0, 1, []) else none)) else (bif Nat.beq p 142 then some (2, 256, 0, 3, []) else none))))) else (bif Nat.ble 120 p then (bif Nat.ble 129 p then (bif Nat.ble 137 p then (bif Nat.ble 139 p then (bif Nat.ble 141 p then (bif Nat.beq p 141 then some (0, 0, 3, 1, []) else none) else (bif Nat.beq p 139 then some (0, 0, 4, 2, []) else none)) else (bif Nat.ble 138 p then (bif Nat.beq p 138 then some (0, 0, 1, 1, []) else none) else (bif Nat.beq p 137 then some (1, 0, 0, 1, []) else none))) else (bif Nat.ble 133 p then (bif Nat.ble 134 p then (bif Nat.beq p 134 then some (23, 0, 157, 3, []) else none) else (bif Nat.beq p 133 then some (2, 3, 0, 1, []) else none)) else (bif Nat.ble 132 p then (bif Nat.beq p 132 then some (0, 0, 2, 1, []) else none) else (bif Nat.beq p 129 then some (46, 0, 214, 3, []) else none)))) else (bif Nat.ble 123 p then (bif Nat.ble 127 p then (bif Nat.ble 128 p then (bif Nat.beq p 128 then some (2, 0, 0, 1, []) else none) else (bif Nat.beq p 127 then some (11, 0, 0, 1, []) else none)) else (bif Nat.ble 124 p then (bif Nat.beq p 124 then some (2, 255, 0, 3, []) else none) else (bif Nat.beq p 123 then some (0, 0, 3, 1, []) else none))) else (bif Nat.ble 121 p then (bif Nat.ble 122 p then (bif Nat.beq p 122 then some (7, 0, 0, 1, []) else none) else (bif Nat.beq p 121 then some (0, 0, 1, 1, []) else none)) else (bif Nat.beq p 120 then some (2, 1, 0, 1, []) else none)))) else (bif Nat.ble 110 p then (bif Nat.ble 114 p then (bif Nat.ble 116 p then (bif Nat.ble 119 p then (bif Nat.beq p 119 then some (1, 0, 0, 1, []) else none) else (bif Nat.beq p 116 then some (23, 0, 132, 3, []) else none)) else (bif Nat.ble 115 p then (bif Nat.beq p 115 then some (2, 5, 0, 1, []) else none) else (bif Nat.beq p 114 then some (0, 0, 2, 1, []) else none))) else (bif Nat.ble 112 p then (bif Nat.ble 113 p then (bif Nat.beq p 113 then some (41, 0, 0, 1, []) else none) else (bif Nat.beq p 112 then some (6, 0, 0, 1, []) else none)) else (bif Nat.ble 111 p then (bif Nat.beq p 111 then some (2, 1, 0, 1, []) else none) else (bif Nat.beq p 110 then some (37, 0, 0, 1, []) else none)))) else (bif Nat.ble 104 p then (bif Nat.ble 108 p then (bif Nat.ble 109 p then (bif Nat.beq p 109 then some (20, 0, 0, 1, []) else none) else (bif Nat.beq p 108 then some (2, 3, 0, 1, []) else none)) else (bif Nat.ble 105 p then (bif Nat.beq p 105 then some (35, 0, 133, 3, []) else none) else (bif Nat.beq p 104 then some (1, 0, 0, 1, []) else none))) else (bif Nat.ble 100 p then (bif Nat.ble 101 p then (bif Nat.beq p 101 then some (23, 0, 114, 3, []) else none) else (bif Nat.beq p 100 then some (2, 1, 0, 1, []) else none)) else (bif Nat.beq p 99 then some (0, 0, 2, 1, []) else none)))))) else (bif Nat.ble 48 p then (bif Nat.ble 75 p then (bif Nat.ble 85 p then (bif Nat.ble 91 p then (bif Nat.ble 95 p then (bif Nat.ble 98 p then (bif Nat.beq p 98 then some (21, 0, 0, 1, []) else none) else (bif Nat.beq p 95 then some (46, 0, 217, 3, []) else none)) else (bif Nat.ble 94 p then (bif Nat.beq p 94 then some (2, 0, 0, 1, []) else none) else (bif Nat.beq p 91 then some (34, 0, 95, 3, []) else none))) else (bif Nat.ble 87 p then (bif Nat.ble 90 p then (bif Nat.beq p 90 then some (2, 1, 0, 1, []) else none) else (bif Nat.beq p 87 then some (23, 0, 94, 3, []) else none)) else (bif Nat.ble 86 p then (bif Nat.beq p 86 then some (2, 2, 0, 1, []) else none) else (bif Nat.beq p 85 then some (0, 0, 2, 1, []) else none)))) else (bif Nat.ble 81 p then (bif Nat.ble 83 p then (bif Nat.ble 84 p then (bif Nat.beq p 84 then some (0, 0, 1, 1, []) else none) else (bif Nat.beq p 83 then some (1, 0, 0, 1, []) else none)) else (bif Nat.ble 82 p then (bif Nat.beq p 82 then some (47, 0, 1, 1, []) else none) else (bif Nat.beq p 81 then some (2, (-1), 0, 1, []) else none))) else (bif Nat.ble 76 p then (bif Nat.ble 78 p then (bif Nat.beq p 78 then some (24, 0, 83, 3, []) else none) else (bif Nat.beq p 76 then some (0, 0, 4, 2, []) else none)) else (bif Nat.beq p 75 then some (0, 0, 3, 1, []) else none)))) else (bif Nat.ble 59 p then (bif Nat.ble 67 p then (bif Nat.ble 71 p then (bif Nat.ble 72 p then (bif Nat.beq p 72 then some (34, 0, 76, 3, []) else none) else (bif Nat.beq p 71 then some (9, 0, 0, 1, []) else none)) else (bif Nat.ble 68 p then (bif Nat.beq p 68 then some (2, 256, 0, 3, []) else none) else (bif Nat.beq p 67 then some (0, 0, 3, 1, []) else none))) else (bif Nat.ble 63 p then (bif Nat.ble 64 p then (bif Nat.beq p 64 then some (23, 0, 75, 3, []) else none) else (bif Nat.beq p 63 then some (2, 3, 0, 1, []) else none)) else (bif Nat.ble 62 p then (bif Nat.beq p 62 then some (0, 0, 2, 1, []) else none) else (bif Nat.beq p 59 then some (30, 0, 81, 3, []) else none)))) else (bif Nat.ble 53 p then (bif Nat.ble 55 p then (bif Nat.ble 58 p then (bif Nat.beq p 58 then some (0, 0, 3, 1, []) else none) else (bif Nat.beq p 55 then some (23, 0, 83, 3, []) else none)) else (bif Nat.ble 54 p then (bif Nat.beq p 54 then some (2, 4, 0, 1, []) else none) else (bif Nat.beq p 53 then some (0, 0, 2, 1, []) else none))) else (bif Nat.ble 49 p then (bif Nat.ble 50 p then (bif Nat.beq p 50 then some (22, 0, 58, 3, []) else none) else (bif Nat.beq p 49 then some (2, 3, 0, 1, []) else none)) else (bif Nat.beq p 48 then some (0, 0, 2, 1, []) else none))))) else (bif Nat.ble 25 p then (bif Nat.ble 37 p then (bif Nat.ble 43 p then (bif Nat.ble 45 p then (bif Nat.ble 46 p then (bif Nat.beq p 46 then some (3, 0, 4, 2, []) else none) else (bif Nat.beq p 45 then some (37, 0, 0, 1, []) else none)) else (bif Nat.ble 44 p then (bif Nat.beq p 44 then some (6, 0, 0, 1, []) else none) else (bif Nat.beq p 43 then some (37, 0, 0, 1, []) else none))) else (bif Nat.ble 39 p then (bif Nat.ble 42 p then (bif Nat.beq p 42 then some (0, 0, 1, 1, []) else none) else (bif Nat.beq p 39 then some (35, 0, 109, 3, []) else none)) else (bif Nat.ble 38 p then (bif Nat.beq p 38 then some (1, 0, 0, 1, []) else none) else (bif Nat.beq p 37 then some (8, 0, 0, 1, []) else none)))) else (bif Nat.ble 30 p then (bif Nat.ble 34 p then (bif Nat.ble 36 p then (bif Nat.beq p 36 then some (0, 0, 1, 1, []) else none) else (bif Nat.beq p 34 then some (2, 40, 0, 2, []) else none)) else (bif Nat.ble 31 p then (bif Nat.beq p 31 then some (35, 0, 118, 3, []) else none) else (bif Nat.beq p 30 then some (1, 0, 0, 1, []) else none))) else (bif Nat.ble 28 p then (bif Nat.ble 29 p then (bif Nat.beq p 29 then some (47, 0, 1, 1, []) else none) else (bif Nat.beq p 28 then some (2, (-1), 0, 1, []) else none)) else (bif Nat.beq p 25 then some (27, 0, 30, 3, []) else none)))) else (bif Nat.ble 11 p then (bif Nat.ble 19 p then (bif Nat.ble 23 p then (bif Nat.ble 24 p then (bif Nat.beq p 24 then some (2, 5, 0, 1, []) else none) else (bif Nat.beq p 23 then some (0, 0, 2, 1, []) else none)) else (bif Nat.ble 20 p then (bif Nat.beq p 20 then some (30, 0, 28, 3, []) else none) else (bif Nat.beq p 19 then some (0, 0, 2, 1, []) else none))) else (bif Nat.ble 15 p then (bif Nat.ble 16 p then (bif Nat.beq p 16 then some (28, 0, 28, 3, []) else none) else (bif Nat.beq p 15 then some (37, 0, 0, 1, []) else none)) else (bif Nat.ble 14 p then (bif Nat.beq p 14 then some (0, 0, 1, 1, []) else none) else (bif Nat.beq p 11 then some (35, 0, 112, 3, []) else none)))) else (bif Nat.ble 5 p then (bif Nat.ble 9 p then (bif Nat.ble 10 p then (bif Nat.beq p 10 then some (1, 0, 0, 1, []) else none) else (bif Nat.beq p 9 then some (47, 0, 1, 1, []) else none)) else (bif Nat.ble 8 p then (bif Nat.beq p 8 then some (2, (-1), 0, 1, []) else none) else (bif Nat.beq p 5 then some (28, 0, 10, 3, []) else none))) else (bif Nat.ble 1 p then (bif Nat.ble 2 p then (bif Nat.beq p 2 then some (46, 0, 165, 3, []) else none) else (bif Nat.beq p 1 then some (0, 0, 1, 1, []) else none)) else (bif Nat.beq p 0 then some (1, 0, 0, 1, []) else none)))))))
def ca_X11_carry (y : Nat) (as : List sl_V) (m : sl_M) : Option (sl_PL × sl_M) := bif Nat.ble 122 y then (bif Nat.ble 123 y then (bif Nat.beq y 123 then F_X11_leaves as m else none) else (bif Nat.beq y 122 then F_X11_moves as m else none)) else (bif Nat.ble 120 y then (bif Nat.beq y 120 then F_X11_hears as m else none) else (bif Nat.beq y 91 then F_X11_isOut as m else none))
def sp_X11_carry (p : Nat) : Bool := Nat.beq p 83 || Nat.beq p 95 || Nat.beq p 187
def mk_X11_carry (p : Nat) : List Bool := bif Nat.ble 95 p then (bif Nat.ble 187 p then (bif Nat.beq p 187 then [true, true, false, false, false] else []) else (bif Nat.beq p 95 then [true, true, true, true, true] else [])) else (bif Nat.beq p 83 then [true, true, true, true, true] else [])
def cl_X11_carry (p : Nat) : Option sl_C := bif Nat.ble 222 p then none else (bif Nat.ble 217 p then (bif Nat.ble 221 p then (bif Nat.beq p 221 then some (122, 5, 0, 0, 0, 12) else none) else (bif Nat.beq p 217 then some (123, 3, 1, 0, 0, 12) else none)) else (bif Nat.ble 214 p then (bif Nat.beq p 214 then some (120, 4, 0, 0, 0, 12) else none) else (bif Nat.beq p 165 then some (91, 2, 1, 0, 0, 12) else none)))
def R_X11_carry (ca : Nat → List sl_V → sl_M → Option (sl_PL × sl_M)) : Nat → sl_S → sl_M → Option (sl_PL × sl_M) := sl_B tb_X11_carry fl_X11 pf_X11 cl_X11_carry nw_X11 sl_rd sl_wr sl_al sl_ln 0 (fun _ => 0) ca sp_X11_carry mk_X11_carry
def F_X11_carry (as : List sl_V) (m : sl_M) : Option (sl_PL × sl_M) := R_X11_carry ca_X11_carry 100000 (0, sl_lo 5 as, []) m
def f_X11_carry (a0 : Int32) (a1 : Int32) (a2 : Int32) (m : sl_M) : Option (sl_PL × sl_M) := F_X11_carry [.inr (.inl (some (11, 0))), .inl a0, .inl a1, .inl a2] m
def r_X11_carry_0 (ca : Nat → List sl_V → sl_M → Option (sl_PL × sl_M)) (n : Nat) (a0 : Int32) (a1 : Int32) (a2 : Int32) (m : sl_M) : Option (sl_PL × sl_M) := R_X11_carry ca n (0, sl_lo 5 [.inr (.inl (some (11, 0))), .inl a0, .inl a1, .inl a2], []) m
def r_X11_carry_83 (ca : Nat → List sl_V → sl_M → Option (sl_PL × sl_M)) (n : Nat) (v1 : Int32) (v2 : Int32) (v3 : Int32) (v4 : Int32) (m : sl_M) : Option (sl_PL × sl_M) := R_X11_carry ca n (83, [some (.inr (.inl (some (11, 0)))), some (.inl v1), some (.inl v2), some (.inl v3), some (.inl v4)], []) m
def b_X11_carry_83 (n : Nat) (v1 : Int32) (v2 : Int32) (v3 : Int32) (v4 : Int32) (m : sl_M) : Option (sl_PL × sl_M) := r_X11_carry_83 ca_X11_carry n v1 v2 v3 v4 m
def r_X11_carry_95 (ca : Nat → List sl_V → sl_M → Option (sl_PL × sl_M)) (n : Nat) (v1 : Int32) (v2 : Int32) (v3 : Int32) (v4 : Int32) (s0 : Int32) (s1 : Int32) (m : sl_M) : Option (sl_PL × sl_M) := R_X11_carry ca n (95, [some (.inr (.inl (some (11, 0)))), some (.inl v1), some (.inl v2), some (.inl v3), some (.inl v4)], [.inl s0, .inl s1, .inr (.inl (some (11, 0)))]) m
def b_X11_carry_95 (n : Nat) (v1 : Int32) (v2 : Int32) (v3 : Int32) (v4 : Int32) (s0 : Int32) (s1 : Int32) (m : sl_M) : Option (sl_PL × sl_M) := r_X11_carry_95 ca_X11_carry n v1 v2 v3 v4 s0 s1 m
def r_X11_carry_187 (ca : Nat → List sl_V → sl_M → Option (sl_PL × sl_M)) (n : Nat) (v1 : Int32) (m : sl_M) : Option (sl_PL × sl_M) := R_X11_carry ca n (187, [some (.inr (.inl (some (11, 0)))), some (.inl v1), none, none, none], []) m
def b_X11_carry_187 (n : Nat) (v1 : Int32) (m : sl_M) : Option (sl_PL × sl_M) := r_X11_carry_187 ca_X11_carry n v1 m
set_option maxRecDepth 100000 in
theorem g_X11_carry_0 (ca : Nat → List sl_V → sl_M → Option (sl_PL × sl_M)) (n : Nat) (a0 : Int32) (a1 : Int32) (a2 : Int32) (m : sl_M) : r_X11_carry_0 ca (n + 1) a0 a1 a2 m =
  (ca 91 [.inr (.inl (some (11, 0))), .inl a0] m).bind (fun q1 =>
  if q1.1.1 = 0 then
    if 0 ≤ a0 ∧ a0.toNatClampNeg < 2 then
    if (q1.2.1 63 0 a0.toNatClampNeg) = 0 then
      some (((-1 : Int32), 0, 0), q1.2)
    else
      if a1 < 0 then
        some (((-1 : Int32), 0, 0), q1.2)
      else
        if a1 ≤ (5 : Int32) then
          if 0 ≤ a0 ∧ a0.toNatClampNeg < 2 then
          if 0 ≤ (((40 : Int32) * a0) + (q1.2.1 62 0 a0.toNatClampNeg)) ∧ (((40 : Int32) * a0) + (q1.2.1 62 0 a0.toNatClampNeg)).toNatClampNeg < 80 then
          if a1 = (3 : Int32) then
            if a2 < 0 then
              some (((-1 : Int32), 0, 0), q1.2)
            else
              if a1 = (3 : Int32) then
                if (a2 / (256 : Int32)) < (q1.2.1 64 0 ((((40 : Int32) * a0) + (q1.2.1 62 0 a0.toNatClampNeg)).toNatClampNeg)) then
                  r_X11_carry_83 ca n a0 a1 a2 (q1.2.1 64 0 ((((40 : Int32) * a0) + (q1.2.1 62 0 a0.toNatClampNeg)).toNatClampNeg)) q1.2
                else
                  some (((-1 : Int32), 0, 0), q1.2)
              else
                if a2 < (q1.2.1 64 0 ((((40 : Int32) * a0) + (q1.2.1 62 0 a0.toNatClampNeg)).toNatClampNeg)) then
                  r_X11_carry_83 ca n a0 a1 a2 (q1.2.1 64 0 ((((40 : Int32) * a0) + (q1.2.1 62 0 a0.toNatClampNeg)).toNatClampNeg)) q1.2
                else
                  some (((-1 : Int32), 0, 0), q1.2)
          else
            if a1 = (4 : Int32) then
              if a2 < 0 then
                some (((-1 : Int32), 0, 0), q1.2)
              else
                if a1 = (3 : Int32) then
                  if (a2 / (256 : Int32)) < (q1.2.1 64 0 ((((40 : Int32) * a0) + (q1.2.1 62 0 a0.toNatClampNeg)).toNatClampNeg)) then
                    r_X11_carry_83 ca n a0 a1 a2 (q1.2.1 64 0 ((((40 : Int32) * a0) + (q1.2.1 62 0 a0.toNatClampNeg)).toNatClampNeg)) q1.2
                  else
                    some (((-1 : Int32), 0, 0), q1.2)
                else
                  if a2 < (q1.2.1 64 0 ((((40 : Int32) * a0) + (q1.2.1 62 0 a0.toNatClampNeg)).toNatClampNeg)) then
                    r_X11_carry_83 ca n a0 a1 a2 (q1.2.1 64 0 ((((40 : Int32) * a0) + (q1.2.1 62 0 a0.toNatClampNeg)).toNatClampNeg)) q1.2
                  else
                    some (((-1 : Int32), 0, 0), q1.2)
            else
              r_X11_carry_83 ca n a0 a1 a2 (q1.2.1 64 0 ((((40 : Int32) * a0) + (q1.2.1 62 0 a0.toNatClampNeg)).toNatClampNeg)) q1.2
          else none
          else none
        else
          some (((-1 : Int32), 0, 0), q1.2)
    else none
  else
    some (((-1 : Int32), 0, 0), q1.2)) := by rfl
set_option maxRecDepth 100000 in
theorem g_X11_carry_83 (ca : Nat → List sl_V → sl_M → Option (sl_PL × sl_M)) (n : Nat) (v1 : Int32) (v2 : Int32) (v3 : Int32) (v4 : Int32) (m : sl_M) : r_X11_carry_83 ca (n + 1) v1 v2 v3 v4 m =
  if v2 = (2 : Int32) then
    r_X11_carry_95 ca n v1 v2 v3 v4 (1 : Int32) v1 m
  else
    r_X11_carry_95 ca n v1 v2 v3 v4 (0 : Int32) v1 m := by rfl
set_option maxRecDepth 100000 in
theorem g_X11_carry_95 (ca : Nat → List sl_V → sl_M → Option (sl_PL × sl_M)) (n : Nat) (v1 : Int32) (v2 : Int32) (v3 : Int32) (v4 : Int32) (s0 : Int32) (s1 : Int32) (m : sl_M) : r_X11_carry_95 ca (n + 1) v1 v2 v3 v4 s0 s1 m =
  (ca 123 [.inr (.inl (some (11, 0))), .inl s1, .inl s0] m).bind (fun q1 =>
  if v2 = (1 : Int32) then
    if v2 = (5 : Int32) then
      (ca 120 [.inr (.inl (some (11, 0))), .inl ((1 : Int32) - v1), .inl (v3 &&& (255 : Int32)), .inl (0 : Int32)] (sl_up q1.2 68 0 3 ((q1.2.1 68 0 3) + (1 : Int32)))).bind (fun q2 =>
      if v2 = (3 : Int32) then
        (ca 122 [.inr (.inl (some (11, 0))), .inl v1, .inl v4, .inl (v3 / (256 : Int32)), .inl (v3 - v3 / (256 : Int32) * (256 : Int32))] q2.2).bind (fun q3 =>
        r_X11_carry_187 ca n v1 q3.2)
      else
        if v2 = (4 : Int32) then
          (ca 122 [.inr (.inl (some (11, 0))), .inl v1, .inl v3, .inl (-1 : Int32), .inl (0 : Int32)] q2.2).bind (fun q4 =>
          r_X11_carry_187 ca n v1 q4.2)
        else
          if v2 = (1 : Int32) then
            r_X11_carry_187 ca n v1 q2.2
          else
            (ca 122 [.inr (.inl (some (11, 0))), .inl v1, .inl v4, .inl (-1 : Int32), .inl (0 : Int32)] q2.2).bind (fun q5 =>
            r_X11_carry_187 ca n v1 q5.2))
    else
      if v2 = (3 : Int32) then
        (ca 122 [.inr (.inl (some (11, 0))), .inl v1, .inl v4, .inl (v3 / (256 : Int32)), .inl (v3 - v3 / (256 : Int32) * (256 : Int32))] (sl_up q1.2 68 0 3 ((q1.2.1 68 0 3) + (1 : Int32)))).bind (fun q6 =>
        r_X11_carry_187 ca n v1 q6.2)
      else
        if v2 = (4 : Int32) then
          (ca 122 [.inr (.inl (some (11, 0))), .inl v1, .inl v3, .inl (-1 : Int32), .inl (0 : Int32)] (sl_up q1.2 68 0 3 ((q1.2.1 68 0 3) + (1 : Int32)))).bind (fun q7 =>
          r_X11_carry_187 ca n v1 q7.2)
        else
          if v2 = (1 : Int32) then
            r_X11_carry_187 ca n v1 (sl_up q1.2 68 0 3 ((q1.2.1 68 0 3) + (1 : Int32)))
          else
            (ca 122 [.inr (.inl (some (11, 0))), .inl v1, .inl v4, .inl (-1 : Int32), .inl (0 : Int32)] (sl_up q1.2 68 0 3 ((q1.2.1 68 0 3) + (1 : Int32)))).bind (fun q8 =>
            r_X11_carry_187 ca n v1 q8.2)
  else
    if v2 = (5 : Int32) then
      (ca 120 [.inr (.inl (some (11, 0))), .inl ((1 : Int32) - v1), .inl (v3 &&& (255 : Int32)), .inl (0 : Int32)] q1.2).bind (fun q9 =>
      if v2 = (3 : Int32) then
        (ca 122 [.inr (.inl (some (11, 0))), .inl v1, .inl v4, .inl (v3 / (256 : Int32)), .inl (v3 - v3 / (256 : Int32) * (256 : Int32))] q9.2).bind (fun q10 =>
        r_X11_carry_187 ca n v1 q10.2)
      else
        if v2 = (4 : Int32) then
          (ca 122 [.inr (.inl (some (11, 0))), .inl v1, .inl v3, .inl (-1 : Int32), .inl (0 : Int32)] q9.2).bind (fun q11 =>
          r_X11_carry_187 ca n v1 q11.2)
        else
          if v2 = (1 : Int32) then
            r_X11_carry_187 ca n v1 q9.2
          else
            (ca 122 [.inr (.inl (some (11, 0))), .inl v1, .inl v4, .inl (-1 : Int32), .inl (0 : Int32)] q9.2).bind (fun q12 =>
            r_X11_carry_187 ca n v1 q12.2))
    else
      if v2 = (3 : Int32) then
        (ca 122 [.inr (.inl (some (11, 0))), .inl v1, .inl v4, .inl (v3 / (256 : Int32)), .inl (v3 - v3 / (256 : Int32) * (256 : Int32))] q1.2).bind (fun q13 =>
        r_X11_carry_187 ca n v1 q13.2)
      else
        if v2 = (4 : Int32) then
          (ca 122 [.inr (.inl (some (11, 0))), .inl v1, .inl v3, .inl (-1 : Int32), .inl (0 : Int32)] q1.2).bind (fun q14 =>
          r_X11_carry_187 ca n v1 q14.2)
        else
          if v2 = (1 : Int32) then
            r_X11_carry_187 ca n v1 q1.2
          else
            (ca 122 [.inr (.inl (some (11, 0))), .inl v1, .inl v4, .inl (-1 : Int32), .inl (0 : Int32)] q1.2).bind (fun q15 =>
            r_X11_carry_187 ca n v1 q15.2)) := by rfl
set_option maxRecDepth 100000 in
theorem g_X11_carry_187 (ca : Nat → List sl_V → sl_M → Option (sl_PL × sl_M)) (n : Nat) (v1 : Int32) (m : sl_M) : r_X11_carry_187 ca (n + 1) v1 m =
  if 0 ≤ v1 ∧ v1.toNatClampNeg < 2 then
  some (((m.1 63 0 v1.toNatClampNeg), 0, 0), m)
  else none := by rfl
theorem cq_X11_carry_X11_isOut (a0 : Int32) (m : sl_M) : ca_X11_carry 91 [.inr (.inl (some (11, 0))), .inl a0] m = f_X11_isOut a0 m := by
  unfold ca_X11_carry f_X11_isOut
  rw [show Nat.ble 122 91 = false from rfl, cond_false, show Nat.ble 120 91 = false from rfl, cond_false, show Nat.beq 91 91 = true from rfl, cond_true]
theorem cq_X11_carry_X11_hears (a0 : Int32) (a1 : Int32) (a2 : Int32) (m : sl_M) : ca_X11_carry 120 [.inr (.inl (some (11, 0))), .inl a0, .inl a1, .inl a2] m = f_X11_hears a0 a1 a2 m := by
  unfold ca_X11_carry f_X11_hears
  rw [show Nat.ble 122 120 = false from rfl, cond_false, show Nat.ble 120 120 = true from rfl, cond_true, show Nat.beq 120 120 = true from rfl, cond_true]
theorem cq_X11_carry_X11_moves (a0 : Int32) (a1 : Int32) (a2 : Int32) (a3 : Int32) (m : sl_M) : ca_X11_carry 122 [.inr (.inl (some (11, 0))), .inl a0, .inl a1, .inl a2, .inl a3] m = f_X11_moves a0 a1 a2 a3 m := by
  unfold ca_X11_carry f_X11_moves
  rw [show Nat.ble 122 122 = true from rfl, cond_true, show Nat.ble 123 122 = false from rfl, cond_false, show Nat.beq 122 122 = true from rfl, cond_true]
theorem cq_X11_carry_X11_leaves (a0 : Int32) (a1 : Int32) (m : sl_M) : ca_X11_carry 123 [.inr (.inl (some (11, 0))), .inl a0, .inl a1] m = f_X11_leaves a0 a1 m := by
  unfold ca_X11_carry f_X11_leaves
  rw [show Nat.ble 122 123 = true from rfl, cond_true, show Nat.ble 123 123 = true from rfl, cond_true, show Nat.beq 123 123 = true from rfl, cond_true]
theorem bq_X11_carry_83 (n : Nat) (v1 : Int32) (v2 : Int32) (v3 : Int32) (v4 : Int32) (m : sl_M) : r_X11_carry_83 ca_X11_carry n v1 v2 v3 v4 m = b_X11_carry_83 n v1 v2 v3 v4 m := rfl
theorem bq_X11_carry_95 (n : Nat) (v1 : Int32) (v2 : Int32) (v3 : Int32) (v4 : Int32) (s0 : Int32) (s1 : Int32) (m : sl_M) : r_X11_carry_95 ca_X11_carry n v1 v2 v3 v4 s0 s1 m = b_X11_carry_95 n v1 v2 v3 v4 s0 s1 m := rfl
theorem bq_X11_carry_187 (n : Nat) (v1 : Int32) (m : sl_M) : r_X11_carry_187 ca_X11_carry n v1 m = b_X11_carry_187 n v1 m := rfl
theorem e_X11_carry (a0 : Int32) (a1 : Int32) (a2 : Int32) (m : sl_M) : f_X11_carry a0 a1 a2 m =
  (f_X11_isOut a0 m).bind (fun q1 =>
  if q1.1.1 = 0 then
    if 0 ≤ a0 ∧ a0.toNatClampNeg < 2 then
    if (q1.2.1 63 0 a0.toNatClampNeg) = 0 then
      some (((-1 : Int32), 0, 0), q1.2)
    else
      if a1 < 0 then
        some (((-1 : Int32), 0, 0), q1.2)
      else
        if a1 ≤ (5 : Int32) then
          if 0 ≤ a0 ∧ a0.toNatClampNeg < 2 then
          if 0 ≤ (((40 : Int32) * a0) + (q1.2.1 62 0 a0.toNatClampNeg)) ∧ (((40 : Int32) * a0) + (q1.2.1 62 0 a0.toNatClampNeg)).toNatClampNeg < 80 then
          if a1 = (3 : Int32) then
            if a2 < 0 then
              some (((-1 : Int32), 0, 0), q1.2)
            else
              if a1 = (3 : Int32) then
                if (a2 / (256 : Int32)) < (q1.2.1 64 0 ((((40 : Int32) * a0) + (q1.2.1 62 0 a0.toNatClampNeg)).toNatClampNeg)) then
                  b_X11_carry_83 99999 a0 a1 a2 (q1.2.1 64 0 ((((40 : Int32) * a0) + (q1.2.1 62 0 a0.toNatClampNeg)).toNatClampNeg)) q1.2
                else
                  some (((-1 : Int32), 0, 0), q1.2)
              else
                if a2 < (q1.2.1 64 0 ((((40 : Int32) * a0) + (q1.2.1 62 0 a0.toNatClampNeg)).toNatClampNeg)) then
                  b_X11_carry_83 99999 a0 a1 a2 (q1.2.1 64 0 ((((40 : Int32) * a0) + (q1.2.1 62 0 a0.toNatClampNeg)).toNatClampNeg)) q1.2
                else
                  some (((-1 : Int32), 0, 0), q1.2)
          else
            if a1 = (4 : Int32) then
              if a2 < 0 then
                some (((-1 : Int32), 0, 0), q1.2)
              else
                if a1 = (3 : Int32) then
                  if (a2 / (256 : Int32)) < (q1.2.1 64 0 ((((40 : Int32) * a0) + (q1.2.1 62 0 a0.toNatClampNeg)).toNatClampNeg)) then
                    b_X11_carry_83 99999 a0 a1 a2 (q1.2.1 64 0 ((((40 : Int32) * a0) + (q1.2.1 62 0 a0.toNatClampNeg)).toNatClampNeg)) q1.2
                  else
                    some (((-1 : Int32), 0, 0), q1.2)
                else
                  if a2 < (q1.2.1 64 0 ((((40 : Int32) * a0) + (q1.2.1 62 0 a0.toNatClampNeg)).toNatClampNeg)) then
                    b_X11_carry_83 99999 a0 a1 a2 (q1.2.1 64 0 ((((40 : Int32) * a0) + (q1.2.1 62 0 a0.toNatClampNeg)).toNatClampNeg)) q1.2
                  else
                    some (((-1 : Int32), 0, 0), q1.2)
            else
              b_X11_carry_83 99999 a0 a1 a2 (q1.2.1 64 0 ((((40 : Int32) * a0) + (q1.2.1 62 0 a0.toNatClampNeg)).toNatClampNeg)) q1.2
          else none
          else none
        else
          some (((-1 : Int32), 0, 0), q1.2)
    else none
  else
    some (((-1 : Int32), 0, 0), q1.2)) := by
  have h := g_X11_carry_0 ca_X11_carry 99999 a0 a1 a2 m
  simp only [cq_X11_carry_X11_isOut, cq_X11_carry_X11_hears, cq_X11_carry_X11_moves, cq_X11_carry_X11_leaves, bq_X11_carry_83, bq_X11_carry_95, bq_X11_carry_187] at h
  exact h
theorem e_X11_carry_83 (n : Nat) (v1 : Int32) (v2 : Int32) (v3 : Int32) (v4 : Int32) (m : sl_M) : b_X11_carry_83 (n + 1) v1 v2 v3 v4 m =
  if v2 = (2 : Int32) then
    b_X11_carry_95 n v1 v2 v3 v4 (1 : Int32) v1 m
  else
    b_X11_carry_95 n v1 v2 v3 v4 (0 : Int32) v1 m := by
  have h := g_X11_carry_83 ca_X11_carry n v1 v2 v3 v4 m
  simp only [cq_X11_carry_X11_isOut, cq_X11_carry_X11_hears, cq_X11_carry_X11_moves, cq_X11_carry_X11_leaves, bq_X11_carry_83, bq_X11_carry_95, bq_X11_carry_187] at h
  exact h
theorem e_X11_carry_95 (n : Nat) (v1 : Int32) (v2 : Int32) (v3 : Int32) (v4 : Int32) (s0 : Int32) (s1 : Int32) (m : sl_M) : b_X11_carry_95 (n + 1) v1 v2 v3 v4 s0 s1 m =
  (f_X11_leaves s1 s0 m).bind (fun q1 =>
  if v2 = (1 : Int32) then
    if v2 = (5 : Int32) then
      (f_X11_hears ((1 : Int32) - v1) (v3 &&& (255 : Int32)) (0 : Int32) (sl_up q1.2 68 0 3 ((q1.2.1 68 0 3) + (1 : Int32)))).bind (fun q2 =>
      if v2 = (3 : Int32) then
        (f_X11_moves v1 v4 (v3 / (256 : Int32)) (v3 - v3 / (256 : Int32) * (256 : Int32)) q2.2).bind (fun q3 =>
        b_X11_carry_187 n v1 q3.2)
      else
        if v2 = (4 : Int32) then
          (f_X11_moves v1 v3 (-1 : Int32) (0 : Int32) q2.2).bind (fun q4 =>
          b_X11_carry_187 n v1 q4.2)
        else
          if v2 = (1 : Int32) then
            b_X11_carry_187 n v1 q2.2
          else
            (f_X11_moves v1 v4 (-1 : Int32) (0 : Int32) q2.2).bind (fun q5 =>
            b_X11_carry_187 n v1 q5.2))
    else
      if v2 = (3 : Int32) then
        (f_X11_moves v1 v4 (v3 / (256 : Int32)) (v3 - v3 / (256 : Int32) * (256 : Int32)) (sl_up q1.2 68 0 3 ((q1.2.1 68 0 3) + (1 : Int32)))).bind (fun q6 =>
        b_X11_carry_187 n v1 q6.2)
      else
        if v2 = (4 : Int32) then
          (f_X11_moves v1 v3 (-1 : Int32) (0 : Int32) (sl_up q1.2 68 0 3 ((q1.2.1 68 0 3) + (1 : Int32)))).bind (fun q7 =>
          b_X11_carry_187 n v1 q7.2)
        else
          if v2 = (1 : Int32) then
            b_X11_carry_187 n v1 (sl_up q1.2 68 0 3 ((q1.2.1 68 0 3) + (1 : Int32)))
          else
            (f_X11_moves v1 v4 (-1 : Int32) (0 : Int32) (sl_up q1.2 68 0 3 ((q1.2.1 68 0 3) + (1 : Int32)))).bind (fun q8 =>
            b_X11_carry_187 n v1 q8.2)
  else
    if v2 = (5 : Int32) then
      (f_X11_hears ((1 : Int32) - v1) (v3 &&& (255 : Int32)) (0 : Int32) q1.2).bind (fun q9 =>
      if v2 = (3 : Int32) then
        (f_X11_moves v1 v4 (v3 / (256 : Int32)) (v3 - v3 / (256 : Int32) * (256 : Int32)) q9.2).bind (fun q10 =>
        b_X11_carry_187 n v1 q10.2)
      else
        if v2 = (4 : Int32) then
          (f_X11_moves v1 v3 (-1 : Int32) (0 : Int32) q9.2).bind (fun q11 =>
          b_X11_carry_187 n v1 q11.2)
        else
          if v2 = (1 : Int32) then
            b_X11_carry_187 n v1 q9.2
          else
            (f_X11_moves v1 v4 (-1 : Int32) (0 : Int32) q9.2).bind (fun q12 =>
            b_X11_carry_187 n v1 q12.2))
    else
      if v2 = (3 : Int32) then
        (f_X11_moves v1 v4 (v3 / (256 : Int32)) (v3 - v3 / (256 : Int32) * (256 : Int32)) q1.2).bind (fun q13 =>
        b_X11_carry_187 n v1 q13.2)
      else
        if v2 = (4 : Int32) then
          (f_X11_moves v1 v3 (-1 : Int32) (0 : Int32) q1.2).bind (fun q14 =>
          b_X11_carry_187 n v1 q14.2)
        else
          if v2 = (1 : Int32) then
            b_X11_carry_187 n v1 q1.2
          else
            (f_X11_moves v1 v4 (-1 : Int32) (0 : Int32) q1.2).bind (fun q15 =>
            b_X11_carry_187 n v1 q15.2)) := by
  have h := g_X11_carry_95 ca_X11_carry n v1 v2 v3 v4 s0 s1 m
  simp only [cq_X11_carry_X11_isOut, cq_X11_carry_X11_hears, cq_X11_carry_X11_moves, cq_X11_carry_X11_leaves, bq_X11_carry_83, bq_X11_carry_95, bq_X11_carry_187] at h
  exact h
theorem e_X11_carry_187 (n : Nat) (v1 : Int32) (m : sl_M) : b_X11_carry_187 (n + 1) v1 m =
  if 0 ≤ v1 ∧ v1.toNatClampNeg < 2 then
  some (((m.1 63 0 v1.toNatClampNeg), 0, 0), m)
  else none := by
  have h := g_X11_carry_187 ca_X11_carry n v1 m
  simp only [cq_X11_carry_X11_isOut, cq_X11_carry_X11_hears, cq_X11_carry_X11_moves, cq_X11_carry_X11_leaves, bq_X11_carry_83, bq_X11_carry_95, bq_X11_carry_187] at h
  exact h

def tb_X11_round (p : Nat) : Option sl_E := bif Nat.ble 68 p then none else (bif Nat.ble 35 p then (bif Nat.ble 51 p then (bif Nat.ble 56 p then (bif Nat.ble 63 p then (bif Nat.ble 66 p then (bif Nat.ble 67 p then (bif Nat.beq p 67 then some (47, 0, 1, 1, []) else none) else (bif Nat.beq p 66 then some (0, 0, 1, 1, []) else none)) else (bif Nat.beq p 63 then some (34, 0, 12, 3, []) else none)) else (bif Nat.ble 57 p then (bif Nat.ble 60 p then (bif Nat.beq p 60 then some (5, 1, 1, 3, []) else none) else (bif Nat.beq p 57 then some (46, 0, 221, 3, []) else none)) else (bif Nat.beq p 56 then some (2, 0, 0, 1, []) else none))) else (bif Nat.ble 53 p then (bif Nat.ble 54 p then (bif Nat.ble 55 p then (bif Nat.beq p 55 then some (2, (-1), 0, 1, []) else none) else (bif Nat.beq p 54 then some (0, 0, 3, 1, []) else none)) else (bif Nat.beq p 53 then some (0, 0, 2, 1, []) else none)) else (bif Nat.ble 52 p then (bif Nat.beq p 52 then some (1, 0, 0, 1, []) else none) else (bif Nat.beq p 51 then some (3, 0, 3, 1, []) else none)))) else (bif Nat.ble 44 p then (bif Nat.ble 46 p then (bif Nat.ble 47 p then (bif Nat.ble 48 p then (bif Nat.beq p 48 then some (46, 0, 217, 3, []) else none) else (bif Nat.beq p 47 then some (2, 0, 0, 1, []) else none)) else (bif Nat.beq p 46 then some (0, 0, 2, 1, []) else none)) else (bif Nat.ble 45 p then (bif Nat.beq p 45 then some (1, 0, 0, 1, []) else none) else (bif Nat.beq p 44 then some (3, 0, 2, 1, []) else none))) else (bif Nat.ble 39 p then (bif Nat.ble 40 p then (bif Nat.ble 43 p then (bif Nat.beq p 43 then some (2, 1, 0, 1, []) else none) else (bif Nat.beq p 40 then some (34, 0, 44, 3, []) else none)) else (bif Nat.beq p 39 then some (2, 0, 0, 1, []) else none)) else (bif Nat.ble 36 p then (bif Nat.beq p 36 then some (33, 0, 43, 3, []) else none) else (bif Nat.beq p 35 then some (37, 0, 0, 1, []) else none))))) else (bif Nat.ble 16 p then (bif Nat.ble 25 p then (bif Nat.ble 30 p then (bif Nat.ble 31 p then (bif Nat.ble 34 p then (bif Nat.beq p 34 then some (2, 0, 0, 1, []) else none) else (bif Nat.beq p 31 then some (35, 0, 112, 3, []) else none)) else (bif Nat.beq p 30 then some (1, 0, 0, 1, []) else none)) else (bif Nat.ble 26 p then (bif Nat.ble 27 p then (bif Nat.beq p 27 then some (33, 0, 66, 3, []) else none) else (bif Nat.beq p 26 then some (37, 0, 0, 1, []) else none)) else (bif Nat.beq p 25 then some (2, 1, 0, 1, []) else none))) else (bif Nat.ble 18 p then (bif Nat.ble 21 p then (bif Nat.ble 22 p then (bif Nat.beq p 22 then some (35, 0, 112, 3, []) else none) else (bif Nat.beq p 21 then some (1, 0, 0, 1, []) else none)) else (bif Nat.beq p 18 then some (32, 0, 30, 3, []) else none)) else (bif Nat.ble 17 p then (bif Nat.beq p 17 then some (37, 0, 0, 1, []) else none) else (bif Nat.beq p 16 then some (2, 0, 0, 1, []) else none)))) else (bif Nat.ble 9 p then (bif Nat.ble 11 p then (bif Nat.ble 12 p then (bif Nat.ble 13 p then (bif Nat.beq p 13 then some (35, 0, 112, 3, []) else none) else (bif Nat.beq p 12 then some (1, 0, 0, 1, []) else none)) else (bif Nat.beq p 11 then some (3, 0, 1, 1, []) else none)) else (bif Nat.ble 10 p then (bif Nat.beq p 10 then some (2, 0, 0, 1, []) else none) else (bif Nat.beq p 9 then some (21, 0, 0, 1, []) else none))) else (bif Nat.ble 2 p then (bif Nat.ble 5 p then (bif Nat.ble 6 p then (bif Nat.beq p 6 then some (46, 0, 184, 3, []) else none) else (bif Nat.beq p 5 then some (1, 0, 0, 1, []) else none)) else (bif Nat.beq p 2 then some (36, 0, 7, 3, []) else none)) else (bif Nat.ble 1 p then (bif Nat.beq p 1 then some (2, 0, 0, 1, []) else none) else (bif Nat.beq p 0 then some (1, 0, 0, 1, []) else none))))))
def ca_X11_round (y : Nat) (as : List sl_V) (m : sl_M) : Option (sl_PL × sl_M) := bif Nat.ble 122 y then (bif Nat.ble 123 y then (bif Nat.beq y 123 then F_X11_leaves as m else none) else (bif Nat.beq y 122 then F_X11_moves as m else none)) else (bif Nat.beq y 112 then F_X11_ticks as m else none)
def sp_X11_round (p : Nat) : Bool := Nat.beq p 12
def mk_X11_round (p : Nat) : List Bool := bif Nat.beq p 12 then [true, true, false, false] else []
def cl_X11_round (p : Nat) : Option sl_C := bif Nat.ble 222 p then none else (bif Nat.ble 217 p then (bif Nat.ble 221 p then (bif Nat.beq p 221 then some (122, 5, 0, 0, 0, 12) else none) else (bif Nat.beq p 217 then some (123, 3, 1, 0, 0, 12) else none)) else (bif Nat.beq p 184 then some (112, 1, 1, 0, 0, 12) else none))
def R_X11_round (ca : Nat → List sl_V → sl_M → Option (sl_PL × sl_M)) : Nat → sl_S → sl_M → Option (sl_PL × sl_M) := sl_B tb_X11_round fl_X11 pf_X11 cl_X11_round nw_X11 sl_rd sl_wr sl_al sl_ln 0 (fun _ => 0) ca sp_X11_round mk_X11_round
def F_X11_round (as : List sl_V) (m : sl_M) : Option (sl_PL × sl_M) := R_X11_round ca_X11_round 100000 (0, sl_lo 4 as, []) m
def f_X11_round  (m : sl_M) : Option (sl_PL × sl_M) := F_X11_round [.inr (.inl (some (11, 0)))] m
def r_X11_round_0 (ca : Nat → List sl_V → sl_M → Option (sl_PL × sl_M)) (n : Nat)  (m : sl_M) : Option (sl_PL × sl_M) := R_X11_round ca n (0, sl_lo 4 [.inr (.inl (some (11, 0)))], []) m
def r_X11_round_12 (ca : Nat → List sl_V → sl_M → Option (sl_PL × sl_M)) (n : Nat) (v1 : Int32) (m : sl_M) : Option (sl_PL × sl_M) := R_X11_round ca n (12, [some (.inr (.inl (some (11, 0)))), some (.inl v1), none, none], []) m
def b_X11_round_12 (n : Nat) (v1 : Int32) (m : sl_M) : Option (sl_PL × sl_M) := r_X11_round_12 ca_X11_round n v1 m
set_option maxRecDepth 100000 in
theorem g_X11_round_0 (ca : Nat → List sl_V → sl_M → Option (sl_PL × sl_M)) (n : Nat)  (m : sl_M) : r_X11_round_0 ca (n + 1) m =
  (ca 112 [.inr (.inl (some (11, 0)))] (sl_up m 11 0 0 (0 : Int32))).bind (fun q1 =>
  r_X11_round_12 ca n (0 : Int32) q1.2) := by rfl
set_option maxRecDepth 100000 in
theorem g_X11_round_12 (ca : Nat → List sl_V → sl_M → Option (sl_PL × sl_M)) (n : Nat) (v1 : Int32) (m : sl_M) : r_X11_round_12 ca (n + 1) v1 m =
  if 0 < (m.1 63 0 0) then
    if (m.1 63 0 0) ≤ 0 then
      (ca 123 [.inr (.inl (some (11, 0))), .inl (1 : Int32), .inl (0 : Int32)] m).bind (fun q1 =>
      (ca 122 [.inr (.inl (some (11, 0))), .inl (1 : Int32), .inl q1.1.1, .inl (-1 : Int32), .inl (0 : Int32)] q1.2).bind (fun q2 =>
      r_X11_round_12 ca n (v1 + (1 : Int32)) q2.2))
    else
      (ca 123 [.inr (.inl (some (11, 0))), .inl (0 : Int32), .inl (0 : Int32)] m).bind (fun q3 =>
      (ca 122 [.inr (.inl (some (11, 0))), .inl (0 : Int32), .inl q3.1.1, .inl (-1 : Int32), .inl (0 : Int32)] q3.2).bind (fun q4 =>
      r_X11_round_12 ca n (v1 + (1 : Int32)) q4.2))
  else
    if (m.1 63 0 1) ≤ 0 then
      some ((v1, 0, 0), m)
    else
      if (m.1 63 0 0) ≤ 0 then
        (ca 123 [.inr (.inl (some (11, 0))), .inl (1 : Int32), .inl (0 : Int32)] m).bind (fun q5 =>
        (ca 122 [.inr (.inl (some (11, 0))), .inl (1 : Int32), .inl q5.1.1, .inl (-1 : Int32), .inl (0 : Int32)] q5.2).bind (fun q6 =>
        r_X11_round_12 ca n (v1 + (1 : Int32)) q6.2))
      else
        (ca 123 [.inr (.inl (some (11, 0))), .inl (0 : Int32), .inl (0 : Int32)] m).bind (fun q7 =>
        (ca 122 [.inr (.inl (some (11, 0))), .inl (0 : Int32), .inl q7.1.1, .inl (-1 : Int32), .inl (0 : Int32)] q7.2).bind (fun q8 =>
        r_X11_round_12 ca n (v1 + (1 : Int32)) q8.2)) := by rfl
theorem cq_X11_round_X11_ticks  (m : sl_M) : ca_X11_round 112 [.inr (.inl (some (11, 0)))] m = f_X11_ticks m := by
  unfold ca_X11_round f_X11_ticks
  rw [show Nat.ble 122 112 = false from rfl, cond_false, show Nat.beq 112 112 = true from rfl, cond_true]
theorem cq_X11_round_X11_moves (a0 : Int32) (a1 : Int32) (a2 : Int32) (a3 : Int32) (m : sl_M) : ca_X11_round 122 [.inr (.inl (some (11, 0))), .inl a0, .inl a1, .inl a2, .inl a3] m = f_X11_moves a0 a1 a2 a3 m := by
  unfold ca_X11_round f_X11_moves
  rw [show Nat.ble 122 122 = true from rfl, cond_true, show Nat.ble 123 122 = false from rfl, cond_false, show Nat.beq 122 122 = true from rfl, cond_true]
theorem cq_X11_round_X11_leaves (a0 : Int32) (a1 : Int32) (m : sl_M) : ca_X11_round 123 [.inr (.inl (some (11, 0))), .inl a0, .inl a1] m = f_X11_leaves a0 a1 m := by
  unfold ca_X11_round f_X11_leaves
  rw [show Nat.ble 122 123 = true from rfl, cond_true, show Nat.ble 123 123 = true from rfl, cond_true, show Nat.beq 123 123 = true from rfl, cond_true]
theorem bq_X11_round_12 (n : Nat) (v1 : Int32) (m : sl_M) : r_X11_round_12 ca_X11_round n v1 m = b_X11_round_12 n v1 m := rfl
theorem e_X11_round  (m : sl_M) : f_X11_round m =
  (f_X11_ticks (sl_up m 11 0 0 (0 : Int32))).bind (fun q1 =>
  b_X11_round_12 99999 (0 : Int32) q1.2) := by
  have h := g_X11_round_0 ca_X11_round 99999 m
  simp only [cq_X11_round_X11_ticks, cq_X11_round_X11_moves, cq_X11_round_X11_leaves, bq_X11_round_12] at h
  exact h
theorem e_X11_round_12 (n : Nat) (v1 : Int32) (m : sl_M) : b_X11_round_12 (n + 1) v1 m =
  if 0 < (m.1 63 0 0) then
    if (m.1 63 0 0) ≤ 0 then
      (f_X11_leaves (1 : Int32) (0 : Int32) m).bind (fun q1 =>
      (f_X11_moves (1 : Int32) q1.1.1 (-1 : Int32) (0 : Int32) q1.2).bind (fun q2 =>
      b_X11_round_12 n (v1 + (1 : Int32)) q2.2))
    else
      (f_X11_leaves (0 : Int32) (0 : Int32) m).bind (fun q3 =>
      (f_X11_moves (0 : Int32) q3.1.1 (-1 : Int32) (0 : Int32) q3.2).bind (fun q4 =>
      b_X11_round_12 n (v1 + (1 : Int32)) q4.2))
  else
    if (m.1 63 0 1) ≤ 0 then
      some ((v1, 0, 0), m)
    else
      if (m.1 63 0 0) ≤ 0 then
        (f_X11_leaves (1 : Int32) (0 : Int32) m).bind (fun q5 =>
        (f_X11_moves (1 : Int32) q5.1.1 (-1 : Int32) (0 : Int32) q5.2).bind (fun q6 =>
        b_X11_round_12 n (v1 + (1 : Int32)) q6.2))
      else
        (f_X11_leaves (0 : Int32) (0 : Int32) m).bind (fun q7 =>
        (f_X11_moves (0 : Int32) q7.1.1 (-1 : Int32) (0 : Int32) q7.2).bind (fun q8 =>
        b_X11_round_12 n (v1 + (1 : Int32)) q8.2)) := by
  have h := g_X11_round_12 ca_X11_round n v1 m
  simp only [cq_X11_round_X11_ticks, cq_X11_round_X11_moves, cq_X11_round_X11_leaves, bq_X11_round_12] at h
  exact h

def tb_X11_noise (p : Nat) : Option sl_E := bif Nat.ble 57 p then none else (bif Nat.ble 25 p then (bif Nat.ble 40 p then (bif Nat.ble 46 p then (bif Nat.ble 52 p then (bif Nat.ble 55 p then (bif Nat.ble 56 p then (bif Nat.beq p 56 then some (47, 0, 1, 1, []) else none) else (bif Nat.beq p 55 then some (0, 0, 3, 1, []) else none)) else (bif Nat.beq p 52 then some (34, 0, 27, 3, []) else none)) else (bif Nat.ble 49 p then (bif Nat.beq p 49 then some (5, (-1), 4, 3, []) else none) else (bif Nat.beq p 46 then some (46, 0, 214, 3, []) else none))) else (bif Nat.ble 44 p then (bif Nat.ble 45 p then (bif Nat.beq p 45 then some (2, 0, 0, 1, []) else none) else (bif Nat.beq p 44 then some (11, 0, 0, 1, []) else none)) else (bif Nat.ble 41 p then (bif Nat.beq p 41 then some (2, 255, 0, 3, []) else none) else (bif Nat.beq p 40 then some (15, 0, 0, 1, []) else none)))) else (bif Nat.ble 33 p then (bif Nat.ble 35 p then (bif Nat.ble 37 p then (bif Nat.ble 39 p then (bif Nat.beq p 39 then some (8, 0, 0, 1, []) else none) else (bif Nat.beq p 37 then some (0, 0, 4, 2, []) else none)) else (bif Nat.beq p 35 then some (2, 8, 0, 2, []) else none)) else (bif Nat.ble 34 p then (bif Nat.beq p 34 then some (0, 0, 2, 1, []) else none) else (bif Nat.beq p 33 then some (0, 0, 1, 1, []) else none))) else (bif Nat.ble 29 p then (bif Nat.ble 32 p then (bif Nat.beq p 32 then some (1, 0, 0, 1, []) else none) else (bif Nat.beq p 29 then some (30, 0, 55, 3, []) else none)) else (bif Nat.ble 27 p then (bif Nat.beq p 27 then some (0, 0, 4, 2, []) else none) else (bif Nat.beq p 25 then some (3, 0, 4, 2, []) else none))))) else (bif Nat.ble 12 p then (bif Nat.ble 20 p then (bif Nat.ble 22 p then (bif Nat.ble 23 p then (bif Nat.ble 24 p then (bif Nat.beq p 24 then some (7, 0, 0, 1, []) else none) else (bif Nat.beq p 23 then some (2, 1, 0, 1, []) else none)) else (bif Nat.beq p 22 then some (0, 0, 3, 1, []) else none)) else (bif Nat.ble 21 p then (bif Nat.beq p 21 then some (47, 0, 1, 1, []) else none) else (bif Nat.beq p 20 then some (2, (-1), 0, 1, []) else none))) else (bif Nat.ble 16 p then (bif Nat.ble 17 p then (bif Nat.beq p 17 then some (27, 0, 22, 3, []) else none) else (bif Nat.beq p 16 then some (2, 4, 0, 1, []) else none)) else (bif Nat.ble 15 p then (bif Nat.beq p 15 then some (0, 0, 3, 1, []) else none) else (bif Nat.beq p 12 then some (24, 0, 20, 3, []) else none)))) else (bif Nat.ble 8 p then (bif Nat.ble 10 p then (bif Nat.ble 11 p then (bif Nat.beq p 11 then some (2, 1, 0, 1, []) else none) else (bif Nat.beq p 10 then some (0, 0, 3, 1, []) else none)) else (bif Nat.ble 9 p then (bif Nat.beq p 9 then some (47, 0, 1, 1, []) else none) else (bif Nat.beq p 8 then some (2, (-1), 0, 1, []) else none))) else (bif Nat.ble 2 p then (bif Nat.ble 5 p then (bif Nat.beq p 5 then some (28, 0, 10, 3, []) else none) else (bif Nat.beq p 2 then some (46, 0, 165, 3, []) else none)) else (bif Nat.ble 1 p then (bif Nat.beq p 1 then some (0, 0, 1, 1, []) else none) else (bif Nat.beq p 0 then some (1, 0, 0, 1, []) else none))))))
def ca_X11_noise (y : Nat) (as : List sl_V) (m : sl_M) : Option (sl_PL × sl_M) := bif Nat.ble 120 y then (bif Nat.beq y 120 then F_X11_hears as m else none) else (bif Nat.beq y 91 then F_X11_isOut as m else none)
def sp_X11_noise (p : Nat) : Bool := Nat.beq p 27
def mk_X11_noise (p : Nat) : List Bool := bif Nat.beq p 27 then [true, true, true, true, true] else []
def cl_X11_noise (p : Nat) : Option sl_C := bif Nat.ble 215 p then none else (bif Nat.ble 214 p then (bif Nat.beq p 214 then some (120, 4, 0, 0, 0, 12) else none) else (bif Nat.beq p 165 then some (91, 2, 1, 0, 0, 12) else none))
def R_X11_noise (ca : Nat → List sl_V → sl_M → Option (sl_PL × sl_M)) : Nat → sl_S → sl_M → Option (sl_PL × sl_M) := sl_B tb_X11_noise fl_X11 pf_X11 cl_X11_noise nw_X11 sl_rd sl_wr sl_al sl_ln 0 (fun _ => 0) ca sp_X11_noise mk_X11_noise
def F_X11_noise (as : List sl_V) (m : sl_M) : Option (sl_PL × sl_M) := R_X11_noise ca_X11_noise 100000 (0, sl_lo 5 as, []) m
def f_X11_noise (a0 : Int32) (a1 : Int32) (a2 : Int32) (m : sl_M) : Option (sl_PL × sl_M) := F_X11_noise [.inr (.inl (some (11, 0))), .inl a0, .inl a1, .inl a2] m
def r_X11_noise_0 (ca : Nat → List sl_V → sl_M → Option (sl_PL × sl_M)) (n : Nat) (a0 : Int32) (a1 : Int32) (a2 : Int32) (m : sl_M) : Option (sl_PL × sl_M) := R_X11_noise ca n (0, sl_lo 5 [.inr (.inl (some (11, 0))), .inl a0, .inl a1, .inl a2], []) m
def r_X11_noise_27 (ca : Nat → List sl_V → sl_M → Option (sl_PL × sl_M)) (n : Nat) (v1 : Int32) (v2 : Int32) (v3 : Int32) (v4 : Int32) (m : sl_M) : Option (sl_PL × sl_M) := R_X11_noise ca n (27, [some (.inr (.inl (some (11, 0)))), some (.inl v1), some (.inl v2), some (.inl v3), some (.inl v4)], []) m
def b_X11_noise_27 (n : Nat) (v1 : Int32) (v2 : Int32) (v3 : Int32) (v4 : Int32) (m : sl_M) : Option (sl_PL × sl_M) := r_X11_noise_27 ca_X11_noise n v1 v2 v3 v4 m
set_option maxRecDepth 100000 in
theorem g_X11_noise_0 (ca : Nat → List sl_V → sl_M → Option (sl_PL × sl_M)) (n : Nat) (a0 : Int32) (a1 : Int32) (a2 : Int32) (m : sl_M) : r_X11_noise_0 ca (n + 1) a0 a1 a2 m =
  (ca 91 [.inr (.inl (some (11, 0))), .inl a0] m).bind (fun q1 =>
  if q1.1.1 = 0 then
    if a2 < (1 : Int32) then
      some (((-1 : Int32), 0, 0), q1.2)
    else
      if a2 ≤ (4 : Int32) then
        r_X11_noise_27 ca n a0 a1 a2 (a2 - (1 : Int32)) q1.2
      else
        some (((-1 : Int32), 0, 0), q1.2)
  else
    some (((-1 : Int32), 0, 0), q1.2)) := by rfl
set_option maxRecDepth 100000 in
theorem g_X11_noise_27 (ca : Nat → List sl_V → sl_M → Option (sl_PL × sl_M)) (n : Nat) (v1 : Int32) (v2 : Int32) (v3 : Int32) (v4 : Int32) (m : sl_M) : r_X11_noise_27 ca (n + 1) v1 v2 v3 v4 m =
  if v4 < 0 then
    some ((v3, 0, 0), m)
  else
    (ca 120 [.inr (.inl (some (11, 0))), .inl v1, .inl ((v2 >>> (((8 : Int32) * v4) &&& 31)) &&& (255 : Int32)), .inl (0 : Int32)] m).bind (fun q1 =>
    r_X11_noise_27 ca n v1 v2 v3 (v4 + (-1 : Int32)) q1.2) := by rfl
theorem cq_X11_noise_X11_isOut (a0 : Int32) (m : sl_M) : ca_X11_noise 91 [.inr (.inl (some (11, 0))), .inl a0] m = f_X11_isOut a0 m := by
  unfold ca_X11_noise f_X11_isOut
  rw [show Nat.ble 120 91 = false from rfl, cond_false, show Nat.beq 91 91 = true from rfl, cond_true]
theorem cq_X11_noise_X11_hears (a0 : Int32) (a1 : Int32) (a2 : Int32) (m : sl_M) : ca_X11_noise 120 [.inr (.inl (some (11, 0))), .inl a0, .inl a1, .inl a2] m = f_X11_hears a0 a1 a2 m := by
  unfold ca_X11_noise f_X11_hears
  rw [show Nat.ble 120 120 = true from rfl, cond_true, show Nat.beq 120 120 = true from rfl, cond_true]
theorem bq_X11_noise_27 (n : Nat) (v1 : Int32) (v2 : Int32) (v3 : Int32) (v4 : Int32) (m : sl_M) : r_X11_noise_27 ca_X11_noise n v1 v2 v3 v4 m = b_X11_noise_27 n v1 v2 v3 v4 m := rfl
theorem e_X11_noise (a0 : Int32) (a1 : Int32) (a2 : Int32) (m : sl_M) : f_X11_noise a0 a1 a2 m =
  (f_X11_isOut a0 m).bind (fun q1 =>
  if q1.1.1 = 0 then
    if a2 < (1 : Int32) then
      some (((-1 : Int32), 0, 0), q1.2)
    else
      if a2 ≤ (4 : Int32) then
        b_X11_noise_27 99999 a0 a1 a2 (a2 - (1 : Int32)) q1.2
      else
        some (((-1 : Int32), 0, 0), q1.2)
  else
    some (((-1 : Int32), 0, 0), q1.2)) := by
  have h := g_X11_noise_0 ca_X11_noise 99999 a0 a1 a2 m
  simp only [cq_X11_noise_X11_isOut, cq_X11_noise_X11_hears, bq_X11_noise_27] at h
  exact h
theorem e_X11_noise_27 (n : Nat) (v1 : Int32) (v2 : Int32) (v3 : Int32) (v4 : Int32) (m : sl_M) : b_X11_noise_27 (n + 1) v1 v2 v3 v4 m =
  if v4 < 0 then
    some ((v3, 0, 0), m)
  else
    (f_X11_hears v1 ((v2 >>> (((8 : Int32) * v4) &&& 31)) &&& (255 : Int32)) (0 : Int32) m).bind (fun q1 =>
    b_X11_noise_27 n v1 v2 v3 (v4 + (-1 : Int32)) q1.2) := by
  have h := g_X11_noise_27 ca_X11_noise n v1 v2 v3 v4 m
  simp only [cq_X11_noise_X11_isOut, cq_X11_noise_X11_hears, bq_X11_noise_27] at h
  exact h

def tb_X11_frameAt (p : Nat) : Option sl_E := bif Nat.ble 35 p then none else (bif Nat.ble 20 p then (bif Nat.ble 28 p then (bif Nat.ble 32 p then (bif Nat.ble 33 p then (bif Nat.ble 34 p then (bif Nat.beq p 34 then some (47, 0, 1, 1, []) else none) else (bif Nat.beq p 33 then some (6, 0, 0, 1, []) else none)) else (bif Nat.beq p 32 then some (10, 0, 0, 1, []) else none)) else (bif Nat.ble 29 p then (bif Nat.ble 30 p then (bif Nat.beq p 30 then some (2, 40, 0, 2, []) else none) else (bif Nat.beq p 29 then some (6, 0, 0, 1, []) else none)) else (bif Nat.beq p 28 then some (0, 0, 2, 1, []) else none))) else (bif Nat.ble 23 p then (bif Nat.ble 26 p then (bif Nat.ble 27 p then (bif Nat.beq p 27 then some (37, 0, 0, 1, []) else none) else (bif Nat.beq p 26 then some (0, 0, 1, 1, []) else none)) else (bif Nat.beq p 23 then some (35, 0, 109, 3, []) else none)) else (bif Nat.ble 21 p then (bif Nat.ble 22 p then (bif Nat.beq p 22 then some (1, 0, 0, 1, []) else none) else (bif Nat.beq p 21 then some (8, 0, 0, 1, []) else none)) else (bif Nat.beq p 20 then some (0, 0, 1, 1, []) else none)))) else (bif Nat.ble 9 p then (bif Nat.ble 14 p then (bif Nat.ble 15 p then (bif Nat.ble 18 p then (bif Nat.beq p 18 then some (2, 40, 0, 2, []) else none) else (bif Nat.beq p 15 then some (34, 0, 34, 3, []) else none)) else (bif Nat.beq p 14 then some (2, (-1), 0, 1, []) else none)) else (bif Nat.ble 10 p then (bif Nat.ble 11 p then (bif Nat.beq p 11 then some (24, 0, 18, 3, []) else none) else (bif Nat.beq p 10 then some (37, 0, 0, 1, []) else none)) else (bif Nat.beq p 9 then some (0, 0, 1, 1, []) else none))) else (bif Nat.ble 4 p then (bif Nat.ble 5 p then (bif Nat.ble 6 p then (bif Nat.beq p 6 then some (35, 0, 112, 3, []) else none) else (bif Nat.beq p 5 then some (1, 0, 0, 1, []) else none)) else (bif Nat.beq p 4 then some (0, 0, 2, 1, []) else none)) else (bif Nat.ble 1 p then (bif Nat.beq p 1 then some (30, 0, 14, 3, []) else none) else (bif Nat.beq p 0 then some (0, 0, 2, 1, []) else none)))))
def ca_X11_frameAt (y : Nat) (as : List sl_V) (m : sl_M) : Option (sl_PL × sl_M) := none
def sp_X11_frameAt (p : Nat) : Bool := false
def mk_X11_frameAt (p : Nat) : List Bool := []
def cl_X11_frameAt (p : Nat) : Option sl_C := none
def R_X11_frameAt (ca : Nat → List sl_V → sl_M → Option (sl_PL × sl_M)) : Nat → sl_S → sl_M → Option (sl_PL × sl_M) := sl_B tb_X11_frameAt fl_X11 pf_X11 cl_X11_frameAt nw_X11 sl_rd sl_wr sl_al sl_ln 0 (fun _ => 0) ca sp_X11_frameAt mk_X11_frameAt
def F_X11_frameAt (as : List sl_V) (m : sl_M) : Option (sl_PL × sl_M) := R_X11_frameAt ca_X11_frameAt 100000 (0, sl_lo 3 as, []) m
def f_X11_frameAt (a0 : Int32) (a1 : Int32) (m : sl_M) : Option (sl_PL × sl_M) := F_X11_frameAt [.inr (.inl (some (11, 0))), .inl a0, .inl a1] m
def r_X11_frameAt_0 (ca : Nat → List sl_V → sl_M → Option (sl_PL × sl_M)) (n : Nat) (a0 : Int32) (a1 : Int32) (m : sl_M) : Option (sl_PL × sl_M) := R_X11_frameAt ca n (0, sl_lo 3 [.inr (.inl (some (11, 0))), .inl a0, .inl a1], []) m
set_option maxRecDepth 100000 in
theorem g_X11_frameAt_0 (ca : Nat → List sl_V → sl_M → Option (sl_PL × sl_M)) (n : Nat) (a0 : Int32) (a1 : Int32) (m : sl_M) : r_X11_frameAt_0 ca (n + 1) a0 a1 m =
  if a1 < 0 then
    some (((-1 : Int32), 0, 0), m)
  else
    if 0 ≤ a0 ∧ a0.toNatClampNeg < 2 then
    if a1 < (m.1 63 0 a0.toNatClampNeg) then
      if 0 ≤ a0 ∧ a0.toNatClampNeg < 2 then
      some (((((40 : Int32) * a0) + (((m.1 62 0 a0.toNatClampNeg) + a1) - ((m.1 62 0 a0.toNatClampNeg) + a1) / (40 : Int32) * (40 : Int32))), 0, 0), m)
      else none
    else
      some (((-1 : Int32), 0, 0), m)
    else none := by rfl
theorem e_X11_frameAt (a0 : Int32) (a1 : Int32) (m : sl_M) : f_X11_frameAt a0 a1 m =
  if a1 < 0 then
    some (((-1 : Int32), 0, 0), m)
  else
    if 0 ≤ a0 ∧ a0.toNatClampNeg < 2 then
    if a1 < (m.1 63 0 a0.toNatClampNeg) then
      if 0 ≤ a0 ∧ a0.toNatClampNeg < 2 then
      some (((((40 : Int32) * a0) + (((m.1 62 0 a0.toNatClampNeg) + a1) - ((m.1 62 0 a0.toNatClampNeg) + a1) / (40 : Int32) * (40 : Int32))), 0, 0), m)
      else none
    else
      some (((-1 : Int32), 0, 0), m)
    else none := by
  have h := g_X11_frameAt_0 ca_X11_frameAt 99999 a0 a1 m
  exact h

def tb_X11_frame (p : Nat) : Option sl_E := bif Nat.ble 110 p then none else (bif Nat.ble 72 p then (bif Nat.ble 91 p then (bif Nat.ble 102 p then (bif Nat.ble 107 p then (bif Nat.ble 108 p then (bif Nat.ble 109 p then (bif Nat.beq p 109 then some (47, 0, 1, 1, []) else none) else (bif Nat.beq p 108 then some (2, (-1), 0, 1, []) else none)) else (bif Nat.beq p 107 then some (47, 0, 1, 1, []) else none)) else (bif Nat.ble 103 p then (bif Nat.ble 106 p then (bif Nat.beq p 106 then some (2, 0, 0, 1, []) else none) else (bif Nat.beq p 103 then some (34, 0, 107, 3, []) else none)) else (bif Nat.beq p 102 then some (2, 1, 0, 1, []) else none))) else (bif Nat.ble 96 p then (bif Nat.ble 98 p then (bif Nat.ble 99 p then (bif Nat.beq p 99 then some (28, 0, 106, 3, []) else none) else (bif Nat.beq p 98 then some (38, 0, 0, 1, []) else none)) else (bif Nat.beq p 96 then some (0, 0, 4, 2, []) else none)) else (bif Nat.ble 92 p then (bif Nat.ble 93 p then (bif Nat.beq p 93 then some (35, 0, 130, 3, []) else none) else (bif Nat.beq p 92 then some (1, 0, 0, 1, []) else none)) else (bif Nat.beq p 91 then some (47, 0, 1, 1, []) else none)))) else (bif Nat.ble 82 p then (bif Nat.ble 85 p then (bif Nat.ble 88 p then (bif Nat.ble 90 p then (bif Nat.beq p 90 then some (37, 0, 0, 1, []) else none) else (bif Nat.beq p 88 then some (0, 0, 4, 2, []) else none)) else (bif Nat.beq p 85 then some (35, 0, 127, 3, []) else none)) else (bif Nat.ble 83 p then (bif Nat.ble 84 p then (bif Nat.beq p 84 then some (1, 0, 0, 1, []) else none) else (bif Nat.beq p 83 then some (47, 0, 1, 1, []) else none)) else (bif Nat.beq p 82 then some (37, 0, 0, 1, []) else none))) else (bif Nat.ble 76 p then (bif Nat.ble 77 p then (bif Nat.ble 80 p then (bif Nat.beq p 80 then some (0, 0, 4, 2, []) else none) else (bif Nat.beq p 77 then some (35, 0, 124, 3, []) else none)) else (bif Nat.beq p 76 then some (1, 0, 0, 1, []) else none)) else (bif Nat.ble 74 p then (bif Nat.ble 75 p then (bif Nat.beq p 75 then some (47, 0, 1, 1, []) else none) else (bif Nat.beq p 74 then some (37, 0, 0, 1, []) else none)) else (bif Nat.beq p 72 then some (0, 0, 4, 2, []) else none))))) else (bif Nat.ble 20 p then (bif Nat.ble 61 p then (bif Nat.ble 67 p then (bif Nat.ble 68 p then (bif Nat.ble 69 p then (bif Nat.beq p 69 then some (35, 0, 121, 3, []) else none) else (bif Nat.beq p 68 then some (1, 0, 0, 1, []) else none)) else (bif Nat.beq p 67 then some (47, 0, 1, 1, []) else none)) else (bif Nat.ble 64 p then (bif Nat.ble 66 p then (bif Nat.beq p 66 then some (37, 0, 0, 1, []) else none) else (bif Nat.beq p 64 then some (0, 0, 4, 2, []) else none)) else (bif Nat.beq p 61 then some (35, 0, 118, 3, []) else none))) else (bif Nat.ble 25 p then (bif Nat.ble 26 p then (bif Nat.ble 60 p then (bif Nat.beq p 60 then some (1, 0, 0, 1, []) else none) else (bif Nat.beq p 26 then some (57, 0, 108, 34, [60, 68, 76, 84, 92]) else none)) else (bif Nat.beq p 25 then some (0, 0, 3, 1, []) else none)) else (bif Nat.ble 23 p then (bif Nat.ble 24 p then (bif Nat.beq p 24 then some (47, 0, 1, 1, []) else none) else (bif Nat.beq p 23 then some (2, (-1), 0, 1, []) else none)) else (bif Nat.beq p 20 then some (31, 0, 25, 3, []) else none)))) else (bif Nat.ble 10 p then (bif Nat.ble 13 p then (bif Nat.ble 16 p then (bif Nat.ble 18 p then (bif Nat.beq p 18 then some (0, 0, 4, 2, []) else none) else (bif Nat.beq p 16 then some (3, 0, 4, 2, []) else none)) else (bif Nat.beq p 13 then some (46, 0, 225, 3, []) else none)) else (bif Nat.ble 11 p then (bif Nat.ble 12 p then (bif Nat.beq p 12 then some (0, 0, 2, 1, []) else none) else (bif Nat.beq p 11 then some (0, 0, 1, 1, []) else none)) else (bif Nat.beq p 10 then some (1, 0, 0, 1, []) else none))) else (bif Nat.ble 5 p then (bif Nat.ble 8 p then (bif Nat.ble 9 p then (bif Nat.beq p 9 then some (47, 0, 1, 1, []) else none) else (bif Nat.beq p 8 then some (2, (-1), 0, 1, []) else none)) else (bif Nat.beq p 5 then some (28, 0, 10, 3, []) else none)) else (bif Nat.ble 1 p then (bif Nat.ble 2 p then (bif Nat.beq p 2 then some (46, 0, 165, 3, []) else none) else (bif Nat.beq p 1 then some (0, 0, 1, 1, []) else none)) else (bif Nat.beq p 0 then some (1, 0, 0, 1, []) else none))))))
def ca_X11_frame (y : Nat) (as : List sl_V) (m : sl_M) : Option (sl_PL × sl_M) := bif Nat.ble 127 y then (bif Nat.beq y 127 then F_X11_frameAt as m else none) else (bif Nat.beq y 91 then F_X11_isOut as m else none)
def sp_X11_frame (p : Nat) : Bool := false
def mk_X11_frame (p : Nat) : List Bool := []
def cl_X11_frame (p : Nat) : Option sl_C := bif Nat.ble 226 p then none else (bif Nat.ble 225 p then (bif Nat.beq p 225 then some (127, 3, 1, 0, 0, 12) else none) else (bif Nat.beq p 165 then some (91, 2, 1, 0, 0, 12) else none))
def R_X11_frame (ca : Nat → List sl_V → sl_M → Option (sl_PL × sl_M)) : Nat → sl_S → sl_M → Option (sl_PL × sl_M) := sl_B tb_X11_frame fl_X11 pf_X11 cl_X11_frame nw_X11 sl_rd sl_wr sl_al sl_ln 0 (fun _ => 0) ca sp_X11_frame mk_X11_frame
def F_X11_frame (as : List sl_V) (m : sl_M) : Option (sl_PL × sl_M) := R_X11_frame ca_X11_frame 100000 (0, sl_lo 5 as, []) m
def f_X11_frame (a0 : Int32) (a1 : Int32) (a2 : Int32) (m : sl_M) : Option (sl_PL × sl_M) := F_X11_frame [.inr (.inl (some (11, 0))), .inl a0, .inl a1, .inl a2] m
def r_X11_frame_0 (ca : Nat → List sl_V → sl_M → Option (sl_PL × sl_M)) (n : Nat) (a0 : Int32) (a1 : Int32) (a2 : Int32) (m : sl_M) : Option (sl_PL × sl_M) := R_X11_frame ca n (0, sl_lo 5 [.inr (.inl (some (11, 0))), .inl a0, .inl a1, .inl a2], []) m
set_option maxRecDepth 100000 in
theorem g_X11_frame_0 (ca : Nat → List sl_V → sl_M → Option (sl_PL × sl_M)) (n : Nat) (a0 : Int32) (a1 : Int32) (a2 : Int32) (m : sl_M) : r_X11_frame_0 ca (n + 1) a0 a1 a2 m =
  (ca 91 [.inr (.inl (some (11, 0))), .inl a0] m).bind (fun q1 =>
  if q1.1.1 = 0 then
    (ca 127 [.inr (.inl (some (11, 0))), .inl a0, .inl a1] q1.2).bind (fun q2 =>
    if 0 ≤ q2.1.1 then
      if a2 = (0 : Int32) then
        if 0 ≤ q2.1.1 ∧ q2.1.1.toNatClampNeg < 80 then
        some (((q2.2.1 64 0 q2.1.1.toNatClampNeg), 0, 0), q2.2)
        else none
      else if a2 = (1 : Int32) then
        if 0 ≤ q2.1.1 ∧ q2.1.1.toNatClampNeg < 80 then
        some (((q2.2.1 65 0 q2.1.1.toNatClampNeg), 0, 0), q2.2)
        else none
      else if a2 = (2 : Int32) then
        if 0 ≤ q2.1.1 ∧ q2.1.1.toNatClampNeg < 80 then
        some (((q2.2.1 66 0 q2.1.1.toNatClampNeg), 0, 0), q2.2)
        else none
      else if a2 = (3 : Int32) then
        if 0 ≤ q2.1.1 ∧ q2.1.1.toNatClampNeg < 80 then
        some (((q2.2.1 67 0 q2.1.1.toNatClampNeg), 0, 0), q2.2)
        else none
      else if a2 = (4 : Int32) then
        if 0 ≤ q2.1.1 ∧ q2.1.1.toNatClampNeg < 80 then
        if ((q2.2.1 73 0 q2.1.1.toNatClampNeg) &&& 1) = 0 then
          some (((0 : Int32), 0, 0), q2.2)
        else
          some (((1 : Int32), 0, 0), q2.2)
        else none
      else 
      some (((-1 : Int32), 0, 0), q2.2)
    else
      some (((-1 : Int32), 0, 0), q2.2))
  else
    some (((-1 : Int32), 0, 0), q1.2)) := by rfl
theorem cq_X11_frame_X11_isOut (a0 : Int32) (m : sl_M) : ca_X11_frame 91 [.inr (.inl (some (11, 0))), .inl a0] m = f_X11_isOut a0 m := by
  unfold ca_X11_frame f_X11_isOut
  rw [show Nat.ble 127 91 = false from rfl, cond_false, show Nat.beq 91 91 = true from rfl, cond_true]
theorem cq_X11_frame_X11_frameAt (a0 : Int32) (a1 : Int32) (m : sl_M) : ca_X11_frame 127 [.inr (.inl (some (11, 0))), .inl a0, .inl a1] m = f_X11_frameAt a0 a1 m := by
  unfold ca_X11_frame f_X11_frameAt
  rw [show Nat.ble 127 127 = true from rfl, cond_true, show Nat.beq 127 127 = true from rfl, cond_true]
theorem e_X11_frame (a0 : Int32) (a1 : Int32) (a2 : Int32) (m : sl_M) : f_X11_frame a0 a1 a2 m =
  (f_X11_isOut a0 m).bind (fun q1 =>
  if q1.1.1 = 0 then
    (f_X11_frameAt a0 a1 q1.2).bind (fun q2 =>
    if 0 ≤ q2.1.1 then
      if a2 = (0 : Int32) then
        if 0 ≤ q2.1.1 ∧ q2.1.1.toNatClampNeg < 80 then
        some (((q2.2.1 64 0 q2.1.1.toNatClampNeg), 0, 0), q2.2)
        else none
      else if a2 = (1 : Int32) then
        if 0 ≤ q2.1.1 ∧ q2.1.1.toNatClampNeg < 80 then
        some (((q2.2.1 65 0 q2.1.1.toNatClampNeg), 0, 0), q2.2)
        else none
      else if a2 = (2 : Int32) then
        if 0 ≤ q2.1.1 ∧ q2.1.1.toNatClampNeg < 80 then
        some (((q2.2.1 66 0 q2.1.1.toNatClampNeg), 0, 0), q2.2)
        else none
      else if a2 = (3 : Int32) then
        if 0 ≤ q2.1.1 ∧ q2.1.1.toNatClampNeg < 80 then
        some (((q2.2.1 67 0 q2.1.1.toNatClampNeg), 0, 0), q2.2)
        else none
      else if a2 = (4 : Int32) then
        if 0 ≤ q2.1.1 ∧ q2.1.1.toNatClampNeg < 80 then
        if ((q2.2.1 73 0 q2.1.1.toNatClampNeg) &&& 1) = 0 then
          some (((0 : Int32), 0, 0), q2.2)
        else
          some (((1 : Int32), 0, 0), q2.2)
        else none
      else 
      some (((-1 : Int32), 0, 0), q2.2)
    else
      some (((-1 : Int32), 0, 0), q2.2))
  else
    some (((-1 : Int32), 0, 0), q1.2)) := by
  have h := g_X11_frame_0 ca_X11_frame 99999 a0 a1 a2 m
  simp only [cq_X11_frame_X11_isOut, cq_X11_frame_X11_frameAt] at h
  exact h

def tb_X11_octet (p : Nat) : Option sl_E := bif Nat.ble 59 p then none else (bif Nat.ble 29 p then (bif Nat.ble 46 p then (bif Nat.ble 52 p then (bif Nat.ble 54 p then (bif Nat.ble 57 p then (bif Nat.ble 58 p then (bif Nat.beq p 58 then some (47, 0, 1, 1, []) else none) else (bif Nat.beq p 57 then some (11, 0, 0, 1, []) else none)) else (bif Nat.beq p 54 then some (2, 255, 0, 3, []) else none)) else (bif Nat.ble 53 p then (bif Nat.beq p 53 then some (38, 0, 0, 1, []) else none) else (bif Nat.beq p 52 then some (6, 0, 0, 1, []) else none))) else (bif Nat.ble 50 p then (bif Nat.ble 51 p then (bif Nat.beq p 51 then some (0, 0, 3, 1, []) else none) else (bif Nat.beq p 50 then some (8, 0, 0, 1, []) else none)) else (bif Nat.ble 48 p then (bif Nat.beq p 48 then some (0, 0, 4, 2, []) else none) else (bif Nat.beq p 46 then some (2, 80, 0, 2, []) else none)))) else (bif Nat.ble 38 p then (bif Nat.ble 42 p then (bif Nat.ble 43 p then (bif Nat.beq p 43 then some (35, 0, 115, 3, []) else none) else (bif Nat.beq p 42 then some (1, 0, 0, 1, []) else none)) else (bif Nat.ble 39 p then (bif Nat.beq p 39 then some (34, 0, 58, 3, []) else none) else (bif Nat.beq p 38 then some (2, (-1), 0, 1, []) else none))) else (bif Nat.ble 34 p then (bif Nat.ble 35 p then (bif Nat.beq p 35 then some (24, 0, 42, 3, []) else none) else (bif Nat.beq p 34 then some (37, 0, 0, 1, []) else none)) else (bif Nat.ble 32 p then (bif Nat.beq p 32 then some (0, 0, 4, 2, []) else none) else (bif Nat.beq p 29 then some (35, 0, 118, 3, []) else none))))) else (bif Nat.ble 12 p then (bif Nat.ble 20 p then (bif Nat.ble 24 p then (bif Nat.ble 27 p then (bif Nat.ble 28 p then (bif Nat.beq p 28 then some (1, 0, 0, 1, []) else none) else (bif Nat.beq p 27 then some (0, 0, 3, 1, []) else none)) else (bif Nat.beq p 24 then some (30, 0, 38, 3, []) else none)) else (bif Nat.ble 23 p then (bif Nat.beq p 23 then some (0, 0, 3, 1, []) else none) else (bif Nat.beq p 20 then some (30, 0, 38, 3, []) else none))) else (bif Nat.ble 16 p then (bif Nat.ble 18 p then (bif Nat.beq p 18 then some (0, 0, 4, 2, []) else none) else (bif Nat.beq p 16 then some (3, 0, 4, 2, []) else none)) else (bif Nat.ble 13 p then (bif Nat.beq p 13 then some (46, 0, 225, 3, []) else none) else (bif Nat.beq p 12 then some (0, 0, 2, 1, []) else none)))) else (bif Nat.ble 8 p then (bif Nat.ble 10 p then (bif Nat.ble 11 p then (bif Nat.beq p 11 then some (0, 0, 1, 1, []) else none) else (bif Nat.beq p 10 then some (1, 0, 0, 1, []) else none)) else (bif Nat.ble 9 p then (bif Nat.beq p 9 then some (47, 0, 1, 1, []) else none) else (bif Nat.beq p 8 then some (2, (-1), 0, 1, []) else none))) else (bif Nat.ble 2 p then (bif Nat.ble 5 p then (bif Nat.beq p 5 then some (28, 0, 10, 3, []) else none) else (bif Nat.beq p 2 then some (46, 0, 165, 3, []) else none)) else (bif Nat.ble 1 p then (bif Nat.beq p 1 then some (0, 0, 1, 1, []) else none) else (bif Nat.beq p 0 then some (1, 0, 0, 1, []) else none))))))
def ca_X11_octet (y : Nat) (as : List sl_V) (m : sl_M) : Option (sl_PL × sl_M) := bif Nat.ble 127 y then (bif Nat.beq y 127 then F_X11_frameAt as m else none) else (bif Nat.beq y 91 then F_X11_isOut as m else none)
def sp_X11_octet (p : Nat) : Bool := false
def mk_X11_octet (p : Nat) : List Bool := []
def cl_X11_octet (p : Nat) : Option sl_C := bif Nat.ble 226 p then none else (bif Nat.ble 225 p then (bif Nat.beq p 225 then some (127, 3, 1, 0, 0, 12) else none) else (bif Nat.beq p 165 then some (91, 2, 1, 0, 0, 12) else none))
def R_X11_octet (ca : Nat → List sl_V → sl_M → Option (sl_PL × sl_M)) : Nat → sl_S → sl_M → Option (sl_PL × sl_M) := sl_B tb_X11_octet fl_X11 pf_X11 cl_X11_octet nw_X11 sl_rd sl_wr sl_al sl_ln 0 (fun _ => 0) ca sp_X11_octet mk_X11_octet
def F_X11_octet (as : List sl_V) (m : sl_M) : Option (sl_PL × sl_M) := R_X11_octet ca_X11_octet 100000 (0, sl_lo 5 as, []) m
def f_X11_octet (a0 : Int32) (a1 : Int32) (a2 : Int32) (m : sl_M) : Option (sl_PL × sl_M) := F_X11_octet [.inr (.inl (some (11, 0))), .inl a0, .inl a1, .inl a2] m
def r_X11_octet_0 (ca : Nat → List sl_V → sl_M → Option (sl_PL × sl_M)) (n : Nat) (a0 : Int32) (a1 : Int32) (a2 : Int32) (m : sl_M) : Option (sl_PL × sl_M) := R_X11_octet ca n (0, sl_lo 5 [.inr (.inl (some (11, 0))), .inl a0, .inl a1, .inl a2], []) m
set_option maxRecDepth 100000 in
theorem g_X11_octet_0 (ca : Nat → List sl_V → sl_M → Option (sl_PL × sl_M)) (n : Nat) (a0 : Int32) (a1 : Int32) (a2 : Int32) (m : sl_M) : r_X11_octet_0 ca (n + 1) a0 a1 a2 m =
  (ca 91 [.inr (.inl (some (11, 0))), .inl a0] m).bind (fun q1 =>
  if q1.1.1 = 0 then
    (ca 127 [.inr (.inl (some (11, 0))), .inl a0, .inl a1] q1.2).bind (fun q2 =>
    if q2.1.1 < 0 then
      some (((-1 : Int32), 0, 0), q2.2)
    else
      if a2 < 0 then
        some (((-1 : Int32), 0, 0), q2.2)
      else
        if 0 ≤ q2.1.1 ∧ q2.1.1.toNatClampNeg < 80 then
        if a2 < (q2.2.1 64 0 q2.1.1.toNatClampNeg) then
          if 0 ≤ (((80 : Int32) * q2.1.1) + a2) ∧ (((80 : Int32) * q2.1.1) + a2).toNatClampNeg < 6400 then
          some ((((sl_sx (q2.2.1 30 7 ((((80 : Int32) * q2.1.1) + a2).toNatClampNeg))) &&& (255 : Int32)), 0, 0), q2.2)
          else none
        else
          some (((-1 : Int32), 0, 0), q2.2)
        else none)
  else
    some (((-1 : Int32), 0, 0), q1.2)) := by rfl
theorem cq_X11_octet_X11_isOut (a0 : Int32) (m : sl_M) : ca_X11_octet 91 [.inr (.inl (some (11, 0))), .inl a0] m = f_X11_isOut a0 m := by
  unfold ca_X11_octet f_X11_isOut
  rw [show Nat.ble 127 91 = false from rfl, cond_false, show Nat.beq 91 91 = true from rfl, cond_true]
theorem cq_X11_octet_X11_frameAt (a0 : Int32) (a1 : Int32) (m : sl_M) : ca_X11_octet 127 [.inr (.inl (some (11, 0))), .inl a0, .inl a1] m = f_X11_frameAt a0 a1 m := by
  unfold ca_X11_octet f_X11_frameAt
  rw [show Nat.ble 127 127 = true from rfl, cond_true, show Nat.beq 127 127 = true from rfl, cond_true]
theorem e_X11_octet (a0 : Int32) (a1 : Int32) (a2 : Int32) (m : sl_M) : f_X11_octet a0 a1 a2 m =
  (f_X11_isOut a0 m).bind (fun q1 =>
  if q1.1.1 = 0 then
    (f_X11_frameAt a0 a1 q1.2).bind (fun q2 =>
    if q2.1.1 < 0 then
      some (((-1 : Int32), 0, 0), q2.2)
    else
      if a2 < 0 then
        some (((-1 : Int32), 0, 0), q2.2)
      else
        if 0 ≤ q2.1.1 ∧ q2.1.1.toNatClampNeg < 80 then
        if a2 < (q2.2.1 64 0 q2.1.1.toNatClampNeg) then
          if 0 ≤ (((80 : Int32) * q2.1.1) + a2) ∧ (((80 : Int32) * q2.1.1) + a2).toNatClampNeg < 6400 then
          some ((((sl_sx (q2.2.1 30 7 ((((80 : Int32) * q2.1.1) + a2).toNatClampNeg))) &&& (255 : Int32)), 0, 0), q2.2)
          else none
        else
          some (((-1 : Int32), 0, 0), q2.2)
        else none)
  else
    some (((-1 : Int32), 0, 0), q1.2)) := by
  have h := g_X11_octet_0 ca_X11_octet 99999 a0 a1 a2 m
  simp only [cq_X11_octet_X11_isOut, cq_X11_octet_X11_frameAt] at h
  exact h

def tb_X11_line (p : Nat) : Option sl_E := bif Nat.ble 17 p then none else (bif Nat.ble 9 p then (bif Nat.ble 14 p then (bif Nat.ble 15 p then (bif Nat.ble 16 p then (bif Nat.beq p 16 then some (47, 0, 1, 1, []) else none) else (bif Nat.beq p 15 then some (37, 0, 0, 1, []) else none)) else (bif Nat.beq p 14 then some (0, 0, 1, 1, []) else none)) else (bif Nat.ble 10 p then (bif Nat.ble 11 p then (bif Nat.beq p 11 then some (35, 0, 112, 3, []) else none) else (bif Nat.beq p 10 then some (1, 0, 0, 1, []) else none)) else (bif Nat.beq p 9 then some (47, 0, 1, 1, []) else none))) else (bif Nat.ble 2 p then (bif Nat.ble 5 p then (bif Nat.ble 8 p then (bif Nat.beq p 8 then some (2, (-1), 0, 1, []) else none) else (bif Nat.beq p 5 then some (28, 0, 10, 3, []) else none)) else (bif Nat.beq p 2 then some (46, 0, 165, 3, []) else none)) else (bif Nat.ble 1 p then (bif Nat.beq p 1 then some (0, 0, 1, 1, []) else none) else (bif Nat.beq p 0 then some (1, 0, 0, 1, []) else none))))
def ca_X11_line (y : Nat) (as : List sl_V) (m : sl_M) : Option (sl_PL × sl_M) := bif Nat.beq y 91 then F_X11_isOut as m else none
def sp_X11_line (p : Nat) : Bool := false
def mk_X11_line (p : Nat) : List Bool := []
def cl_X11_line (p : Nat) : Option sl_C := bif Nat.ble 166 p then none else (bif Nat.beq p 165 then some (91, 2, 1, 0, 0, 12) else none)
def R_X11_line (ca : Nat → List sl_V → sl_M → Option (sl_PL × sl_M)) : Nat → sl_S → sl_M → Option (sl_PL × sl_M) := sl_B tb_X11_line fl_X11 pf_X11 cl_X11_line nw_X11 sl_rd sl_wr sl_al sl_ln 0 (fun _ => 0) ca sp_X11_line mk_X11_line
def F_X11_line (as : List sl_V) (m : sl_M) : Option (sl_PL × sl_M) := R_X11_line ca_X11_line 100000 (0, sl_lo 2 as, []) m
def f_X11_line (a0 : Int32) (m : sl_M) : Option (sl_PL × sl_M) := F_X11_line [.inr (.inl (some (11, 0))), .inl a0] m
def r_X11_line_0 (ca : Nat → List sl_V → sl_M → Option (sl_PL × sl_M)) (n : Nat) (a0 : Int32) (m : sl_M) : Option (sl_PL × sl_M) := R_X11_line ca n (0, sl_lo 2 [.inr (.inl (some (11, 0))), .inl a0], []) m
set_option maxRecDepth 100000 in
theorem g_X11_line_0 (ca : Nat → List sl_V → sl_M → Option (sl_PL × sl_M)) (n : Nat) (a0 : Int32) (m : sl_M) : r_X11_line_0 ca (n + 1) a0 m =
  (ca 91 [.inr (.inl (some (11, 0))), .inl a0] m).bind (fun q1 =>
  if q1.1.1 = 0 then
    if 0 ≤ a0 ∧ a0.toNatClampNeg < 2 then
    some (((q1.2.1 63 0 a0.toNatClampNeg), 0, 0), q1.2)
    else none
  else
    some (((-1 : Int32), 0, 0), q1.2)) := by rfl
theorem cq_X11_line_X11_isOut (a0 : Int32) (m : sl_M) : ca_X11_line 91 [.inr (.inl (some (11, 0))), .inl a0] m = f_X11_isOut a0 m := by
  unfold ca_X11_line f_X11_isOut
  rw [show Nat.beq 91 91 = true from rfl, cond_true]
theorem e_X11_line (a0 : Int32) (m : sl_M) : f_X11_line a0 m =
  (f_X11_isOut a0 m).bind (fun q1 =>
  if q1.1.1 = 0 then
    if 0 ≤ a0 ∧ a0.toNatClampNeg < 2 then
    some (((q1.2.1 63 0 a0.toNatClampNeg), 0, 0), q1.2)
    else none
  else
    some (((-1 : Int32), 0, 0), q1.2)) := by
  have h := g_X11_line_0 ca_X11_line 99999 a0 m
  simp only [cq_X11_line_X11_isOut] at h
  exact h

def tb_X11_state (p : Nat) : Option sl_E := bif Nat.ble 245 p then none else (bif Nat.ble 143 p then (bif Nat.ble 193 p then (bif Nat.ble 220 p then (bif Nat.ble 233 p then (bif Nat.ble 241 p then (bif Nat.ble 243 p then (bif Nat.ble 244 p then (bif Nat.beq p 244 then some (47, 0, 1, 1, []) else none) else (bif Nat.beq p 243 then some (2, (-1), 0, 1, []) else none)) else (bif Nat.ble 242 p then (bif Nat.beq p 242 then some (47, 0, 1, 1, []) else none) else (bif Nat.beq p 241 then some (0, 0, 3, 1, []) else none))) else (bif Nat.ble 235 p then (bif Nat.ble 238 p then (bif Nat.beq p 238 then some (34, 0, 200, 3, []) else none) else (bif Nat.beq p 235 then some (5, 1, 4, 3, []) else none)) else (bif Nat.ble 234 p then (bif Nat.beq p 234 then some (3, 0, 3, 1, []) else none) else (bif Nat.beq p 233 then some (6, 0, 0, 1, []) else none)))) else (bif Nat.ble 225 p then (bif Nat.ble 229 p then (bif Nat.ble 232 p then (bif Nat.beq p 232 then some (2, 0, 0, 1, []) else none) else (bif Nat.beq p 229 then some (34, 0, 233, 3, []) else none)) else (bif Nat.ble 228 p then (bif Nat.beq p 228 then some (2, 1, 0, 1, []) else none) else (bif Nat.beq p 225 then some (28, 0, 232, 3, []) else none))) else (bif Nat.ble 223 p then (bif Nat.ble 224 p then (bif Nat.beq p 224 then some (38, 0, 0, 1, []) else none) else (bif Nat.beq p 223 then some (6, 0, 0, 1, []) else none)) else (bif Nat.ble 221 p then (bif Nat.beq p 221 then some (0, 0, 4, 2, []) else none) else (bif Nat.beq p 220 then some (8, 0, 0, 1, []) else none))))) else (bif Nat.ble 206 p then (bif Nat.ble 212 p then (bif Nat.ble 216 p then (bif Nat.ble 219 p then (bif Nat.beq p 219 then some (0, 0, 1, 1, []) else none) else (bif Nat.beq p 216 then some (2, 3002, 0, 3, []) else none)) else (bif Nat.ble 213 p then (bif Nat.beq p 213 then some (35, 0, 87, 3, []) else none) else (bif Nat.beq p 212 then some (1, 0, 0, 1, []) else none))) else (bif Nat.ble 208 p then (bif Nat.ble 211 p then (bif Nat.beq p 211 then some (0, 0, 3, 1, []) else none) else (bif Nat.beq p 208 then some (25, 0, 241, 3, []) else none)) else (bif Nat.ble 207 p then (bif Nat.beq p 207 then some (37, 0, 0, 1, []) else none) else (bif Nat.beq p 206 then some (0, 0, 1, 1, []) else none)))) else (bif Nat.ble 198 p then (bif Nat.ble 202 p then (bif Nat.ble 203 p then (bif Nat.beq p 203 then some (35, 0, 75, 3, []) else none) else (bif Nat.beq p 202 then some (1, 0, 0, 1, []) else none)) else (bif Nat.ble 200 p then (bif Nat.beq p 200 then some (0, 0, 4, 2, []) else none) else (bif Nat.beq p 198 then some (3, 0, 4, 2, []) else none))) else (bif Nat.ble 196 p then (bif Nat.ble 197 p then (bif Nat.beq p 197 then some (37, 0, 0, 1, []) else none) else (bif Nat.beq p 196 then some (0, 0, 1, 1, []) else none)) else (bif Nat.beq p 193 then some (35, 0, 72, 3, []) else none))))) else (bif Nat.ble 168 p then (bif Nat.ble 180 p then (bif Nat.ble 186 p then (bif Nat.ble 191 p then (bif Nat.ble 192 p then (bif Nat.beq p 192 then some (1, 0, 0, 1, []) else none) else (bif Nat.beq p 191 then some (47, 0, 1, 1, []) else none)) else (bif Nat.ble 189 p then (bif Nat.beq p 189 then some (2, 120, 0, 2, []) else none) else (bif Nat.beq p 186 then some (34, 0, 191, 3, []) else none))) else (bif Nat.ble 184 p then (bif Nat.ble 185 p then (bif Nat.beq p 185 then some (37, 0, 0, 1, []) else none) else (bif Nat.beq p 184 then some (0, 0, 1, 1, []) else none)) else (bif Nat.ble 181 p then (bif Nat.beq p 181 then some (35, 0, 103, 3, []) else none) else (bif Nat.beq p 180 then some (1, 0, 0, 1, []) else none)))) else (bif Nat.ble 173 p then (bif Nat.ble 175 p then (bif Nat.ble 177 p then (bif Nat.beq p 177 then some (25, 0, 189, 3, []) else none) else (bif Nat.beq p 175 then some (2, 120, 0, 2, []) else none)) else (bif Nat.ble 174 p then (bif Nat.beq p 174 then some (37, 0, 0, 1, []) else none) else (bif Nat.beq p 173 then some (0, 0, 1, 1, []) else none))) else (bif Nat.ble 169 p then (bif Nat.ble 170 p then (bif Nat.beq p 170 then some (35, 0, 103, 3, []) else none) else (bif Nat.beq p 169 then some (1, 0, 0, 1, []) else none)) else (bif Nat.beq p 168 then some (47, 0, 1, 1, []) else none)))) else (bif Nat.ble 154 p then (bif Nat.ble 162 p then (bif Nat.ble 166 p then (bif Nat.ble 167 p then (bif Nat.beq p 167 then some (37, 0, 0, 1, []) else none) else (bif Nat.beq p 166 then some (0, 0, 1, 1, []) else none)) else (bif Nat.ble 163 p then (bif Nat.beq p 163 then some (35, 0, 66, 3, []) else none) else (bif Nat.beq p 162 then some (1, 0, 0, 1, []) else none))) else (bif Nat.ble 160 p then (bif Nat.ble 161 p then (bif Nat.beq p 161 then some (47, 0, 1, 1, []) else none) else (bif Nat.beq p 160 then some (0, 0, 3, 1, []) else none)) else (bif Nat.ble 157 p then (bif Nat.beq p 157 then some (34, 0, 124, 3, []) else none) else (bif Nat.beq p 154 then some (5, 1, 4, 3, []) else none)))) else (bif Nat.ble 148 p then (bif Nat.ble 152 p then (bif Nat.ble 153 p then (bif Nat.beq p 153 then some (3, 0, 3, 1, []) else none) else (bif Nat.beq p 152 then some (6, 0, 0, 1, []) else none)) else (bif Nat.ble 151 p then (bif Nat.beq p 151 then some (2, 0, 0, 1, []) else none) else (bif Nat.beq p 148 then some (34, 0, 152, 3, []) else none))) else (bif Nat.ble 144 p then (bif Nat.ble 147 p then (bif Nat.beq p 147 then some (2, 1, 0, 1, []) else none) else (bif Nat.beq p 144 then some (28, 0, 151, 3, []) else none)) else (bif Nat.beq p 143 then some (38, 0, 0, 1, []) else none)))))) else (bif Nat.ble 98 p then (bif Nat.ble 119 p then (bif Nat.ble 131 p then (bif Nat.ble 138 p then (bif Nat.ble 140 p then (bif Nat.ble 142 p then (bif Nat.beq p 142 then some (6, 0, 0, 1, []) else none) else (bif Nat.beq p 140 then some (0, 0, 4, 2, []) else none)) else (bif Nat.ble 139 p then (bif Nat.beq p 139 then some (8, 0, 0, 1, []) else none) else (bif Nat.beq p 138 then some (0, 0, 1, 1, []) else none))) else (bif Nat.ble 133 p then (bif Nat.ble 136 p then (bif Nat.beq p 136 then some (2, 64, 0, 2, []) else none) else (bif Nat.beq p 133 then some (35, 0, 91, 3, []) else none)) else (bif Nat.ble 132 p then (bif Nat.beq p 132 then some (1, 0, 0, 1, []) else none) else (bif Nat.beq p 131 then some (0, 0, 3, 1, []) else none)))) else (bif Nat.ble 122 p then (bif Nat.ble 126 p then (bif Nat.ble 128 p then (bif Nat.beq p 128 then some (25, 0, 160, 3, []) else none) else (bif Nat.beq p 126 then some (2, 64, 0, 2, []) else none)) else (bif Nat.ble 124 p then (bif Nat.beq p 124 then some (0, 0, 4, 2, []) else none) else (bif Nat.beq p 122 then some (3, 0, 4, 2, []) else none))) else (bif Nat.ble 120 p then (bif Nat.ble 121 p then (bif Nat.beq p 121 then some (2, 0, 0, 1, []) else none) else (bif Nat.beq p 120 then some (47, 0, 1, 1, []) else none)) else (bif Nat.beq p 119 then some (37, 0, 0, 1, []) else none)))) else (bif Nat.ble 107 p then (bif Nat.ble 113 p then (bif Nat.ble 115 p then (bif Nat.ble 118 p then (bif Nat.beq p 118 then some (0, 0, 1, 1, []) else none) else (bif Nat.beq p 115 then some (35, 0, 63, 3, []) else none)) else (bif Nat.ble 114 p then (bif Nat.beq p 114 then some (1, 0, 0, 1, []) else none) else (bif Nat.beq p 113 then some (47, 0, 1, 1, []) else none))) else (bif Nat.ble 111 p then (bif Nat.ble 112 p then (bif Nat.beq p 112 then some (37, 0, 0, 1, []) else none) else (bif Nat.beq p 111 then some (0, 0, 1, 1, []) else none)) else (bif Nat.ble 108 p then (bif Nat.beq p 108 then some (35, 0, 78, 3, []) else none) else (bif Nat.beq p 107 then some (1, 0, 0, 1, []) else none)))) else (bif Nat.ble 101 p then (bif Nat.ble 105 p then (bif Nat.ble 106 p then (bif Nat.beq p 106 then some (47, 0, 1, 1, []) else none) else (bif Nat.beq p 105 then some (37, 0, 0, 1, []) else none)) else (bif Nat.ble 104 p then (bif Nat.beq p 104 then some (0, 0, 1, 1, []) else none) else (bif Nat.beq p 101 then some (35, 0, 75, 3, []) else none))) else (bif Nat.ble 99 p then (bif Nat.ble 100 p then (bif Nat.beq p 100 then some (1, 0, 0, 1, []) else none) else (bif Nat.beq p 99 then some (47, 0, 1, 1, []) else none)) else (bif Nat.beq p 98 then some (37, 0, 0, 1, []) else none))))) else (bif Nat.ble 75 p then (bif Nat.ble 88 p then (bif Nat.ble 92 p then (bif Nat.ble 94 p then (bif Nat.ble 97 p then (bif Nat.beq p 97 then some (0, 0, 1, 1, []) else none) else (bif Nat.beq p 94 then some (35, 0, 72, 3, []) else none)) else (bif Nat.ble 93 p then (bif Nat.beq p 93 then some (1, 0, 0, 1, []) else none) else (bif Nat.beq p 92 then some (47, 0, 1, 1, []) else none))) else (bif Nat.ble 90 p then (bif Nat.ble 91 p then (bif Nat.beq p 91 then some (37, 0, 0, 1, []) else none) else (bif Nat.beq p 90 then some (6, 0, 0, 1, []) else none)) else (bif Nat.ble 89 p then (bif Nat.beq p 89 then some (37, 0, 0, 1, []) else none) else (bif Nat.beq p 88 then some (0, 0, 1, 1, []) else none)))) else (bif Nat.ble 82 p then (bif Nat.ble 84 p then (bif Nat.ble 85 p then (bif Nat.beq p 85 then some (35, 0, 75, 3, []) else none) else (bif Nat.beq p 84 then some (1, 0, 0, 1, []) else none)) else (bif Nat.ble 83 p then (bif Nat.beq p 83 then some (8, 0, 0, 1, []) else none) else (bif Nat.beq p 82 then some (0, 0, 1, 1, []) else none))) else (bif Nat.ble 76 p then (bif Nat.ble 79 p then (bif Nat.beq p 79 then some (2, 3002, 0, 3, []) else none) else (bif Nat.beq p 76 then some (35, 0, 81, 3, []) else none)) else (bif Nat.beq p 75 then some (1, 0, 0, 1, []) else none)))) else (bif Nat.ble 11 p then (bif Nat.ble 69 p then (bif Nat.ble 73 p then (bif Nat.ble 74 p then (bif Nat.beq p 74 then some (47, 0, 1, 1, []) else none) else (bif Nat.beq p 73 then some (37, 0, 0, 1, []) else none)) else (bif Nat.ble 72 p then (bif Nat.beq p 72 then some (0, 0, 1, 1, []) else none) else (bif Nat.beq p 69 then some (35, 0, 60, 3, []) else none))) else (bif Nat.ble 13 p then (bif Nat.ble 68 p then (bif Nat.beq p 68 then some (1, 0, 0, 1, []) else none) else (bif Nat.beq p 13 then some (57, 0, 243, 55, [68, 75, 93, 100, 107, 114, 121, 162, 169, 192]) else none)) else (bif Nat.ble 12 p then (bif Nat.beq p 12 then some (0, 0, 2, 1, []) else none) else (bif Nat.beq p 11 then some (3, 0, 3, 1, []) else none)))) else (bif Nat.ble 5 p then (bif Nat.ble 9 p then (bif Nat.ble 10 p then (bif Nat.beq p 10 then some (2, 0, 0, 1, []) else none) else (bif Nat.beq p 9 then some (47, 0, 1, 1, []) else none)) else (bif Nat.ble 8 p then (bif Nat.beq p 8 then some (2, (-1), 0, 1, []) else none) else (bif Nat.beq p 5 then some (28, 0, 10, 3, []) else none))) else (bif Nat.ble 1 p then (bif Nat.ble 2 p then (bif Nat.beq p 2 then some (46, 0, 165, 3, []) else none) else (bif Nat.beq p 1 then some (0, 0, 1, 1, []) else none)) else (bif Nat.beq p 0 then some (1, 0, 0, 1, []) else none)))))))
def ca_X11_state (y : Nat) (as : List sl_V) (m : sl_M) : Option (sl_PL × sl_M) := bif Nat.beq y 91 then F_X11_isOut as m else none
def sp_X11_state (p : Nat) : Bool := Nat.beq p 124 || Nat.beq p 200
def mk_X11_state (p : Nat) : List Bool := bif Nat.ble 200 p then (bif Nat.beq p 200 then [true, true, false, true, true] else []) else (bif Nat.beq p 124 then [true, true, false, true, true] else [])
def cl_X11_state (p : Nat) : Option sl_C := bif Nat.ble 166 p then none else (bif Nat.beq p 165 then some (91, 2, 1, 0, 0, 12) else none)
def R_X11_state (ca : Nat → List sl_V → sl_M → Option (sl_PL × sl_M)) : Nat → sl_S → sl_M → Option (sl_PL × sl_M) := sl_B tb_X11_state fl_X11 pf_X11 cl_X11_state nw_X11 sl_rd sl_wr sl_al sl_ln 0 (fun _ => 0) ca sp_X11_state mk_X11_state
def F_X11_state (as : List sl_V) (m : sl_M) : Option (sl_PL × sl_M) := R_X11_state ca_X11_state 100000 (0, sl_lo 5 as, []) m
def f_X11_state (a0 : Int32) (a1 : Int32) (m : sl_M) : Option (sl_PL × sl_M) := F_X11_state [.inr (.inl (some (11, 0))), .inl a0, .inl a1] m
def r_X11_state_0 (ca : Nat → List sl_V → sl_M → Option (sl_PL × sl_M)) (n : Nat) (a0 : Int32) (a1 : Int32) (m : sl_M) : Option (sl_PL × sl_M) := R_X11_state ca n (0, sl_lo 5 [.inr (.inl (some (11, 0))), .inl a0, .inl a1], []) m
def r_X11_state_124 (ca : Nat → List sl_V → sl_M → Option (sl_PL × sl_M)) (n : Nat) (v1 : Int32) (v3 : Int32) (v4 : Int32) (m : sl_M) : Option (sl_PL × sl_M) := R_X11_state ca n (124, [some (.inr (.inl (some (11, 0)))), some (.inl v1), none, some (.inl v3), some (.inl v4)], []) m
def b_X11_state_124 (n : Nat) (v1 : Int32) (v3 : Int32) (v4 : Int32) (m : sl_M) : Option (sl_PL × sl_M) := r_X11_state_124 ca_X11_state n v1 v3 v4 m
def r_X11_state_200 (ca : Nat → List sl_V → sl_M → Option (sl_PL × sl_M)) (n : Nat) (v1 : Int32) (v3 : Int32) (v4 : Int32) (m : sl_M) : Option (sl_PL × sl_M) := R_X11_state ca n (200, [some (.inr (.inl (some (11, 0)))), some (.inl v1), none, some (.inl v3), some (.inl v4)], []) m
def b_X11_state_200 (n : Nat) (v1 : Int32) (v3 : Int32) (v4 : Int32) (m : sl_M) : Option (sl_PL × sl_M) := r_X11_state_200 ca_X11_state n v1 v3 v4 m
set_option maxRecDepth 100000 in
theorem g_X11_state_0 (ca : Nat → List sl_V → sl_M → Option (sl_PL × sl_M)) (n : Nat) (a0 : Int32) (a1 : Int32) (m : sl_M) : r_X11_state_0 ca (n + 1) a0 a1 m =
  (ca 91 [.inr (.inl (some (11, 0))), .inl a0] m).bind (fun q1 =>
  if q1.1.1 = 0 then
    if a1 = (0 : Int32) then
      if 0 ≤ a0 ∧ a0.toNatClampNeg < 2 then
      some (((q1.2.1 51 0 a0.toNatClampNeg), 0, 0), q1.2)
      else none
    else if a1 = (1 : Int32) then
      if 0 ≤ a0 ∧ a0.toNatClampNeg < 2 then
      if 0 ≤ (((3002 : Int32) * a0) + (q1.2.1 56 0 a0.toNatClampNeg)) ∧ (((3002 : Int32) * a0) + (q1.2.1 56 0 a0.toNatClampNeg)).toNatClampNeg < 6004 then
      some (((q1.2.1 58 0 ((((3002 : Int32) * a0) + (q1.2.1 56 0 a0.toNatClampNeg)).toNatClampNeg)), 0, 0), q1.2)
      else none
      else none
    else if a1 = (2 : Int32) then
      if 0 ≤ a0 ∧ a0.toNatClampNeg < 2 then
      some (((q1.2.1 55 0 a0.toNatClampNeg), 0, 0), q1.2)
      else none
    else if a1 = (3 : Int32) then
      if 0 ≤ a0 ∧ a0.toNatClampNeg < 2 then
      some (((q1.2.1 56 0 a0.toNatClampNeg), 0, 0), q1.2)
      else none
    else if a1 = (4 : Int32) then
      if 0 ≤ a0 ∧ a0.toNatClampNeg < 2 then
      some (((q1.2.1 57 0 a0.toNatClampNeg), 0, 0), q1.2)
      else none
    else if a1 = (5 : Int32) then
      if 0 ≤ a0 ∧ a0.toNatClampNeg < 2 then
      some (((q1.2.1 52 0 a0.toNatClampNeg), 0, 0), q1.2)
      else none
    else if a1 = (6 : Int32) then
      r_X11_state_124 ca n a0 (0 : Int32) (0 : Int32) q1.2
    else if a1 = (7 : Int32) then
      if 0 ≤ a0 ∧ a0.toNatClampNeg < 2 then
      some (((q1.2.1 53 0 a0.toNatClampNeg), 0, 0), q1.2)
      else none
    else if a1 = (8 : Int32) then
      if 0 ≤ a0 ∧ a0.toNatClampNeg < 2 then
      if (120 : Int32) ≤ (q1.2.1 61 0 a0.toNatClampNeg) then
        some (((120 : Int32), 0, 0), q1.2)
      else
        if 0 ≤ a0 ∧ a0.toNatClampNeg < 2 then
        some (((q1.2.1 61 0 a0.toNatClampNeg), 0, 0), q1.2)
        else none
      else none
    else if a1 = (9 : Int32) then
      if 0 ≤ a0 ∧ a0.toNatClampNeg < 2 then
      r_X11_state_200 ca n a0 (0 : Int32) (q1.2.1 55 0 a0.toNatClampNeg) q1.2
      else none
    else 
    some (((-1 : Int32), 0, 0), q1.2)
  else
    some (((-1 : Int32), 0, 0), q1.2)) := by rfl
set_option maxRecDepth 100000 in
theorem g_X11_state_124 (ca : Nat → List sl_V → sl_M → Option (sl_PL × sl_M)) (n : Nat) (v1 : Int32) (v3 : Int32) (v4 : Int32) (m : sl_M) : r_X11_state_124 ca (n + 1) v1 v3 v4 m =
  if (64 : Int32) ≤ v4 then
    some ((v3, 0, 0), m)
  else
    if 0 ≤ (((64 : Int32) * v1) + v4) ∧ (((64 : Int32) * v1) + v4).toNatClampNeg < 128 then
    if ((m.1 71 0 ((((64 : Int32) * v1) + v4).toNatClampNeg)) &&& 1) = 0 then
      r_X11_state_124 ca n v1 (v3 + (0 : Int32)) (v4 + (1 : Int32)) m
    else
      r_X11_state_124 ca n v1 (v3 + (1 : Int32)) (v4 + (1 : Int32)) m
    else none := by rfl
set_option maxRecDepth 100000 in
theorem g_X11_state_200 (ca : Nat → List sl_V → sl_M → Option (sl_PL × sl_M)) (n : Nat) (v1 : Int32) (v3 : Int32) (v4 : Int32) (m : sl_M) : r_X11_state_200 ca (n + 1) v1 v3 v4 m =
  if 0 ≤ v1 ∧ v1.toNatClampNeg < 2 then
  if (m.1 56 0 v1.toNatClampNeg) ≤ v4 then
    some ((v3, 0, 0), m)
  else
    if 0 ≤ (((3002 : Int32) * v1) + v4) ∧ (((3002 : Int32) * v1) + v4).toNatClampNeg < 6004 then
    if ((m.1 70 0 ((((3002 : Int32) * v1) + v4).toNatClampNeg)) &&& 1) = 0 then
      r_X11_state_200 ca n v1 (v3 + (0 : Int32)) (v4 + (1 : Int32)) m
    else
      r_X11_state_200 ca n v1 (v3 + (1 : Int32)) (v4 + (1 : Int32)) m
    else none
  else none := by rfl
theorem cq_X11_state_X11_isOut (a0 : Int32) (m : sl_M) : ca_X11_state 91 [.inr (.inl (some (11, 0))), .inl a0] m = f_X11_isOut a0 m := by
  unfold ca_X11_state f_X11_isOut
  rw [show Nat.beq 91 91 = true from rfl, cond_true]
theorem bq_X11_state_124 (n : Nat) (v1 : Int32) (v3 : Int32) (v4 : Int32) (m : sl_M) : r_X11_state_124 ca_X11_state n v1 v3 v4 m = b_X11_state_124 n v1 v3 v4 m := rfl
theorem bq_X11_state_200 (n : Nat) (v1 : Int32) (v3 : Int32) (v4 : Int32) (m : sl_M) : r_X11_state_200 ca_X11_state n v1 v3 v4 m = b_X11_state_200 n v1 v3 v4 m := rfl
theorem e_X11_state (a0 : Int32) (a1 : Int32) (m : sl_M) : f_X11_state a0 a1 m =
  (f_X11_isOut a0 m).bind (fun q1 =>
  if q1.1.1 = 0 then
    if a1 = (0 : Int32) then
      if 0 ≤ a0 ∧ a0.toNatClampNeg < 2 then
      some (((q1.2.1 51 0 a0.toNatClampNeg), 0, 0), q1.2)
      else none
    else if a1 = (1 : Int32) then
      if 0 ≤ a0 ∧ a0.toNatClampNeg < 2 then
      if 0 ≤ (((3002 : Int32) * a0) + (q1.2.1 56 0 a0.toNatClampNeg)) ∧ (((3002 : Int32) * a0) + (q1.2.1 56 0 a0.toNatClampNeg)).toNatClampNeg < 6004 then
      some (((q1.2.1 58 0 ((((3002 : Int32) * a0) + (q1.2.1 56 0 a0.toNatClampNeg)).toNatClampNeg)), 0, 0), q1.2)
      else none
      else none
    else if a1 = (2 : Int32) then
      if 0 ≤ a0 ∧ a0.toNatClampNeg < 2 then
      some (((q1.2.1 55 0 a0.toNatClampNeg), 0, 0), q1.2)
      else none
    else if a1 = (3 : Int32) then
      if 0 ≤ a0 ∧ a0.toNatClampNeg < 2 then
      some (((q1.2.1 56 0 a0.toNatClampNeg), 0, 0), q1.2)
      else none
    else if a1 = (4 : Int32) then
      if 0 ≤ a0 ∧ a0.toNatClampNeg < 2 then
      some (((q1.2.1 57 0 a0.toNatClampNeg), 0, 0), q1.2)
      else none
    else if a1 = (5 : Int32) then
      if 0 ≤ a0 ∧ a0.toNatClampNeg < 2 then
      some (((q1.2.1 52 0 a0.toNatClampNeg), 0, 0), q1.2)
      else none
    else if a1 = (6 : Int32) then
      b_X11_state_124 99999 a0 (0 : Int32) (0 : Int32) q1.2
    else if a1 = (7 : Int32) then
      if 0 ≤ a0 ∧ a0.toNatClampNeg < 2 then
      some (((q1.2.1 53 0 a0.toNatClampNeg), 0, 0), q1.2)
      else none
    else if a1 = (8 : Int32) then
      if 0 ≤ a0 ∧ a0.toNatClampNeg < 2 then
      if (120 : Int32) ≤ (q1.2.1 61 0 a0.toNatClampNeg) then
        some (((120 : Int32), 0, 0), q1.2)
      else
        if 0 ≤ a0 ∧ a0.toNatClampNeg < 2 then
        some (((q1.2.1 61 0 a0.toNatClampNeg), 0, 0), q1.2)
        else none
      else none
    else if a1 = (9 : Int32) then
      if 0 ≤ a0 ∧ a0.toNatClampNeg < 2 then
      b_X11_state_200 99999 a0 (0 : Int32) (q1.2.1 55 0 a0.toNatClampNeg) q1.2
      else none
    else 
    some (((-1 : Int32), 0, 0), q1.2)
  else
    some (((-1 : Int32), 0, 0), q1.2)) := by
  have h := g_X11_state_0 ca_X11_state 99999 a0 a1 m
  simp only [cq_X11_state_X11_isOut, bq_X11_state_124, bq_X11_state_200] at h
  exact h
theorem e_X11_state_124 (n : Nat) (v1 : Int32) (v3 : Int32) (v4 : Int32) (m : sl_M) : b_X11_state_124 (n + 1) v1 v3 v4 m =
  if (64 : Int32) ≤ v4 then
    some ((v3, 0, 0), m)
  else
    if 0 ≤ (((64 : Int32) * v1) + v4) ∧ (((64 : Int32) * v1) + v4).toNatClampNeg < 128 then
    if ((m.1 71 0 ((((64 : Int32) * v1) + v4).toNatClampNeg)) &&& 1) = 0 then
      b_X11_state_124 n v1 (v3 + (0 : Int32)) (v4 + (1 : Int32)) m
    else
      b_X11_state_124 n v1 (v3 + (1 : Int32)) (v4 + (1 : Int32)) m
    else none := by
  have h := g_X11_state_124 ca_X11_state n v1 v3 v4 m
  simp only [cq_X11_state_X11_isOut, bq_X11_state_124, bq_X11_state_200] at h
  exact h
theorem e_X11_state_200 (n : Nat) (v1 : Int32) (v3 : Int32) (v4 : Int32) (m : sl_M) : b_X11_state_200 (n + 1) v1 v3 v4 m =
  if 0 ≤ v1 ∧ v1.toNatClampNeg < 2 then
  if (m.1 56 0 v1.toNatClampNeg) ≤ v4 then
    some ((v3, 0, 0), m)
  else
    if 0 ≤ (((3002 : Int32) * v1) + v4) ∧ (((3002 : Int32) * v1) + v4).toNatClampNeg < 6004 then
    if ((m.1 70 0 ((((3002 : Int32) * v1) + v4).toNatClampNeg)) &&& 1) = 0 then
      b_X11_state_200 n v1 (v3 + (0 : Int32)) (v4 + (1 : Int32)) m
    else
      b_X11_state_200 n v1 (v3 + (1 : Int32)) (v4 + (1 : Int32)) m
    else none
  else none := by
  have h := g_X11_state_200 ca_X11_state n v1 v3 v4 m
  simp only [cq_X11_state_X11_isOut, bq_X11_state_124, bq_X11_state_200] at h
  exact h

def tb_X11_taken (p : Nat) : Option sl_E := bif Nat.ble 45 p then none else (bif Nat.ble 21 p then (bif Nat.ble 36 p then (bif Nat.ble 39 p then (bif Nat.ble 43 p then (bif Nat.ble 44 p then (bif Nat.beq p 44 then some (47, 0, 1, 1, []) else none) else (bif Nat.beq p 43 then some (11, 0, 0, 1, []) else none)) else (bif Nat.ble 40 p then (bif Nat.beq p 40 then some (2, 255, 0, 3, []) else none) else (bif Nat.beq p 39 then some (38, 0, 0, 1, []) else none))) else (bif Nat.ble 37 p then (bif Nat.ble 38 p then (bif Nat.beq p 38 then some (6, 0, 0, 1, []) else none) else (bif Nat.beq p 37 then some (0, 0, 2, 1, []) else none)) else (bif Nat.beq p 36 then some (8, 0, 0, 1, []) else none))) else (bif Nat.ble 28 p then (bif Nat.ble 32 p then (bif Nat.ble 35 p then (bif Nat.beq p 35 then some (0, 0, 1, 1, []) else none) else (bif Nat.beq p 32 then some (2, 3000, 0, 3, []) else none)) else (bif Nat.ble 29 p then (bif Nat.beq p 29 then some (35, 0, 57, 3, []) else none) else (bif Nat.beq p 28 then some (1, 0, 0, 1, []) else none))) else (bif Nat.ble 24 p then (bif Nat.ble 25 p then (bif Nat.beq p 25 then some (34, 0, 44, 3, []) else none) else (bif Nat.beq p 24 then some (2, (-1), 0, 1, []) else none)) else (bif Nat.beq p 21 then some (24, 0, 28, 3, []) else none)))) else (bif Nat.ble 10 p then (bif Nat.ble 15 p then (bif Nat.ble 19 p then (bif Nat.ble 20 p then (bif Nat.beq p 20 then some (37, 0, 0, 1, []) else none) else (bif Nat.beq p 19 then some (0, 0, 1, 1, []) else none)) else (bif Nat.ble 16 p then (bif Nat.beq p 16 then some (35, 0, 63, 3, []) else none) else (bif Nat.beq p 15 then some (1, 0, 0, 1, []) else none))) else (bif Nat.ble 11 p then (bif Nat.ble 14 p then (bif Nat.beq p 14 then some (0, 0, 2, 1, []) else none) else (bif Nat.beq p 11 then some (30, 0, 24, 3, []) else none)) else (bif Nat.beq p 10 then some (0, 0, 2, 1, []) else none))) else (bif Nat.ble 5 p then (bif Nat.ble 8 p then (bif Nat.ble 9 p then (bif Nat.beq p 9 then some (47, 0, 1, 1, []) else none) else (bif Nat.beq p 8 then some (2, (-1), 0, 1, []) else none)) else (bif Nat.beq p 5 then some (28, 0, 10, 3, []) else none)) else (bif Nat.ble 1 p then (bif Nat.ble 2 p then (bif Nat.beq p 2 then some (46, 0, 165, 3, []) else none) else (bif Nat.beq p 1 then some (0, 0, 1, 1, []) else none)) else (bif Nat.beq p 0 then some (1, 0, 0, 1, []) else none)))))
def ca_X11_taken (y : Nat) (as : List sl_V) (m : sl_M) : Option (sl_PL × sl_M) := bif Nat.beq y 91 then F_X11_isOut as m else none
def sp_X11_taken (p : Nat) : Bool := false
def mk_X11_taken (p : Nat) : List Bool := []
def cl_X11_taken (p : Nat) : Option sl_C := bif Nat.ble 166 p then none else (bif Nat.beq p 165 then some (91, 2, 1, 0, 0, 12) else none)
def R_X11_taken (ca : Nat → List sl_V → sl_M → Option (sl_PL × sl_M)) : Nat → sl_S → sl_M → Option (sl_PL × sl_M) := sl_B tb_X11_taken fl_X11 pf_X11 cl_X11_taken nw_X11 sl_rd sl_wr sl_al sl_ln 0 (fun _ => 0) ca sp_X11_taken mk_X11_taken
def F_X11_taken (as : List sl_V) (m : sl_M) : Option (sl_PL × sl_M) := R_X11_taken ca_X11_taken 100000 (0, sl_lo 3 as, []) m
def f_X11_taken (a0 : Int32) (a1 : Int32) (m : sl_M) : Option (sl_PL × sl_M) := F_X11_taken [.inr (.inl (some (11, 0))), .inl a0, .inl a1] m
def r_X11_taken_0 (ca : Nat → List sl_V → sl_M → Option (sl_PL × sl_M)) (n : Nat) (a0 : Int32) (a1 : Int32) (m : sl_M) : Option (sl_PL × sl_M) := R_X11_taken ca n (0, sl_lo 3 [.inr (.inl (some (11, 0))), .inl a0, .inl a1], []) m
set_option maxRecDepth 100000 in
theorem g_X11_taken_0 (ca : Nat → List sl_V → sl_M → Option (sl_PL × sl_M)) (n : Nat) (a0 : Int32) (a1 : Int32) (m : sl_M) : r_X11_taken_0 ca (n + 1) a0 a1 m =
  (ca 91 [.inr (.inl (some (11, 0))), .inl a0] m).bind (fun q1 =>
  if q1.1.1 = 0 then
    if a1 < 0 then
      some (((-1 : Int32), 0, 0), q1.2)
    else
      if 0 ≤ a0 ∧ a0.toNatClampNeg < 2 then
      if a1 < (q1.2.1 52 0 a0.toNatClampNeg) then
        if 0 ≤ (((3000 : Int32) * a0) + a1) ∧ (((3000 : Int32) * a0) + a1).toNatClampNeg < 6000 then
        some ((((sl_sx (q1.2.1 30 4 ((((3000 : Int32) * a0) + a1).toNatClampNeg))) &&& (255 : Int32)), 0, 0), q1.2)
        else none
      else
        some (((-1 : Int32), 0, 0), q1.2)
      else none
  else
    some (((-1 : Int32), 0, 0), q1.2)) := by rfl
theorem cq_X11_taken_X11_isOut (a0 : Int32) (m : sl_M) : ca_X11_taken 91 [.inr (.inl (some (11, 0))), .inl a0] m = f_X11_isOut a0 m := by
  unfold ca_X11_taken f_X11_isOut
  rw [show Nat.beq 91 91 = true from rfl, cond_true]
theorem e_X11_taken (a0 : Int32) (a1 : Int32) (m : sl_M) : f_X11_taken a0 a1 m =
  (f_X11_isOut a0 m).bind (fun q1 =>
  if q1.1.1 = 0 then
    if a1 < 0 then
      some (((-1 : Int32), 0, 0), q1.2)
    else
      if 0 ≤ a0 ∧ a0.toNatClampNeg < 2 then
      if a1 < (q1.2.1 52 0 a0.toNatClampNeg) then
        if 0 ≤ (((3000 : Int32) * a0) + a1) ∧ (((3000 : Int32) * a0) + a1).toNatClampNeg < 6000 then
        some ((((sl_sx (q1.2.1 30 4 ((((3000 : Int32) * a0) + a1).toNatClampNeg))) &&& (255 : Int32)), 0, 0), q1.2)
        else none
      else
        some (((-1 : Int32), 0, 0), q1.2)
      else none
  else
    some (((-1 : Int32), 0, 0), q1.2)) := by
  have h := g_X11_taken_0 ca_X11_taken 99999 a0 a1 m
  simp only [cq_X11_taken_X11_isOut] at h
  exact h

def tb_X11_count (p : Nat) : Option sl_E := bif Nat.ble 32 p then none else (bif Nat.ble 16 p then (bif Nat.ble 25 p then (bif Nat.ble 29 p then (bif Nat.ble 30 p then (bif Nat.ble 31 p then (bif Nat.beq p 31 then some (47, 0, 1, 1, []) else none) else (bif Nat.beq p 30 then some (37, 0, 0, 1, []) else none)) else (bif Nat.beq p 29 then some (0, 0, 1, 1, []) else none)) else (bif Nat.ble 26 p then (bif Nat.beq p 26 then some (35, 0, 133, 3, []) else none) else (bif Nat.beq p 25 then some (1, 0, 0, 1, []) else none))) else (bif Nat.ble 21 p then (bif Nat.ble 22 p then (bif Nat.beq p 22 then some (34, 0, 31, 3, []) else none) else (bif Nat.beq p 21 then some (2, (-1), 0, 1, []) else none)) else (bif Nat.ble 18 p then (bif Nat.beq p 18 then some (23, 0, 25, 3, []) else none) else (bif Nat.beq p 16 then some (2, 10, 0, 2, []) else none)))) else (bif Nat.ble 6 p then (bif Nat.ble 10 p then (bif Nat.ble 12 p then (bif Nat.ble 15 p then (bif Nat.beq p 15 then some (0, 0, 1, 1, []) else none) else (bif Nat.beq p 12 then some (26, 0, 21, 3, []) else none)) else (bif Nat.beq p 10 then some (2, 15, 0, 2, []) else none)) else (bif Nat.ble 9 p then (bif Nat.beq p 9 then some (0, 0, 1, 1, []) else none) else (bif Nat.beq p 6 then some (30, 0, 21, 3, []) else none))) else (bif Nat.ble 2 p then (bif Nat.ble 5 p then (bif Nat.beq p 5 then some (0, 0, 1, 1, []) else none) else (bif Nat.beq p 2 then some (36, 0, 7, 3, []) else none)) else (bif Nat.ble 1 p then (bif Nat.beq p 1 then some (2, 0, 0, 1, []) else none) else (bif Nat.beq p 0 then some (1, 0, 0, 1, []) else none)))))
def ca_X11_count (y : Nat) (as : List sl_V) (m : sl_M) : Option (sl_PL × sl_M) := none
def sp_X11_count (p : Nat) : Bool := false
def mk_X11_count (p : Nat) : List Bool := []
def cl_X11_count (p : Nat) : Option sl_C := none
def R_X11_count (ca : Nat → List sl_V → sl_M → Option (sl_PL × sl_M)) : Nat → sl_S → sl_M → Option (sl_PL × sl_M) := sl_B tb_X11_count fl_X11 pf_X11 cl_X11_count nw_X11 sl_rd sl_wr sl_al sl_ln 0 (fun _ => 0) ca sp_X11_count mk_X11_count
def F_X11_count (as : List sl_V) (m : sl_M) : Option (sl_PL × sl_M) := R_X11_count ca_X11_count 100000 (0, sl_lo 2 as, []) m
def f_X11_count (a0 : Int32) (m : sl_M) : Option (sl_PL × sl_M) := F_X11_count [.inr (.inl (some (11, 0))), .inl a0] m
def r_X11_count_0 (ca : Nat → List sl_V → sl_M → Option (sl_PL × sl_M)) (n : Nat) (a0 : Int32) (m : sl_M) : Option (sl_PL × sl_M) := R_X11_count ca n (0, sl_lo 2 [.inr (.inl (some (11, 0))), .inl a0], []) m
set_option maxRecDepth 100000 in
theorem g_X11_count_0 (ca : Nat → List sl_V → sl_M → Option (sl_PL × sl_M)) (n : Nat) (a0 : Int32) (m : sl_M) : r_X11_count_0 ca (n + 1) a0 m =
  if a0 < 0 then
    some (((-1 : Int32), 0, 0), (sl_up m 11 0 0 (0 : Int32)))
  else
    if (15 : Int32) < a0 then
      some (((-1 : Int32), 0, 0), (sl_up m 11 0 0 (0 : Int32)))
    else
      if a0 = (10 : Int32) then
        some (((-1 : Int32), 0, 0), (sl_up m 11 0 0 (0 : Int32)))
      else
        if 0 ≤ a0 ∧ a0.toNatClampNeg < 16 then
        some (((m.1 68 0 a0.toNatClampNeg), 0, 0), (sl_up m 11 0 0 (0 : Int32)))
        else none := by rfl
theorem e_X11_count (a0 : Int32) (m : sl_M) : f_X11_count a0 m =
  if a0 < 0 then
    some (((-1 : Int32), 0, 0), (sl_up m 11 0 0 (0 : Int32)))
  else
    if (15 : Int32) < a0 then
      some (((-1 : Int32), 0, 0), (sl_up m 11 0 0 (0 : Int32)))
    else
      if a0 = (10 : Int32) then
        some (((-1 : Int32), 0, 0), (sl_up m 11 0 0 (0 : Int32)))
      else
        if 0 ≤ a0 ∧ a0.toNatClampNeg < 16 then
        some (((m.1 68 0 a0.toNatClampNeg), 0, 0), (sl_up m 11 0 0 (0 : Int32)))
        else none := by
  have h := g_X11_count_0 ca_X11_count 99999 a0 m
  exact h
