/-! ===== the calls of the law's loop ===== -/
theorem sl_ccL1 {base b : Nat} {Hb : Heap} {D : va_G} {cA : Nat → ClassId} {l : Launch} {th : Nat} {Y : MethodName} {B : ByteArray} {mL : Nat} {ret : Option FieldType} {fr lc rk rc : Nat} {F : List sl_V → sl_M → Option (sl_PL × sl_M)}
    (h : sl_CC (sl_ad base b) base 331 Hb D cA sl_ln sl_rd sl_VS sl_MS sl_cS sl_sS l th Y B mL ret fr lc rk rc F) : sl_CC (sl_ad base b) base 331 Hb D cA sl_ln sl_rdL sl_VL sl_ML sl_cL sl_sL l th Y B mL ret fr lc rk rc (sl_lf F) := by
  obtain ⟨hp, ht⟩ := h
  refine ⟨fun as m x hF => ?_, fun as m x hF hI hv hall hlen => ?_⟩
  · obtain ⟨m1, e1, e2⟩ := sl_lf_in hF
    obtain ⟨-, -, q⟩ := hp as m.1 _ e1
    refine ⟨?_, ?_, q⟩
    · show m.2.1 ≤ x.2.2.1
      rw [e2]; exact Nat.le_refl _
    · show m.2.2 ≤ x.2.2.2
      rw [e2]; exact Nat.le_refl _
  · obtain ⟨m1, e1, e2⟩ := sl_lf_in hF
    obtain ⟨hM, hX⟩ := ht as m.1 _ e1 trivial hv hall hlen
    rw [show sl_cS (x.1, m1).2 - sl_cS m.1 = 0 from Nat.sub_self 331, show sl_sS (x.1, m1).2 - sl_sS m.1 = 0 from rfl] at hM hX
    have ec : sl_cL x.2 - sl_cL m = 0 := by show x.2.2.1 - m.2.1 = 0; rw [e2]; exact Nat.sub_self _
    have es : sl_sL x.2 - sl_sL m = 0 := by show x.2.2.2 - m.2.2 = 0; rw [e2]; exact Nat.sub_self _
    rw [ec, es]
    have hI : 331 ≤ m.2.1 := hI
    have hI2 : 331 ≤ x.2.2.1 := by rw [e2]; exact hI
    refine ⟨fun hx2 => sl_met_weak (hM hx2) (fun a s hP => ⟨hP.1, (sl_HP_L hI).mp hP.2.1, hP.2.2⟩) (fun a s o t hP hQ => ?_), fun hx2 => vx_met_weak (hX hx2) (fun a s hP => ⟨hP.1, (sl_HP_L hI).mp hP.2.1, hP.2.2⟩) (fun E s t hQ => ?_)⟩
    · obtain ⟨q1, q2, q3, q4, q5, q6⟩ := hQ
      exact ⟨q1, (sl_HP_L hI2).mpr (by rw [e2]; exact q2), q3, hI2, fun q hq => hq, q6⟩
    · obtain ⟨q1, q2, q3, q4, q5⟩ := hQ
      exact ⟨q1, (sl_HP_L hI2).mpr (by rw [e2]; exact q2), q3, hI2, fun q hq => hq⟩
def cl_LL (p : Nat) : Option sl_C := bif Nat.ble 126 p then none else (bif Nat.ble 88 p then (bif Nat.ble 109 p then (bif Nat.ble 117 p then (bif Nat.ble 121 p then (bif Nat.ble 122 p then (bif Nat.ble 125 p then (bif Nat.beq p 125 then some (103, 2, 1, 0, 0, 12) else none) else (bif Nat.beq p 122 then some (85, 2, 1, 0, 0, 11) else none)) else (bif Nat.beq p 121 then some (96, 1, 1, 0, 0, 12) else none)) else (bif Nat.ble 118 p then (bif Nat.beq p 118 then some (84, 1, 1, 0, 0, 11) else none) else (bif Nat.beq p 117 then some (102, 2, 1, 0, 0, 12) else none))) else (bif Nat.ble 113 p then (bif Nat.ble 114 p then (bif Nat.beq p 114 then some (83, 2, 1, 0, 0, 11) else none) else (bif Nat.beq p 113 then some (101, 1, 1, 0, 0, 12) else none)) else (bif Nat.ble 110 p then (bif Nat.beq p 110 then some (82, 1, 1, 0, 0, 11) else none) else (bif Nat.beq p 109 then some (100, 1, 1, 0, 0, 12) else none)))) else (bif Nat.ble 101 p then (bif Nat.ble 105 p then (bif Nat.ble 106 p then (bif Nat.beq p 106 then some (81, 1, 1, 0, 0, 11) else none) else (bif Nat.beq p 105 then some (133, 2, 1, 0, 0, 12) else none)) else (bif Nat.ble 102 p then (bif Nat.beq p 102 then some (80, 2, 1, 0, 0, 11) else none) else (bif Nat.beq p 101 then some (132, 3, 1, 0, 0, 12) else none))) else (bif Nat.ble 94 p then (bif Nat.ble 98 p then (bif Nat.beq p 98 then some (131, 3, 1, 0, 0, 12) else none) else (bif Nat.beq p 94 then some (130, 2, 1, 0, 0, 12) else none)) else (bif Nat.ble 91 p then (bif Nat.beq p 91 then some (129, 4, 1, 0, 0, 12) else none) else (bif Nat.beq p 88 then some (128, 4, 1, 0, 0, 12) else none))))) else (bif Nat.ble 67 p then (bif Nat.ble 78 p then (bif Nat.ble 82 p then (bif Nat.ble 85 p then (bif Nat.beq p 85 then some (126, 4, 1, 0, 0, 12) else none) else (bif Nat.beq p 82 then some (125, 1, 1, 0, 0, 12) else none)) else (bif Nat.ble 79 p then (bif Nat.beq p 79 then some (73, 1, 1, 0, 1, 11) else none) else (bif Nat.beq p 78 then some (124, 4, 1, 0, 0, 12) else none))) else (bif Nat.ble 71 p then (bif Nat.ble 74 p then (bif Nat.beq p 74 then some (113, 1, 1, 0, 0, 12) else none) else (bif Nat.beq p 71 then some (68, 1, 1, 0, 0, 11) else none)) else (bif Nat.ble 68 p then (bif Nat.beq p 68 then some (90, 1, 1, 0, 0, 12) else none) else (bif Nat.beq p 67 then some (106, 2, 1, 0, 0, 12) else none)))) else (bif Nat.ble 52 p then (bif Nat.ble 57 p then (bif Nat.ble 61 p then (bif Nat.beq p 61 then some (94, 1, 1, 0, 0, 12) else none) else (bif Nat.beq p 57 then some (66, 1, 1, 0, 0, 11) else none)) else (bif Nat.ble 56 p then (bif Nat.beq p 56 then some (93, 2, 1, 0, 0, 12) else none) else (bif Nat.beq p 52 then some (65, 2, 1, 0, 0, 11) else none))) else (bif Nat.ble 47 p then (bif Nat.ble 51 p then (bif Nat.beq p 51 then some (92, 6, 1, 0, 0, 12) else none) else (bif Nat.beq p 47 then some (63, 6, 1, 0, 0, 11) else none)) else (bif Nat.ble 46 p then (bif Nat.beq p 46 then some (105, 6, 1, 0, 0, 12) else none) else (bif Nat.beq p 42 then some (62, 6, 1, 0, 0, 11) else none))))))
def fa_L (y : Nat) : List sl_V → sl_M → Option (sl_PL × sl_M) := bif Nat.ble 96 y then (bif Nat.ble 124 y then (bif Nat.ble 129 y then (bif Nat.ble 131 y then (bif Nat.ble 132 y then (bif Nat.ble 133 y then (bif Nat.beq y 133 then F_X11_count else (fun _ _ => none)) else (bif Nat.beq y 132 then F_X11_taken else (fun _ _ => none))) else (bif Nat.beq y 131 then F_X11_state else (fun _ _ => none))) else (bif Nat.ble 130 y then (bif Nat.beq y 130 then F_X11_line else (fun _ _ => none)) else (bif Nat.beq y 129 then F_X11_octet else (fun _ _ => none)))) else (bif Nat.ble 126 y then (bif Nat.ble 128 y then (bif Nat.beq y 128 then F_X11_frame else (fun _ _ => none)) else (bif Nat.beq y 126 then F_X11_noise else (fun _ _ => none))) else (bif Nat.ble 125 y then (bif Nat.beq y 125 then F_X11_round else (fun _ _ => none)) else (bif Nat.beq y 124 then F_X11_carry else (fun _ _ => none))))) else (bif Nat.ble 103 y then (bif Nat.ble 106 y then (bif Nat.ble 113 y then (bif Nat.beq y 113 then F_X11_tick else (fun _ _ => none)) else (bif Nat.beq y 106 then F_X11_give else (fun _ _ => none))) else (bif Nat.ble 105 y then (bif Nat.beq y 105 then F_X11_open else (fun _ _ => none)) else (bif Nat.beq y 103 then F_X11_out else (fun _ _ => none)))) else (bif Nat.ble 101 y then (bif Nat.ble 102 y then (bif Nat.beq y 102 then F_X11_fault else (fun _ _ => none)) else (bif Nat.beq y 101 then F_X11_unstuff else (fun _ _ => none))) else (bif Nat.ble 100 y then (bif Nat.beq y 100 then F_X11_stuff else (fun _ _ => none)) else (bif Nat.beq y 96 then F_X11_check else (fun _ _ => none)))))) else (bif Nat.ble 82 y then (bif Nat.ble 90 y then (bif Nat.ble 93 y then (bif Nat.ble 94 y then (bif Nat.beq y 94 then F_X11_take else (fun _ _ => none)) else (bif Nat.beq y 93 then F_X11_cut else (fun _ _ => none))) else (bif Nat.ble 92 y then (bif Nat.beq y 92 then F_X11_feed else (fun _ _ => none)) else (bif Nat.beq y 90 then F_X11_thrown else (fun _ _ => none)))) else (bif Nat.ble 84 y then (bif Nat.ble 85 y then (bif Nat.beq y 85 then F_X10_out else (fun _ _ => none)) else (bif Nat.beq y 84 then F_X10_check else (fun _ _ => none))) else (bif Nat.ble 83 y then (bif Nat.beq y 83 then F_X10_fault else (fun _ _ => none)) else (bif Nat.beq y 82 then F_X10_unstuff else (fun _ _ => none))))) else (bif Nat.ble 68 y then (bif Nat.ble 80 y then (bif Nat.ble 81 y then (bif Nat.beq y 81 then F_X10_stuff else (fun _ _ => none)) else (bif Nat.beq y 80 then F_X10_count else (fun _ _ => none))) else (bif Nat.ble 73 y then (bif Nat.beq y 73 then F_X10_round else (fun _ _ => none)) else (bif Nat.beq y 68 then F_X10_tick else (fun _ _ => none)))) else (bif Nat.ble 65 y then (bif Nat.ble 66 y then (bif Nat.beq y 66 then F_X10_take else (fun _ _ => none)) else (bif Nat.beq y 65 then F_X10_cut else (fun _ _ => none))) else (bif Nat.ble 63 y then (bif Nat.beq y 63 then F_X10_feed else (fun _ _ => none)) else (bif Nat.beq y 62 then F_X10_open else (fun _ _ => none))))))
theorem cf_L_X10_open : fa_L 62 = F_X10_open := by
  unfold fa_L
  rw [show Nat.ble 96 62 = false from rfl, cond_false, show Nat.ble 82 62 = false from rfl, cond_false, show Nat.ble 68 62 = false from rfl, cond_false, show Nat.ble 65 62 = false from rfl, cond_false, show Nat.ble 63 62 = false from rfl, cond_false, show Nat.beq 62 62 = true from rfl, cond_true]
theorem cf_L_X10_feed : fa_L 63 = F_X10_feed := by
  unfold fa_L
  rw [show Nat.ble 96 63 = false from rfl, cond_false, show Nat.ble 82 63 = false from rfl, cond_false, show Nat.ble 68 63 = false from rfl, cond_false, show Nat.ble 65 63 = false from rfl, cond_false, show Nat.ble 63 63 = true from rfl, cond_true, show Nat.beq 63 63 = true from rfl, cond_true]
theorem cf_L_X10_cut : fa_L 65 = F_X10_cut := by
  unfold fa_L
  rw [show Nat.ble 96 65 = false from rfl, cond_false, show Nat.ble 82 65 = false from rfl, cond_false, show Nat.ble 68 65 = false from rfl, cond_false, show Nat.ble 65 65 = true from rfl, cond_true, show Nat.ble 66 65 = false from rfl, cond_false, show Nat.beq 65 65 = true from rfl, cond_true]
theorem cf_L_X10_take : fa_L 66 = F_X10_take := by
  unfold fa_L
  rw [show Nat.ble 96 66 = false from rfl, cond_false, show Nat.ble 82 66 = false from rfl, cond_false, show Nat.ble 68 66 = false from rfl, cond_false, show Nat.ble 65 66 = true from rfl, cond_true, show Nat.ble 66 66 = true from rfl, cond_true, show Nat.beq 66 66 = true from rfl, cond_true]
theorem cf_L_X10_tick : fa_L 68 = F_X10_tick := by
  unfold fa_L
  rw [show Nat.ble 96 68 = false from rfl, cond_false, show Nat.ble 82 68 = false from rfl, cond_false, show Nat.ble 68 68 = true from rfl, cond_true, show Nat.ble 80 68 = false from rfl, cond_false, show Nat.ble 73 68 = false from rfl, cond_false, show Nat.beq 68 68 = true from rfl, cond_true]
theorem cf_L_X10_round : fa_L 73 = F_X10_round := by
  unfold fa_L
  rw [show Nat.ble 96 73 = false from rfl, cond_false, show Nat.ble 82 73 = false from rfl, cond_false, show Nat.ble 68 73 = true from rfl, cond_true, show Nat.ble 80 73 = false from rfl, cond_false, show Nat.ble 73 73 = true from rfl, cond_true, show Nat.beq 73 73 = true from rfl, cond_true]
theorem cf_L_X10_count : fa_L 80 = F_X10_count := by
  unfold fa_L
  rw [show Nat.ble 96 80 = false from rfl, cond_false, show Nat.ble 82 80 = false from rfl, cond_false, show Nat.ble 68 80 = true from rfl, cond_true, show Nat.ble 80 80 = true from rfl, cond_true, show Nat.ble 81 80 = false from rfl, cond_false, show Nat.beq 80 80 = true from rfl, cond_true]
theorem cf_L_X10_stuff : fa_L 81 = F_X10_stuff := by
  unfold fa_L
  rw [show Nat.ble 96 81 = false from rfl, cond_false, show Nat.ble 82 81 = false from rfl, cond_false, show Nat.ble 68 81 = true from rfl, cond_true, show Nat.ble 80 81 = true from rfl, cond_true, show Nat.ble 81 81 = true from rfl, cond_true, show Nat.beq 81 81 = true from rfl, cond_true]
theorem cf_L_X10_unstuff : fa_L 82 = F_X10_unstuff := by
  unfold fa_L
  rw [show Nat.ble 96 82 = false from rfl, cond_false, show Nat.ble 82 82 = true from rfl, cond_true, show Nat.ble 90 82 = false from rfl, cond_false, show Nat.ble 84 82 = false from rfl, cond_false, show Nat.ble 83 82 = false from rfl, cond_false, show Nat.beq 82 82 = true from rfl, cond_true]
theorem cf_L_X10_fault : fa_L 83 = F_X10_fault := by
  unfold fa_L
  rw [show Nat.ble 96 83 = false from rfl, cond_false, show Nat.ble 82 83 = true from rfl, cond_true, show Nat.ble 90 83 = false from rfl, cond_false, show Nat.ble 84 83 = false from rfl, cond_false, show Nat.ble 83 83 = true from rfl, cond_true, show Nat.beq 83 83 = true from rfl, cond_true]
theorem cf_L_X10_check : fa_L 84 = F_X10_check := by
  unfold fa_L
  rw [show Nat.ble 96 84 = false from rfl, cond_false, show Nat.ble 82 84 = true from rfl, cond_true, show Nat.ble 90 84 = false from rfl, cond_false, show Nat.ble 84 84 = true from rfl, cond_true, show Nat.ble 85 84 = false from rfl, cond_false, show Nat.beq 84 84 = true from rfl, cond_true]
theorem cf_L_X10_out : fa_L 85 = F_X10_out := by
  unfold fa_L
  rw [show Nat.ble 96 85 = false from rfl, cond_false, show Nat.ble 82 85 = true from rfl, cond_true, show Nat.ble 90 85 = false from rfl, cond_false, show Nat.ble 84 85 = true from rfl, cond_true, show Nat.ble 85 85 = true from rfl, cond_true, show Nat.beq 85 85 = true from rfl, cond_true]
theorem cf_L_X11_thrown : fa_L 90 = F_X11_thrown := by
  unfold fa_L
  rw [show Nat.ble 96 90 = false from rfl, cond_false, show Nat.ble 82 90 = true from rfl, cond_true, show Nat.ble 90 90 = true from rfl, cond_true, show Nat.ble 93 90 = false from rfl, cond_false, show Nat.ble 92 90 = false from rfl, cond_false, show Nat.beq 90 90 = true from rfl, cond_true]
theorem cf_L_X11_feed : fa_L 92 = F_X11_feed := by
  unfold fa_L
  rw [show Nat.ble 96 92 = false from rfl, cond_false, show Nat.ble 82 92 = true from rfl, cond_true, show Nat.ble 90 92 = true from rfl, cond_true, show Nat.ble 93 92 = false from rfl, cond_false, show Nat.ble 92 92 = true from rfl, cond_true, show Nat.beq 92 92 = true from rfl, cond_true]
theorem cf_L_X11_cut : fa_L 93 = F_X11_cut := by
  unfold fa_L
  rw [show Nat.ble 96 93 = false from rfl, cond_false, show Nat.ble 82 93 = true from rfl, cond_true, show Nat.ble 90 93 = true from rfl, cond_true, show Nat.ble 93 93 = true from rfl, cond_true, show Nat.ble 94 93 = false from rfl, cond_false, show Nat.beq 93 93 = true from rfl, cond_true]
theorem cf_L_X11_take : fa_L 94 = F_X11_take := by
  unfold fa_L
  rw [show Nat.ble 96 94 = false from rfl, cond_false, show Nat.ble 82 94 = true from rfl, cond_true, show Nat.ble 90 94 = true from rfl, cond_true, show Nat.ble 93 94 = true from rfl, cond_true, show Nat.ble 94 94 = true from rfl, cond_true, show Nat.beq 94 94 = true from rfl, cond_true]
theorem cf_L_X11_check : fa_L 96 = F_X11_check := by
  unfold fa_L
  rw [show Nat.ble 96 96 = true from rfl, cond_true, show Nat.ble 124 96 = false from rfl, cond_false, show Nat.ble 103 96 = false from rfl, cond_false, show Nat.ble 101 96 = false from rfl, cond_false, show Nat.ble 100 96 = false from rfl, cond_false, show Nat.beq 96 96 = true from rfl, cond_true]
theorem cf_L_X11_stuff : fa_L 100 = F_X11_stuff := by
  unfold fa_L
  rw [show Nat.ble 96 100 = true from rfl, cond_true, show Nat.ble 124 100 = false from rfl, cond_false, show Nat.ble 103 100 = false from rfl, cond_false, show Nat.ble 101 100 = false from rfl, cond_false, show Nat.ble 100 100 = true from rfl, cond_true, show Nat.beq 100 100 = true from rfl, cond_true]
theorem cf_L_X11_unstuff : fa_L 101 = F_X11_unstuff := by
  unfold fa_L
  rw [show Nat.ble 96 101 = true from rfl, cond_true, show Nat.ble 124 101 = false from rfl, cond_false, show Nat.ble 103 101 = false from rfl, cond_false, show Nat.ble 101 101 = true from rfl, cond_true, show Nat.ble 102 101 = false from rfl, cond_false, show Nat.beq 101 101 = true from rfl, cond_true]
theorem cf_L_X11_fault : fa_L 102 = F_X11_fault := by
  unfold fa_L
  rw [show Nat.ble 96 102 = true from rfl, cond_true, show Nat.ble 124 102 = false from rfl, cond_false, show Nat.ble 103 102 = false from rfl, cond_false, show Nat.ble 101 102 = true from rfl, cond_true, show Nat.ble 102 102 = true from rfl, cond_true, show Nat.beq 102 102 = true from rfl, cond_true]
theorem cf_L_X11_out : fa_L 103 = F_X11_out := by
  unfold fa_L
  rw [show Nat.ble 96 103 = true from rfl, cond_true, show Nat.ble 124 103 = false from rfl, cond_false, show Nat.ble 103 103 = true from rfl, cond_true, show Nat.ble 106 103 = false from rfl, cond_false, show Nat.ble 105 103 = false from rfl, cond_false, show Nat.beq 103 103 = true from rfl, cond_true]
theorem cf_L_X11_open : fa_L 105 = F_X11_open := by
  unfold fa_L
  rw [show Nat.ble 96 105 = true from rfl, cond_true, show Nat.ble 124 105 = false from rfl, cond_false, show Nat.ble 103 105 = true from rfl, cond_true, show Nat.ble 106 105 = false from rfl, cond_false, show Nat.ble 105 105 = true from rfl, cond_true, show Nat.beq 105 105 = true from rfl, cond_true]
theorem cf_L_X11_give : fa_L 106 = F_X11_give := by
  unfold fa_L
  rw [show Nat.ble 96 106 = true from rfl, cond_true, show Nat.ble 124 106 = false from rfl, cond_false, show Nat.ble 103 106 = true from rfl, cond_true, show Nat.ble 106 106 = true from rfl, cond_true, show Nat.ble 113 106 = false from rfl, cond_false, show Nat.beq 106 106 = true from rfl, cond_true]
theorem cf_L_X11_tick : fa_L 113 = F_X11_tick := by
  unfold fa_L
  rw [show Nat.ble 96 113 = true from rfl, cond_true, show Nat.ble 124 113 = false from rfl, cond_false, show Nat.ble 103 113 = true from rfl, cond_true, show Nat.ble 106 113 = true from rfl, cond_true, show Nat.ble 113 113 = true from rfl, cond_true, show Nat.beq 113 113 = true from rfl, cond_true]
theorem cf_L_X11_carry : fa_L 124 = F_X11_carry := by
  unfold fa_L
  rw [show Nat.ble 96 124 = true from rfl, cond_true, show Nat.ble 124 124 = true from rfl, cond_true, show Nat.ble 129 124 = false from rfl, cond_false, show Nat.ble 126 124 = false from rfl, cond_false, show Nat.ble 125 124 = false from rfl, cond_false, show Nat.beq 124 124 = true from rfl, cond_true]
theorem cf_L_X11_round : fa_L 125 = F_X11_round := by
  unfold fa_L
  rw [show Nat.ble 96 125 = true from rfl, cond_true, show Nat.ble 124 125 = true from rfl, cond_true, show Nat.ble 129 125 = false from rfl, cond_false, show Nat.ble 126 125 = false from rfl, cond_false, show Nat.ble 125 125 = true from rfl, cond_true, show Nat.beq 125 125 = true from rfl, cond_true]
theorem cf_L_X11_noise : fa_L 126 = F_X11_noise := by
  unfold fa_L
  rw [show Nat.ble 96 126 = true from rfl, cond_true, show Nat.ble 124 126 = true from rfl, cond_true, show Nat.ble 129 126 = false from rfl, cond_false, show Nat.ble 126 126 = true from rfl, cond_true, show Nat.ble 128 126 = false from rfl, cond_false, show Nat.beq 126 126 = true from rfl, cond_true]
theorem cf_L_X11_frame : fa_L 128 = F_X11_frame := by
  unfold fa_L
  rw [show Nat.ble 96 128 = true from rfl, cond_true, show Nat.ble 124 128 = true from rfl, cond_true, show Nat.ble 129 128 = false from rfl, cond_false, show Nat.ble 126 128 = true from rfl, cond_true, show Nat.ble 128 128 = true from rfl, cond_true, show Nat.beq 128 128 = true from rfl, cond_true]
theorem cf_L_X11_octet : fa_L 129 = F_X11_octet := by
  unfold fa_L
  rw [show Nat.ble 96 129 = true from rfl, cond_true, show Nat.ble 124 129 = true from rfl, cond_true, show Nat.ble 129 129 = true from rfl, cond_true, show Nat.ble 131 129 = false from rfl, cond_false, show Nat.ble 130 129 = false from rfl, cond_false, show Nat.beq 129 129 = true from rfl, cond_true]
theorem cf_L_X11_line : fa_L 130 = F_X11_line := by
  unfold fa_L
  rw [show Nat.ble 96 130 = true from rfl, cond_true, show Nat.ble 124 130 = true from rfl, cond_true, show Nat.ble 129 130 = true from rfl, cond_true, show Nat.ble 131 130 = false from rfl, cond_false, show Nat.ble 130 130 = true from rfl, cond_true, show Nat.beq 130 130 = true from rfl, cond_true]
theorem cf_L_X11_state : fa_L 131 = F_X11_state := by
  unfold fa_L
  rw [show Nat.ble 96 131 = true from rfl, cond_true, show Nat.ble 124 131 = true from rfl, cond_true, show Nat.ble 129 131 = true from rfl, cond_true, show Nat.ble 131 131 = true from rfl, cond_true, show Nat.ble 132 131 = false from rfl, cond_false, show Nat.beq 131 131 = true from rfl, cond_true]
theorem cf_L_X11_taken : fa_L 132 = F_X11_taken := by
  unfold fa_L
  rw [show Nat.ble 96 132 = true from rfl, cond_true, show Nat.ble 124 132 = true from rfl, cond_true, show Nat.ble 129 132 = true from rfl, cond_true, show Nat.ble 131 132 = true from rfl, cond_true, show Nat.ble 132 132 = true from rfl, cond_true, show Nat.ble 133 132 = false from rfl, cond_false, show Nat.beq 132 132 = true from rfl, cond_true]
theorem cf_L_X11_count : fa_L 133 = F_X11_count := by
  unfold fa_L
  rw [show Nat.ble 96 133 = true from rfl, cond_true, show Nat.ble 124 133 = true from rfl, cond_true, show Nat.ble 129 133 = true from rfl, cond_true, show Nat.ble 131 133 = true from rfl, cond_true, show Nat.ble 132 133 = true from rfl, cond_true, show Nat.ble 133 133 = true from rfl, cond_true, show Nat.beq 133 133 = true from rfl, cond_true]
def LC_L : List (Nat × sl_C) := [(42, (62, 6, 1, 0, 0, 11)), (46, (105, 6, 1, 0, 0, 12)), (47, (63, 6, 1, 0, 0, 11)), (51, (92, 6, 1, 0, 0, 12)), (52, (65, 2, 1, 0, 0, 11)), (56, (93, 2, 1, 0, 0, 12)), (57, (66, 1, 1, 0, 0, 11)), (61, (94, 1, 1, 0, 0, 12)), (67, (106, 2, 1, 0, 0, 12)), (68, (90, 1, 1, 0, 0, 12)), (71, (68, 1, 1, 0, 0, 11)), (74, (113, 1, 1, 0, 0, 12)), (78, (124, 4, 1, 0, 0, 12)), (79, (73, 1, 1, 0, 1, 11)), (82, (125, 1, 1, 0, 0, 12)), (85, (126, 4, 1, 0, 0, 12)), (88, (128, 4, 1, 0, 0, 12)), (91, (129, 4, 1, 0, 0, 12)), (94, (130, 2, 1, 0, 0, 12)), (98, (131, 3, 1, 0, 0, 12)), (101, (132, 3, 1, 0, 0, 12)), (102, (80, 2, 1, 0, 0, 11)), (105, (133, 2, 1, 0, 0, 12)), (106, (81, 1, 1, 0, 0, 11)), (109, (100, 1, 1, 0, 0, 12)), (110, (82, 1, 1, 0, 0, 11)), (113, (101, 1, 1, 0, 0, 12)), (114, (83, 2, 1, 0, 0, 11)), (117, (102, 2, 1, 0, 0, 12)), (118, (84, 1, 1, 0, 0, 11)), (121, (96, 1, 1, 0, 0, 12)), (122, (85, 2, 1, 0, 0, 11)), (125, (103, 2, 1, 0, 0, 12))]
theorem tC_L : sl_tC 126 cl_LL LC_L = true := by decide +kernel
theorem nC_L : ∀ p, 126 ≤ p → cl_LL p = none := (fun p h => by unfold cl_LL; rw [Nat.ble_eq.mpr h]; rfl)
theorem hL_L {base b : Nat} {Hb : Heap} {D : va_G} {cA : Nat → ClassId} {l : Launch} (hst : l.stackTraces = false) (hb : b < base) : ∀ q ∈ LC_L, ∃ (Y1 : MethodName) (B1 : ByteArray) (mL1 : Nat) (ret1 : Option FieldType) (fr1 lc1 : Nat), sl_cok RL q.1 (ck_L q.1) Y1 B1 mL1 ret1 q.2.2.1 q.2.2.2.2.2.2 fr1 lc1 room_1.frames room_1.locals ∧ (q.2.2.2.2.2.1 ≠ 0 → ck_L q.1 = 0) ∧ sl_CC (sl_ad base b) base 331 Hb D cA sl_ln sl_rdL sl_VL sl_ML sl_cL sl_sL l q.2.2.2.2.2.1 Y1 B1 mL1 ret1 fr1 lc1 q.2.2.2.1 q.2.2.2.2.1 (sl_lf (fa_L q.2.1)) := fun q h => by
    unfold LC_L at h
    simp only [List.mem_cons, List.not_mem_nil, or_false] at h
    rcases h with rfl | rfl | rfl | rfl | rfl | rfl | rfl | rfl | rfl | rfl | rfl | rfl | rfl | rfl | rfl | rfl | rfl | rfl | rfl | rfl | rfl | rfl | rfl | rfl | rfl | rfl | rfl | rfl | rfl | rfl | rfl | rfl | rfl
    · exact ⟨yX10_open, cX10_open, 6, (sl_rt 2 ""), 3, 63, cy0_X10_open (sl_gw_at 354 (by decide +kernel) (by decide +kernel)) ⟨by decide, by decide⟩, fun _ => rfl, by rw [show fa_L 62 = F_X10_open from cf_L_X10_open]; exact sl_ccL1 (sc_X10_open hst hb)⟩
    · exact ⟨yX11_open, cX11_open, 7, (sl_rt 2 ""), 1, 22, cy0_X11_open (sl_gw_at 1003 (by decide +kernel) (by decide +kernel)) ⟨by decide, by decide⟩, fun _ => rfl, by rw [show fa_L 105 = F_X11_open from cf_L_X11_open]; exact sl_ccL1 (sc_X11_open hst hb)⟩
    · exact ⟨yX10_feed, cX10_feed, 6, (sl_rt 1 ""), 2, 43, cy0_X10_feed (sl_gw_at 406 (by decide +kernel) (by decide +kernel)) ⟨by decide, by decide⟩, fun _ => rfl, by rw [show fa_L 63 = F_X10_feed from cf_L_X10_feed]; exact sl_ccL1 (sc_X10_feed hst hb)⟩
    · exact ⟨yX11_feed, cX11_feed, 8, (sl_rt 1 ""), 0, 0, cy0_X11_feed (sl_gw_at 956 (by decide +kernel) (by decide +kernel)) ⟨by decide, by decide⟩, fun _ => rfl, by rw [show fa_L 92 = F_X11_feed from cf_L_X11_feed]; exact sl_ccL1 (sc_X11_feed hst hb)⟩
    · exact ⟨yX10_cut, cX10_cut, 2, (sl_rt 2 ""), 2, 42, cy0_X10_cut (sl_gw_at 422 (by decide +kernel) (by decide +kernel)) ⟨by decide, by decide⟩, fun _ => rfl, by rw [show fa_L 65 = F_X10_cut from cf_L_X10_cut]; exact sl_ccL1 (sc_X10_cut hst hb)⟩
    · exact ⟨yX11_cut, cX11_cut, 2, (sl_rt 2 ""), 0, 0, cy0_X11_cut (sl_gw_at 960 (by decide +kernel) (by decide +kernel)) ⟨by decide, by decide⟩, fun _ => rfl, by rw [show fa_L 93 = F_X11_cut from cf_L_X11_cut]; exact sl_ccL1 (sc_X11_cut hst hb)⟩
    · exact ⟨yX10_take, cX10_take, 1, (sl_rt 1 ""), 2, 45, cy0_X10_take (sl_gw_at 436 (by decide +kernel) (by decide +kernel)) ⟨by decide, by decide⟩, fun _ => rfl, by rw [show fa_L 66 = F_X10_take from cf_L_X10_take]; exact sl_ccL1 (sc_X10_take hst hb)⟩
    · exact ⟨yX11_take, cX11_take, 2, (sl_rt 1 ""), 0, 0, cy0_X11_take (sl_gw_at 964 (by decide +kernel) (by decide +kernel)) ⟨by decide, by decide⟩, fun _ => rfl, by rw [show fa_L 94 = F_X11_take from cf_L_X11_take]; exact sl_ccL1 (sc_X11_take hst hb)⟩
    · exact ⟨yX11_give, cX11_give, 3, (sl_rt 1 ""), 1, 21, cy0_X11_give (sl_gw_at 1007 (by decide +kernel) (by decide +kernel)) ⟨by decide, by decide⟩, fun _ => rfl, by rw [show fa_L 106 = F_X11_give from cf_L_X11_give]; exact sl_ccL1 (sc_X11_give hst hb)⟩
    · exact ⟨yX11_thrown, cX11_thrown, 1, (sl_rt 1 ""), 0, 0, cy0_X11_thrown (sl_gw_at 952 (by decide +kernel) (by decide +kernel)) ⟨by decide, by decide⟩, fun _ => rfl, by rw [show fa_L 90 = F_X11_thrown from cf_L_X11_thrown]; exact sl_ccL1 (sc_X11_thrown hst hb)⟩
    · exact ⟨yX10_tick, cX10_tick, 1, (sl_rt 1 ""), 7, 162, cy0_X10_tick (sl_gw_at 451 (by decide +kernel) (by decide +kernel)) ⟨by decide, by decide⟩, fun _ => rfl, by rw [show fa_L 68 = F_X10_tick from cf_L_X10_tick]; exact sl_ccL1 (sc_X10_tick hst hb)⟩
    · exact ⟨yX11_tick, cX11_tick, 1, (sl_rt 1 ""), 5, 125, cy0_X11_tick (sl_gw_at 1015 (by decide +kernel) (by decide +kernel)) ⟨by decide, by decide⟩, fun _ => rfl, by rw [show fa_L 113 = F_X11_tick from cf_L_X11_tick]; exact sl_ccL1 (sc_X11_tick hst hb)⟩
    · exact ⟨yX11_carry, cX11_carry, 5, (sl_rt 1 ""), 7, 186, cy0_X11_carry (sl_gw_at 1035 (by decide +kernel) (by decide +kernel)) ⟨by decide, by decide⟩, fun _ => rfl, by rw [show fa_L 124 = F_X11_carry from cf_L_X11_carry]; exact sl_ccL1 (sc_X11_carry hst hb)⟩
    · exact ⟨yX10_round, cX10_round, 6, (sl_rt 1 ""), 7, 167, cy0_X10_round (sl_gw_at 527 (by decide +kernel) (by decide +kernel)) ⟨by decide, by decide⟩, fun _ => rfl, by rw [show fa_L 73 = F_X10_round from cf_L_X10_round]; exact sl_ccL1 (sc_X10_round hst hb)⟩
    · exact ⟨yX11_round, cX11_round, 4, (sl_rt 1 ""), 7, 186, cy0_X11_round (sl_gw_at 1087 (by decide +kernel) (by decide +kernel)) ⟨by decide, by decide⟩, fun _ => rfl, by rw [show fa_L 125 = F_X11_round from cf_L_X11_round]; exact sl_ccL1 (sc_X11_round hst hb)⟩
    · exact ⟨yX11_noise, cX11_noise, 5, (sl_rt 1 ""), 6, 157, cy0_X11_noise (sl_gw_at 1091 (by decide +kernel) (by decide +kernel)) ⟨by decide, by decide⟩, fun _ => rfl, by rw [show fa_L 126 = F_X11_noise from cf_L_X11_noise]; exact sl_ccL1 (sc_X11_noise hst hb)⟩
    · exact ⟨yX11_frame, cX11_frame, 5, (sl_rt 1 ""), 1, 22, cy0_X11_frame (sl_gw_at 1095 (by decide +kernel) (by decide +kernel)) ⟨by decide, by decide⟩, fun _ => rfl, by rw [show fa_L 128 = F_X11_frame from cf_L_X11_frame]; exact sl_ccL1 (sc_X11_frame hst hb)⟩
    · exact ⟨yX11_octet, cX11_octet, 5, (sl_rt 1 ""), 1, 22, cy0_X11_octet (sl_gw_at 1103 (by decide +kernel) (by decide +kernel)) ⟨by decide, by decide⟩, fun _ => rfl, by rw [show fa_L 129 = F_X11_octet from cf_L_X11_octet]; exact sl_ccL1 (sc_X11_octet hst hb)⟩
    · exact ⟨yX11_line, cX11_line, 2, (sl_rt 1 ""), 1, 21, cy0_X11_line (sl_gw_at 1107 (by decide +kernel) (by decide +kernel)) ⟨by decide, by decide⟩, fun _ => rfl, by rw [show fa_L 130 = F_X11_line from cf_L_X11_line]; exact sl_ccL1 (sc_X11_line hst hb)⟩
    · exact ⟨yX11_state, cX11_state, 5, (sl_rt 1 ""), 1, 21, cy0_X11_state (sl_gw_at 1111 (by decide +kernel) (by decide +kernel)) ⟨by decide, by decide⟩, fun _ => rfl, by rw [show fa_L 131 = F_X11_state from cf_L_X11_state]; exact sl_ccL1 (sc_X11_state hst hb)⟩
    · exact ⟨yX11_taken, cX11_taken, 3, (sl_rt 1 ""), 1, 21, cy0_X11_taken (sl_gw_at 1115 (by decide +kernel) (by decide +kernel)) ⟨by decide, by decide⟩, fun _ => rfl, by rw [show fa_L 132 = F_X11_taken from cf_L_X11_taken]; exact sl_ccL1 (sc_X11_taken hst hb)⟩
    · exact ⟨yX10_count, cX10_count, 2, (sl_rt 1 ""), 1, 21, cy0_X10_count (sl_gw_at 703 (by decide +kernel) (by decide +kernel)) ⟨by decide, by decide⟩, fun _ => rfl, by rw [show fa_L 80 = F_X10_count from cf_L_X10_count]; exact sl_ccL1 (sc_X10_count hst hb)⟩
    · exact ⟨yX11_count, cX11_count, 2, (sl_rt 1 ""), 0, 0, cy0_X11_count (sl_gw_at 1119 (by decide +kernel) (by decide +kernel)) ⟨by decide, by decide⟩, fun _ => rfl, by rw [show fa_L 133 = F_X11_count from cf_L_X11_count]; exact sl_ccL1 (sc_X11_count hst hb)⟩
    · exact ⟨yX10_stuff, cX10_stuff, 1, (sl_rt 1 ""), 2, 47, cy0_X10_stuff (sl_gw_at 711 (by decide +kernel) (by decide +kernel)) ⟨by decide, by decide⟩, fun _ => rfl, by rw [show fa_L 81 = F_X10_stuff from cf_L_X10_stuff]; exact sl_ccL1 (sc_X10_stuff hst hb)⟩
    · exact ⟨yX11_stuff, cX11_stuff, 2, (sl_rt 1 ""), 1, 28, cy0_X11_stuff (sl_gw_at 976 (by decide +kernel) (by decide +kernel)) ⟨by decide, by decide⟩, fun _ => rfl, by rw [show fa_L 100 = F_X11_stuff from cf_L_X11_stuff]; exact sl_ccL1 (sc_X11_stuff hst hb)⟩
    · exact ⟨yX10_unstuff, cX10_unstuff, 2, (sl_rt 1 ""), 2, 48, cy0_X10_unstuff (sl_gw_at 716 (by decide +kernel) (by decide +kernel)) ⟨by decide, by decide⟩, fun _ => rfl, by rw [show fa_L 82 = F_X10_unstuff from cf_L_X10_unstuff]; exact sl_ccL1 (sc_X10_unstuff hst hb)⟩
    · exact ⟨yX11_unstuff, cX11_unstuff, 4, (sl_rt 1 ""), 2, 49, cy0_X11_unstuff (sl_gw_at 983 (by decide +kernel) (by decide +kernel)) ⟨by decide, by decide⟩, fun _ => rfl, by rw [show fa_L 101 = F_X11_unstuff from cf_L_X11_unstuff]; exact sl_ccL1 (sc_X11_unstuff hst hb)⟩
    · exact ⟨yX10_fault, cX10_fault, 2, (sl_rt 1 ""), 0, 0, cy0_X10_fault (sl_gw_at 722 (by decide +kernel) (by decide +kernel)) ⟨by decide, by decide⟩, fun _ => rfl, by rw [show fa_L 83 = F_X10_fault from cf_L_X10_fault]; exact sl_ccL1 (sc_X10_fault hst hb)⟩
    · exact ⟨yX11_fault, cX11_fault, 2, (sl_rt 1 ""), 0, 0, cy0_X11_fault (sl_gw_at 995 (by decide +kernel) (by decide +kernel)) ⟨by decide, by decide⟩, fun _ => rfl, by rw [show fa_L 102 = F_X11_fault from cf_L_X11_fault]; exact sl_ccL1 (sc_X11_fault hst hb)⟩
    · exact ⟨yX10_check, cX10_check, 2, (sl_rt 1 ""), 2, 45, cy0_X10_check (sl_gw_at 726 (by decide +kernel) (by decide +kernel)) ⟨by decide, by decide⟩, fun _ => rfl, by rw [show fa_L 84 = F_X10_check from cf_L_X10_check]; exact sl_ccL1 (sc_X10_check hst hb)⟩
    · exact ⟨yX11_check, cX11_check, 2, (sl_rt 1 ""), 1, 26, cy0_X11_check (sl_gw_at 968 (by decide +kernel) (by decide +kernel)) ⟨by decide, by decide⟩, fun _ => rfl, by rw [show fa_L 96 = F_X11_check from cf_L_X11_check]; exact sl_ccL1 (sc_X11_check hst hb)⟩
    · exact ⟨yX10_out, cX10_out, 2, (sl_rt 1 ""), 1, 21, cy0_X10_out (sl_gw_at 731 (by decide +kernel) (by decide +kernel)) ⟨by decide, by decide⟩, fun _ => rfl, by rw [show fa_L 85 = F_X10_out from cf_L_X10_out]; exact sl_ccL1 (sc_X10_out hst hb)⟩
    · exact ⟨yX11_out, cX11_out, 2, (sl_rt 1 ""), 0, 0, cy0_X11_out (sl_gw_at 999 (by decide +kernel) (by decide +kernel)) ⟨by decide, by decide⟩, fun _ => rfl, by rw [show fa_L 103 = F_X11_out from cf_L_X11_out]; exact sl_ccL1 (sc_X11_out hst hb)⟩

