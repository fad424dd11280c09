-- par
section SLP5
variable {M : Type} {ad : Nat → Nat → Nat} {base NA : Nat} {Hb : Heap} {D : va_G} {cA : Nat → ClassId} {ln : Nat → Nat → Nat} {rd : M → Nat → Nat → Nat → sl_V} {VR : M → Nat × Nat → Prop} {MI : M → Prop} {cn sn : M → Nat} {l : Launch}
variable {wr : M → Nat → Nat → Nat → sl_V → Option M} {al : M → Nat → Int32 → Option ((Nat × Nat) × M)} {call : Nat → List sl_V → M → Option (sl_PL × M)}
theorem ok_X10_round : sl_okT cX10_round ck_X10 tb_X10_round 91 = true := by decide +kernel
theorem os_X10_round : sl_sT 6 1 0 1 [] [] [] [] [] tb_X10_round 91 = true := by decide +kernel
theorem gc_X10_round (hst : l.stackTraces = false) (hM : sl_Mem ad base NA ln rd VR cn wr al MI sn) (hMo : sl_Mo wr al cn sn) (hNA : ∀ m : M, NA ≤ cn m) (h_X4_nth : sl_CC ad base NA Hb D cA ln rd VR MI cn sn l 0 yX4_nth cX4_nth 2 (sl_rt 3 "SerialLink$Frame") 2 44 3 2 (call 19)) (h_X4_dropFirst : sl_CC ad base NA Hb D cA ln rd VR MI cn sn l 0 yX4_dropFirst cX4_dropFirst 1 (sl_rt 0 "") 0 0 0 0 (call 21)) (h_X10_tickBoth : sl_CC ad base NA Hb D cA ln rd VR MI cn sn l 0 yX10_tickBoth cX10_tickBoth 2 (sl_rt 1 "") 6 141 1 0 (call 69)) (h_X10_bring : sl_CC ad base NA Hb D cA ln rd VR MI cn sn l 0 yX10_bring cX10_bring 8 (sl_rt 0 "") 6 140 0 0 (call 72)) (h_X10_laneAt : sl_CC ad base NA Hb D cA ln rd VR MI cn sn l 1 yX10_laneAt cX10_laneAt 2 (sl_rt 3 "SerialLink$Lane") 6 82 2 4 (call 87)) (h_X10_hearerOf : sl_CC ad base NA Hb D cA ln rd VR MI cn sn l 0 yX10_hearerOf cX10_hearerOf 2 (sl_rt 3 "SerialLink$End") 0 0 2 1 (call 88)) :
    sl_CC ad base NA Hb D cA ln rd VR MI cn sn l 1 yX10_round cX10_round 6 (sl_rt 1 "") 7 167 1 0 (fun as m => sl_B tb_X10_round fl_X10 pf_X10 cl_X10_round nw_X10 rd wr al ln 0 (fun _ => 0) call sp_X10_round mk_X10_round 100000 (0, sl_lo 6 as, []) m) :=
  sl_mk (NT := 91) (NC := 159) (LC := [(121, (69, 1, 1, 0, 0, 11)), (130, (87, 2, 2, 4, 1, 11)), (134, (19, 2, 3, 2, 0, 5)), (142, (88, 2, 2, 1, 0, 11)), (150, (72, 5, 0, 0, 0, 0)), (158, (21, 1, 0, 0, 0, 5))]) hst hM hMo (fun _ => hNA) (plainFor_of_name (by decide +kernel)) (fun _ => by decide +kernel) (fun p h => by unfold tb_X10_round; rw [Nat.ble_eq.mpr h]; rfl) ok_X10_round os_X10_round
    (fun _ h => absurd h List.not_mem_nil)
    (fun _ h => absurd h List.not_mem_nil)
    (Or.inl rfl) (Or.inl rfl)
    (fun _ h => absurd h List.not_mem_nil)
    (Or.inl rfl)
    (fun _ h => absurd h List.not_mem_nil)
    (fun _ h => absurd h List.not_mem_nil)
    hfl_X10 hpf_X10 hnw_X10 (fun p h => by unfold cl_X10_round; rw [Nat.ble_eq.mpr h]; rfl) (by decide +kernel)
    (fun q h => by
    simp only [List.mem_cons, List.not_mem_nil, or_false] at h
    rcases h with rfl | rfl | rfl | rfl | rfl | rfl
    · exact ⟨yX10_tickBoth, cX10_tickBoth, 2, (sl_rt 1 ""), 6, 141, cy0_X10_tickBoth (sl_gw_at 455 (by decide +kernel) (by decide +kernel)) ⟨by decide, by decide⟩, fun h => absurd rfl h, h_X10_tickBoth⟩
    · exact ⟨yX10_laneAt, cX10_laneAt, 2, (sl_rt 3 "SerialLink$Lane"), 6, 82, cy0_X10_laneAt (sl_gw_at 531 (by decide +kernel) (by decide +kernel)) ⟨by decide, by decide⟩, fun h => ⟨rfl, by decide⟩, h_X10_laneAt⟩
    · exact ⟨yX4_nth, cX4_nth, 2, (sl_rt 3 "SerialLink$Frame"), 2, 44, cy0_X4_nth (sl_gw_at 600 (by decide +kernel) (by decide +kernel)) ⟨by decide, by decide⟩, fun h => absurd rfl h, h_X4_nth⟩
    · exact ⟨yX10_hearerOf, cX10_hearerOf, 2, (sl_rt 3 "SerialLink$End"), 0, 0, cy0_X10_hearerOf (sl_gw_at 604 (by decide +kernel) (by decide +kernel)) ⟨by decide, by decide⟩, fun h => absurd rfl h, h_X10_hearerOf⟩
    · exact ⟨yX10_bring, cX10_bring, 8, (sl_rt 0 ""), 6, 140, cy1_X10_bring (sl_gw_at 608 (by decide +kernel) (by decide +kernel)) ⟨by decide, by decide⟩, fun h => absurd rfl h, h_X10_bring⟩
    · exact ⟨yX4_dropFirst, cX4_dropFirst, 1, (sl_rt 0 ""), 0, 0, cy0_X4_dropFirst (sl_gw_at 699 (by decide +kernel) (by decide +kernel)) ⟨by decide, by decide⟩, fun h => absurd rfl h, h_X4_dropFirst⟩
    )
theorem ok_X10_noise : sl_okT cX10_noise ck_X10 tb_X10_noise 54 = true := by decide +kernel
theorem os_X10_noise : sl_sT 6 1 0 1 [] [] [] [] [] tb_X10_noise 54 = true := by decide +kernel
theorem gc_X10_noise (hst : l.stackTraces = false) (hM : sl_Mem ad base NA ln rd VR cn wr al MI sn) (hMo : sl_Mo wr al cn sn) (hNA : ∀ m : M, NA ≤ cn m) (h_X1_hear : sl_CC ad base NA Hb D cA ln rd VR MI cn sn l 0 yX1_hear cX1_hear 3 (sl_rt 0 "") 5 118 0 0 (call 6)) (h_X10_endAt : sl_CC ad base NA Hb D cA ln rd VR MI cn sn l 1 yX10_endAt cX10_endAt 2 (sl_rt 3 "SerialLink$End") 6 82 2 1 (call 86)) :
    sl_CC ad base NA Hb D cA ln rd VR MI cn sn l 1 yX10_noise cX10_noise 6 (sl_rt 1 "") 7 140 1 0 (fun as m => sl_B tb_X10_noise fl_X10 pf_X10 cl_X10_noise nw_X10 rd wr al ln 0 (fun _ => 0) call sp_X10_noise mk_X10_noise 100000 (0, sl_lo 6 as, []) m) :=
  sl_mk (NT := 54) (NC := 155) (LC := [(108, (86, 2, 2, 1, 1, 11)), (154, (6, 3, 0, 0, 0, 2))]) hst hM hMo (fun _ => hNA) (plainFor_of_name (by decide +kernel)) (fun _ => by decide +kernel) (fun p h => by unfold tb_X10_noise; rw [Nat.ble_eq.mpr h]; rfl) ok_X10_noise os_X10_noise
    (fun _ h => absurd h List.not_mem_nil)
    (fun _ h => absurd h List.not_mem_nil)
    (Or.inl rfl) (Or.inl rfl)
    (fun _ h => absurd h List.not_mem_nil)
    (Or.inl rfl)
    (fun _ h => absurd h List.not_mem_nil)
    (fun _ h => absurd h List.not_mem_nil)
    hfl_X10 hpf_X10 hnw_X10 (fun p h => by unfold cl_X10_noise; rw [Nat.ble_eq.mpr h]; rfl) (by decide +kernel)
    (fun q h => by
    simp only [List.mem_cons, List.not_mem_nil, or_false] at h
    rcases h with rfl | rfl
    · exact ⟨yX10_endAt, cX10_endAt, 2, (sl_rt 3 "SerialLink$End"), 6, 82, cy0_X10_endAt (sl_gw_at 743 (by decide +kernel) (by decide +kernel)) ⟨by decide, by decide⟩, fun h => ⟨rfl, by decide⟩, h_X10_endAt⟩
    · exact ⟨yX1_hear, cX1_hear, 3, (sl_rt 0 ""), 5, 118, cy0_X1_hear (sl_gw_at 612 (by decide +kernel) (by decide +kernel)) ⟨by decide, by decide⟩, fun h => absurd rfl h, h_X1_hear⟩
    )
theorem ok_X10_frame : sl_okT cX10_frame ck_X10 tb_X10_frame 95 = true := by decide +kernel
theorem os_X10_frame : sl_sT 5 1 0 1 [] [] [] [] [] tb_X10_frame 95 = true := by decide +kernel
theorem gc_X10_frame (hst : l.stackTraces = false) (hM : sl_Mem ad base NA ln rd VR cn wr al MI sn) (hMo : sl_Mo wr al cn sn) (hNA : ∀ m : M, NA ≤ cn m) (h_X4_nth : sl_CC ad base NA Hb D cA ln rd VR MI cn sn l 0 yX4_nth cX4_nth 2 (sl_rt 3 "SerialLink$Frame") 2 44 3 2 (call 19)) (h_X10_laneAt : sl_CC ad base NA Hb D cA ln rd VR MI cn sn l 1 yX10_laneAt cX10_laneAt 2 (sl_rt 3 "SerialLink$Lane") 6 82 2 4 (call 87)) :
    sl_CC ad base NA Hb D cA ln rd VR MI cn sn l 1 yX10_frame cX10_frame 5 (sl_rt 1 "") 7 103 1 0 (fun as m => sl_B tb_X10_frame fl_X10 pf_X10 cl_X10_frame nw_X10 rd wr al ln 0 (fun _ => 0) call sp_X10_frame mk_X10_frame 100000 (0, sl_lo 5 as, []) m) :=
  sl_mk (NT := 95) (NC := 135) (LC := [(130, (87, 2, 2, 4, 1, 11)), (134, (19, 2, 3, 2, 0, 5))]) hst hM hMo (fun _ => hNA) (plainFor_of_name (by decide +kernel)) (fun _ => by decide +kernel) (fun p h => by unfold tb_X10_frame; rw [Nat.ble_eq.mpr h]; rfl) ok_X10_frame os_X10_frame
    (fun _ h => absurd h List.not_mem_nil)
    (fun _ h => absurd h List.not_mem_nil)
    (Or.inl rfl) (Or.inl rfl)
    (fun _ h => absurd h List.not_mem_nil)
    (Or.inl rfl)
    (fun _ h => absurd h List.not_mem_nil)
    (fun _ h => absurd h List.not_mem_nil)
    hfl_X10 hpf_X10 hnw_X10 (fun p h => by unfold cl_X10_frame; rw [Nat.ble_eq.mpr h]; rfl) (by decide +kernel)
    (fun q h => by
    simp only [List.mem_cons, List.not_mem_nil, or_false] at h
    rcases h with rfl | rfl
    · exact ⟨yX10_laneAt, cX10_laneAt, 2, (sl_rt 3 "SerialLink$Lane"), 6, 82, cy0_X10_laneAt (sl_gw_at 531 (by decide +kernel) (by decide +kernel)) ⟨by decide, by decide⟩, fun h => ⟨rfl, by decide⟩, h_X10_laneAt⟩
    · exact ⟨yX4_nth, cX4_nth, 2, (sl_rt 3 "SerialLink$Frame"), 2, 44, cy0_X4_nth (sl_gw_at 600 (by decide +kernel) (by decide +kernel)) ⟨by decide, by decide⟩, fun h => absurd rfl h, h_X4_nth⟩
    )
theorem ok_X10_octet : sl_okT cX10_octet ck_X10 tb_X10_octet 30 = true := by decide +kernel
theorem os_X10_octet : sl_sT 5 1 0 1 [] [] [] [] [] tb_X10_octet 30 = true := by decide +kernel
theorem gc_X10_octet (hst : l.stackTraces = false) (hM : sl_Mem ad base NA ln rd VR cn wr al MI sn) (hMo : sl_Mo wr al cn sn) (hNA : ∀ m : M, NA ≤ cn m) (h_X4_nth : sl_CC ad base NA Hb D cA ln rd VR MI cn sn l 0 yX4_nth cX4_nth 2 (sl_rt 3 "SerialLink$Frame") 2 44 3 2 (call 19)) (h_X6_at : sl_CC ad base NA Hb D cA ln rd VR MI cn sn l 0 yX6_at cX6_at 2 (sl_rt 1 "") 0 0 1 0 (call 36)) (h_X10_laneAt : sl_CC ad base NA Hb D cA ln rd VR MI cn sn l 1 yX10_laneAt cX10_laneAt 2 (sl_rt 3 "SerialLink$Lane") 6 82 2 4 (call 87)) :
    sl_CC ad base NA Hb D cA ln rd VR MI cn sn l 1 yX10_octet cX10_octet 5 (sl_rt 1 "") 7 103 1 0 (fun as m => sl_B tb_X10_octet fl_X10 pf_X10 cl_X10_octet nw_X10 rd wr al ln 0 (fun _ => 0) call sp_X10_octet mk_X10_octet 100000 (0, sl_lo 5 as, []) m) :=
  sl_mk (NT := 30) (NC := 168) (LC := [(130, (87, 2, 2, 4, 1, 11)), (134, (19, 2, 3, 2, 0, 5)), (167, (36, 2, 1, 0, 0, 7))]) hst hM hMo (fun _ => hNA) (plainFor_of_name (by decide +kernel)) (fun _ => by decide +kernel) (fun p h => by unfold tb_X10_octet; rw [Nat.ble_eq.mpr h]; rfl) ok_X10_octet os_X10_octet
    (fun _ h => absurd h List.not_mem_nil)
    (fun _ h => absurd h List.not_mem_nil)
    (Or.inl rfl) (Or.inl rfl)
    (fun _ h => absurd h List.not_mem_nil)
    (Or.inl rfl)
    (fun _ h => absurd h List.not_mem_nil)
    (fun _ h => absurd h List.not_mem_nil)
    hfl_X10 hpf_X10 hnw_X10 (fun p h => by unfold cl_X10_octet; rw [Nat.ble_eq.mpr h]; rfl) (by decide +kernel)
    (fun q h => by
    simp only [List.mem_cons, List.not_mem_nil, or_false] at h
    rcases h with rfl | rfl | rfl
    · exact ⟨yX10_laneAt, cX10_laneAt, 2, (sl_rt 3 "SerialLink$Lane"), 6, 82, cy0_X10_laneAt (sl_gw_at 531 (by decide +kernel) (by decide +kernel)) ⟨by decide, by decide⟩, fun h => ⟨rfl, by decide⟩, h_X10_laneAt⟩
    · exact ⟨yX4_nth, cX4_nth, 2, (sl_rt 3 "SerialLink$Frame"), 2, 44, cy0_X4_nth (sl_gw_at 600 (by decide +kernel) (by decide +kernel)) ⟨by decide, by decide⟩, fun h => absurd rfl h, h_X4_nth⟩
    · exact ⟨yX6_at, cX6_at, 2, (sl_rt 1 ""), 0, 0, cy0_X6_at (sl_gw_at 611 (by decide +kernel) (by decide +kernel)) ⟨by decide, by decide⟩, fun h => absurd rfl h, h_X6_at⟩
    )
theorem ok_X10_line : sl_okT cX10_line ck_X10 tb_X10_line 9 = true := by decide +kernel
theorem os_X10_line : sl_sT 2 1 0 1 [] [] [] [] [] tb_X10_line 9 = true := by decide +kernel
theorem gc_X10_line (hst : l.stackTraces = false) (hM : sl_Mem ad base NA ln rd VR cn wr al MI sn) (hMo : sl_Mo wr al cn sn) (hNA : ∀ m : M, NA ≤ cn m) (h_X10_laneAt : sl_CC ad base NA Hb D cA ln rd VR MI cn sn l 1 yX10_laneAt cX10_laneAt 2 (sl_rt 3 "SerialLink$Lane") 6 82 2 4 (call 87)) :
    sl_CC ad base NA Hb D cA ln rd VR MI cn sn l 1 yX10_line cX10_line 2 (sl_rt 1 "") 7 103 1 0 (fun as m => sl_B tb_X10_line fl_X10 pf_X10 cl_X10_line nw_X10 rd wr al ln 0 (fun _ => 0) call sp_X10_line mk_X10_line 100000 (0, sl_lo 2 as, []) m) :=
  sl_mk (NT := 9) (NC := 131) (LC := [(130, (87, 2, 2, 4, 1, 11))]) hst hM hMo (fun _ => hNA) (plainFor_of_name (by decide +kernel)) (fun _ => by decide +kernel) (fun p h => by unfold tb_X10_line; rw [Nat.ble_eq.mpr h]; rfl) ok_X10_line os_X10_line
    (fun _ h => absurd h List.not_mem_nil)
    (fun _ h => absurd h List.not_mem_nil)
    (Or.inl rfl) (Or.inl rfl)
    (fun _ h => absurd h List.not_mem_nil)
    (Or.inl rfl)
    (fun _ h => absurd h List.not_mem_nil)
    (fun _ h => absurd h List.not_mem_nil)
    hfl_X10 hpf_X10 hnw_X10 (fun p h => by unfold cl_X10_line; rw [Nat.ble_eq.mpr h]; rfl) (by decide +kernel)
    (fun q h => by
    simp only [List.mem_cons, List.not_mem_nil, or_false] at h
    rcases h with rfl
    · exact ⟨yX10_laneAt, cX10_laneAt, 2, (sl_rt 3 "SerialLink$Lane"), 6, 82, cy0_X10_laneAt (sl_gw_at 531 (by decide +kernel) (by decide +kernel)) ⟨by decide, by decide⟩, fun h => ⟨rfl, by decide⟩, h_X10_laneAt⟩
    )
theorem ok_X10_state : sl_okT cX10_state ck_X10 tb_X10_state 148 = true := by decide +kernel
theorem os_X10_state : sl_sT 4 1 0 1 [] [] [] [] [] tb_X10_state 148 = true := by decide +kernel
theorem gc_X10_state (hst : l.stackTraces = false) (hM : sl_Mem ad base NA ln rd VR cn wr al MI sn) (hMo : sl_Mo wr al cn sn) (hNA : ∀ m : M, NA ≤ cn m) (h_X5_heldPieces : sl_CC ad base NA Hb D cA ln rd VR MI cn sn l 0 yX5_heldPieces cX5_heldPieces 3 (sl_rt 1 "") 0 0 1 0 (call 31)) (h_X7_keptPieces : sl_CC ad base NA Hb D cA ln rd VR MI cn sn l 0 yX7_keptPieces cX7_keptPieces 3 (sl_rt 1 "") 0 0 1 0 (call 49)) (h_X10_endAt : sl_CC ad base NA Hb D cA ln rd VR MI cn sn l 1 yX10_endAt cX10_endAt 2 (sl_rt 3 "SerialLink$End") 6 82 2 1 (call 86)) :
    sl_CC ad base NA Hb D cA ln rd VR MI cn sn l 1 yX10_state cX10_state 4 (sl_rt 1 "") 7 103 1 0 (fun as m => sl_B tb_X10_state fl_X10 pf_X10 cl_X10_state nw_X10 rd wr al ln 0 (fun _ => 0) call sp_X10_state mk_X10_state 100000 (0, sl_lo 4 as, []) m) :=
  sl_mk (NT := 148) (NC := 212) (LC := [(108, (86, 2, 2, 1, 1, 11)), (205, (31, 1, 1, 0, 0, 6)), (211, (49, 1, 1, 0, 0, 8))]) hst hM hMo (fun _ => hNA) (plainFor_of_name (by decide +kernel)) (fun _ => by decide +kernel) (fun p h => by unfold tb_X10_state; rw [Nat.ble_eq.mpr h]; rfl) ok_X10_state os_X10_state
    (fun _ h => absurd h List.not_mem_nil)
    (fun _ h => absurd h List.not_mem_nil)
    (Or.inl rfl) (Or.inl rfl)
    (fun _ h => absurd h List.not_mem_nil)
    (Or.inl rfl)
    (fun _ h => absurd h List.not_mem_nil)
    (fun _ h => absurd h List.not_mem_nil)
    hfl_X10 hpf_X10 hnw_X10 (fun p h => by unfold cl_X10_state; rw [Nat.ble_eq.mpr h]; rfl) (by decide +kernel)
    (fun q h => by
    simp only [List.mem_cons, List.not_mem_nil, or_false] at h
    rcases h with rfl | rfl | rfl
    · exact ⟨yX10_endAt, cX10_endAt, 2, (sl_rt 3 "SerialLink$End"), 6, 82, cy0_X10_endAt (sl_gw_at 743 (by decide +kernel) (by decide +kernel)) ⟨by decide, by decide⟩, fun h => ⟨rfl, by decide⟩, h_X10_endAt⟩
    · exact ⟨yX5_heldPieces, cX5_heldPieces, 3, (sl_rt 1 ""), 0, 0, cy0_X5_heldPieces (sl_gw_at 793 (by decide +kernel) (by decide +kernel)) ⟨by decide, by decide⟩, fun h => absurd rfl h, h_X5_heldPieces⟩
    · exact ⟨yX7_keptPieces, cX7_keptPieces, 3, (sl_rt 1 ""), 0, 0, cy0_X7_keptPieces (sl_gw_at 797 (by decide +kernel) (by decide +kernel)) ⟨by decide, by decide⟩, fun h => absurd rfl h, h_X7_keptPieces⟩
    )
theorem ok_X10_taken : sl_okT cX10_taken ck_X10 tb_X10_taken 16 = true := by decide +kernel
theorem os_X10_taken : sl_sT 3 1 0 1 [] [] [] [] [] tb_X10_taken 16 = true := by decide +kernel
theorem gc_X10_taken (hst : l.stackTraces = false) (hM : sl_Mem ad base NA ln rd VR cn wr al MI sn) (hMo : sl_Mo wr al cn sn) (hNA : ∀ m : M, NA ≤ cn m) (h_X6_at : sl_CC ad base NA Hb D cA ln rd VR MI cn sn l 0 yX6_at cX6_at 2 (sl_rt 1 "") 0 0 1 0 (call 36)) (h_X10_endAt : sl_CC ad base NA Hb D cA ln rd VR MI cn sn l 1 yX10_endAt cX10_endAt 2 (sl_rt 3 "SerialLink$End") 6 82 2 1 (call 86)) :
    sl_CC ad base NA Hb D cA ln rd VR MI cn sn l 1 yX10_taken cX10_taken 3 (sl_rt 1 "") 7 103 1 0 (fun as m => sl_B tb_X10_taken fl_X10 pf_X10 cl_X10_taken nw_X10 rd wr al ln 0 (fun _ => 0) call sp_X10_taken mk_X10_taken 100000 (0, sl_lo 3 as, []) m) :=
  sl_mk (NT := 16) (NC := 168) (LC := [(108, (86, 2, 2, 1, 1, 11)), (167, (36, 2, 1, 0, 0, 7))]) hst hM hMo (fun _ => hNA) (plainFor_of_name (by decide +kernel)) (fun _ => by decide +kernel) (fun p h => by unfold tb_X10_taken; rw [Nat.ble_eq.mpr h]; rfl) ok_X10_taken os_X10_taken
    (fun _ h => absurd h List.not_mem_nil)
    (fun _ h => absurd h List.not_mem_nil)
    (Or.inl rfl) (Or.inl rfl)
    (fun _ h => absurd h List.not_mem_nil)
    (Or.inl rfl)
    (fun _ h => absurd h List.not_mem_nil)
    (fun _ h => absurd h List.not_mem_nil)
    hfl_X10 hpf_X10 hnw_X10 (fun p h => by unfold cl_X10_taken; rw [Nat.ble_eq.mpr h]; rfl) (by decide +kernel)
    (fun q h => by
    simp only [List.mem_cons, List.not_mem_nil, or_false] at h
    rcases h with rfl | rfl
    · exact ⟨yX10_endAt, cX10_endAt, 2, (sl_rt 3 "SerialLink$End"), 6, 82, cy0_X10_endAt (sl_gw_at 743 (by decide +kernel) (by decide +kernel)) ⟨by decide, by decide⟩, fun h => ⟨rfl, by decide⟩, h_X10_endAt⟩
    · exact ⟨yX6_at, cX6_at, 2, (sl_rt 1 ""), 0, 0, cy0_X6_at (sl_gw_at 611 (by decide +kernel) (by decide +kernel)) ⟨by decide, by decide⟩, fun h => absurd rfl h, h_X6_at⟩
    )
theorem ok_X10_count : sl_okT cX10_count ck_X10 tb_X10_count 9 = true := by decide +kernel
theorem os_X10_count : sl_sT 2 1 0 1 [] [] [] [] [] tb_X10_count 9 = true := by decide +kernel
theorem gc_X10_count (hst : l.stackTraces = false) (hM : sl_Mem ad base NA ln rd VR cn wr al MI sn) (hMo : sl_Mo wr al cn sn) (h_X9_of : sl_CC ad base NA Hb D cA ln rd VR MI cn sn l 0 yX9_of cX9_of 2 (sl_rt 1 "") 0 0 1 0 (call 60)) :
    sl_CC ad base NA Hb D cA ln rd VR MI cn sn l 0 yX10_count cX10_count 2 (sl_rt 1 "") 1 21 1 0 (fun as m => sl_B tb_X10_count fl_X10 pf_X10 cl_X10_count nw_X10 rd wr al ln 0 (fun _ => 0) call sp_X10_count mk_X10_count 100000 (0, sl_lo 2 as, []) m) :=
  sl_mk (NT := 9) (NC := 215) (LC := [(214, (60, 2, 1, 0, 0, 10))]) hst hM hMo (fun h => absurd rfl h) (plainFor_of_name (by decide +kernel)) (fun _ => by decide +kernel) (fun p h => by unfold tb_X10_count; rw [Nat.ble_eq.mpr h]; rfl) ok_X10_count os_X10_count
    (fun _ h => absurd h List.not_mem_nil)
    (fun _ h => absurd h List.not_mem_nil)
    (Or.inl rfl) (Or.inl rfl)
    (fun _ h => absurd h List.not_mem_nil)
    (Or.inl rfl)
    (fun _ h => absurd h List.not_mem_nil)
    (fun _ h => absurd h List.not_mem_nil)
    hfl_X10 hpf_X10 hnw_X10 (fun p h => by unfold cl_X10_count; rw [Nat.ble_eq.mpr h]; rfl) (by decide +kernel)
    (fun q h => by
    simp only [List.mem_cons, List.not_mem_nil, or_false] at h
    rcases h with rfl
    · exact ⟨yX9_of, cX9_of, 2, (sl_rt 1 ""), 0, 0, cy0_X9_of (sl_gw_at 707 (by decide +kernel) (by decide +kernel)) ⟨by decide, by decide⟩, fun h => absurd rfl h, h_X9_of⟩
    )
theorem ok_X10_stuff : sl_okT cX10_stuff ck_X10 tb_X10_stuff 26 = true := by decide +kernel
theorem os_X10_stuff : sl_sT 1 1 0 1 [] [] [] [] [] tb_X10_stuff 26 = true := by decide +kernel
theorem gc_X10_stuff (hst : l.stackTraces = false) (hM : sl_Mem ad base NA ln rd VR cn wr al MI sn) (hMo : sl_Mo wr al cn sn) (h_X0_pack : sl_CC ad base NA Hb D cA ln rd VR MI cn sn l 0 yX0_pack cX0_pack 6 (sl_rt 0 "") 1 22 0 0 (call 1)) (h_X6_clear : sl_CC ad base NA Hb D cA ln rd VR MI cn sn l 0 yX6_clear cX6_clear 1 (sl_rt 0 "") 0 0 0 0 (call 33)) :
    sl_CC ad base NA Hb D cA ln rd VR MI cn sn l 0 yX10_stuff cX10_stuff 1 (sl_rt 1 "") 2 47 1 0 (fun as m => sl_B tb_X10_stuff fl_X10 pf_X10 cl_X10_stuff nw_X10 rd wr al ln 0 (fun _ => 0) call sp_X10_stuff mk_X10_stuff 100000 (0, sl_lo 1 as, []) m) :=
  sl_mk (NT := 26) (NC := 218) (LC := [(97, (33, 1, 0, 0, 0, 7)), (217, (1, 2, 0, 0, 0, 0))]) hst hM hMo (fun h => absurd rfl h) (plainFor_of_name (by decide +kernel)) (fun _ => by decide +kernel) (fun p h => by unfold tb_X10_stuff; rw [Nat.ble_eq.mpr h]; rfl) ok_X10_stuff os_X10_stuff
    (fun _ h => absurd h List.not_mem_nil)
    (fun _ h => absurd h List.not_mem_nil)
    (Or.inl rfl) (Or.inl rfl)
    (fun _ h => absurd h List.not_mem_nil)
    (Or.inl rfl)
    (fun _ h => absurd h List.not_mem_nil)
    (fun _ h => absurd h List.not_mem_nil)
    hfl_X10 hpf_X10 hnw_X10 (fun p h => by unfold cl_X10_stuff; rw [Nat.ble_eq.mpr h]; rfl) (by decide +kernel)
    (fun q h => by
    simp only [List.mem_cons, List.not_mem_nil, or_false] at h
    rcases h with rfl | rfl
    · exact ⟨yX6_clear, cX6_clear, 1, (sl_rt 0 ""), 0, 0, cy0_X6_clear (sl_gw_at 440 (by decide +kernel) (by decide +kernel)) ⟨by decide, by decide⟩, fun h => absurd rfl h, h_X6_clear⟩
    · exact ⟨yX0_pack, cX0_pack, 6, (sl_rt 0 ""), 1, 22, cy1_X0_pack (sl_gw_at 715 (by decide +kernel) (by decide +kernel)) ⟨by decide, by decide⟩, fun h => absurd rfl h, h_X0_pack⟩
    )
theorem ok_X10_unstuff : sl_okT cX10_unstuff ck_X10 tb_X10_unstuff 50 = true := by decide +kernel
theorem os_X10_unstuff : sl_sT 2 1 0 1 [] [] [] [] [] tb_X10_unstuff 50 = true := by decide +kernel
theorem gc_X10_unstuff (hst : l.stackTraces = false) (hM : sl_Mem ad base NA ln rd VR cn wr al MI sn) (hMo : sl_Mo wr al cn sn) (h_X0_unpack : sl_CC ad base NA Hb D cA ln rd VR MI cn sn l 0 yX0_unpack cX0_unpack 6 (sl_rt 0 "") 1 21 0 0 (call 2)) (h_X3_isSound : sl_CC ad base NA Hb D cA ln rd VR MI cn sn l 0 yX3_isSound cX3_isSound 7 (sl_rt 2 "") 1 22 1 0 (call 15)) (h_X6_clear : sl_CC ad base NA Hb D cA ln rd VR MI cn sn l 0 yX6_clear cX6_clear 1 (sl_rt 0 "") 0 0 0 0 (call 33)) :
    sl_CC ad base NA Hb D cA ln rd VR MI cn sn l 0 yX10_unstuff cX10_unstuff 2 (sl_rt 1 "") 2 48 1 0 (fun as m => sl_B tb_X10_unstuff fl_X10 pf_X10 cl_X10_unstuff nw_X10 rd wr al ln 0 (fun _ => 0) call sp_X10_unstuff mk_X10_unstuff 100000 (0, sl_lo 2 as, []) m) :=
  sl_mk (NT := 50) (NC := 228) (LC := [(97, (33, 1, 0, 0, 0, 7)), (223, (15, 2, 1, 0, 0, 4)), (227, (2, 2, 0, 0, 0, 0))]) hst hM hMo (fun h => absurd rfl h) (plainFor_of_name (by decide +kernel)) (fun _ => by decide +kernel) (fun p h => by unfold tb_X10_unstuff; rw [Nat.ble_eq.mpr h]; rfl) ok_X10_unstuff os_X10_unstuff
    (fun _ h => absurd h List.not_mem_nil)
    (fun _ h => absurd h List.not_mem_nil)
    (Or.inl rfl) (Or.inl rfl)
    (fun _ h => absurd h List.not_mem_nil)
    (Or.inl rfl)
    (fun _ h => absurd h List.not_mem_nil)
    (fun _ h => absurd h List.not_mem_nil)
    hfl_X10 hpf_X10 hnw_X10 (fun p h => by unfold cl_X10_unstuff; rw [Nat.ble_eq.mpr h]; rfl) (by decide +kernel)
    (fun q h => by
    simp only [List.mem_cons, List.not_mem_nil, or_false] at h
    rcases h with rfl | rfl | rfl
    · exact ⟨yX6_clear, cX6_clear, 1, (sl_rt 0 ""), 0, 0, cy0_X6_clear (sl_gw_at 440 (by decide +kernel) (by decide +kernel)) ⟨by decide, by decide⟩, fun h => absurd rfl h, h_X6_clear⟩
    · exact ⟨yX3_isSound, cX3_isSound, 7, (sl_rt 2 ""), 1, 22, cy0_X3_isSound (sl_gw_at 720 (by decide +kernel) (by decide +kernel)) ⟨by decide, by decide⟩, fun h => absurd rfl h, h_X3_isSound⟩
    · exact ⟨yX0_unpack, cX0_unpack, 6, (sl_rt 0 ""), 1, 21, cy1_X0_unpack (sl_gw_at 721 (by decide +kernel) (by decide +kernel)) ⟨by decide, by decide⟩, fun h => absurd rfl h, h_X0_unpack⟩
    )
theorem ok_X10_fault : sl_okT cX10_fault ck_X10 tb_X10_fault 29 = true := by decide +kernel
theorem os_X10_fault : sl_sT 2 1 0 1 [] [] [] [] [] tb_X10_fault 29 = true := by decide +kernel
theorem gc_X10_fault (hst : l.stackTraces = false) (hM : sl_Mem ad base NA ln rd VR cn wr al MI sn) (hMo : sl_Mo wr al cn sn)  :
    sl_CC ad base NA Hb D cA ln rd VR MI cn sn l 0 yX10_fault cX10_fault 2 (sl_rt 1 "") 0 0 1 0 (fun as m => sl_B tb_X10_fault fl_X10 pf_X10 cl_X10_fault nw_X10 rd wr al ln 0 (fun _ => 0) call sp_X10_fault mk_X10_fault 100000 (0, sl_lo 2 as, []) m) :=
  sl_mk (NT := 29) (NC := 0) (LC := []) hst hM hMo (fun h => absurd rfl h) (plainFor_of_name (by decide +kernel)) (fun _ => by decide +kernel) (fun p h => by unfold tb_X10_fault; rw [Nat.ble_eq.mpr h]; rfl) ok_X10_fault os_X10_fault
    (fun _ h => absurd h List.not_mem_nil)
    (fun _ h => absurd h List.not_mem_nil)
    (Or.inl rfl) (Or.inl rfl)
    (fun _ h => absurd h List.not_mem_nil)
    (Or.inl rfl)
    (fun _ h => absurd h List.not_mem_nil)
    (fun _ h => absurd h List.not_mem_nil)
    hfl_X10 hpf_X10 hnw_X10 (fun p _ => rfl) (by decide +kernel)
    (fun _ h => absurd h List.not_mem_nil)
theorem ok_X10_check : sl_okT cX10_check ck_X10 tb_X10_check 24 = true := by decide +kernel
theorem os_X10_check : sl_sT 2 1 0 1 [] [] [] [] [] tb_X10_check 24 = true := by decide +kernel
theorem gc_X10_check (hst : l.stackTraces = false) (hM : sl_Mem ad base NA ln rd VR cn wr al MI sn) (hMo : sl_Mo wr al cn sn) (h_X0_checkOf : sl_CC ad base NA Hb D cA ln rd VR MI cn sn l 0 yX0_checkOf cX0_checkOf 5 (sl_rt 1 "") 1 21 1 0 (call 0)) (h_X6_clear : sl_CC ad base NA Hb D cA ln rd VR MI cn sn l 0 yX6_clear cX6_clear 1 (sl_rt 0 "") 0 0 0 0 (call 33)) :
    sl_CC ad base NA Hb D cA ln rd VR MI cn sn l 0 yX10_check cX10_check 2 (sl_rt 1 "") 2 45 1 0 (fun as m => sl_B tb_X10_check fl_X10 pf_X10 cl_X10_check nw_X10 rd wr al ln 0 (fun _ => 0) call sp_X10_check mk_X10_check 100000 (0, sl_lo 2 as, []) m) :=
  sl_mk (NT := 24) (NC := 237) (LC := [(97, (33, 1, 0, 0, 0, 7)), (236, (0, 2, 1, 0, 0, 0))]) hst hM hMo (fun h => absurd rfl h) (plainFor_of_name (by decide +kernel)) (fun _ => by decide +kernel) (fun p h => by unfold tb_X10_check; rw [Nat.ble_eq.mpr h]; rfl) ok_X10_check os_X10_check
    (fun _ h => absurd h List.not_mem_nil)
    (fun _ h => absurd h List.not_mem_nil)
    (Or.inl rfl) (Or.inl rfl)
    (fun _ h => absurd h List.not_mem_nil)
    (Or.inl rfl)
    (fun _ h => absurd h List.not_mem_nil)
    (fun _ h => absurd h List.not_mem_nil)
    hfl_X10 hpf_X10 hnw_X10 (fun p h => by unfold cl_X10_check; rw [Nat.ble_eq.mpr h]; rfl) (by decide +kernel)
    (fun q h => by
    simp only [List.mem_cons, List.not_mem_nil, or_false] at h
    rcases h with rfl | rfl
    · exact ⟨yX6_clear, cX6_clear, 1, (sl_rt 0 ""), 0, 0, cy0_X6_clear (sl_gw_at 440 (by decide +kernel) (by decide +kernel)) ⟨by decide, by decide⟩, fun h => absurd rfl h, h_X6_clear⟩
    · exact ⟨yX0_checkOf, cX0_checkOf, 5, (sl_rt 1 ""), 1, 21, cy1_X0_checkOf (sl_gw_at 730 (by decide +kernel) (by decide +kernel)) ⟨by decide, by decide⟩, fun h => absurd rfl h, h_X0_checkOf⟩
    )
theorem ok_X10_out : sl_okT cX10_out ck_X10 tb_X10_out 9 = true := by decide +kernel
theorem os_X10_out : sl_sT 2 1 0 1 [] [] [] [] [] tb_X10_out 9 = true := by decide +kernel
theorem gc_X10_out (hst : l.stackTraces = false) (hM : sl_Mem ad base NA ln rd VR cn wr al MI sn) (hMo : sl_Mo wr al cn sn) (h_X6_at : sl_CC ad base NA Hb D cA ln rd VR MI cn sn l 0 yX6_at cX6_at 2 (sl_rt 1 "") 0 0 1 0 (call 36)) :
    sl_CC ad base NA Hb D cA ln rd VR MI cn sn l 0 yX10_out cX10_out 2 (sl_rt 1 "") 1 21 1 0 (fun as m => sl_B tb_X10_out fl_X10 pf_X10 cl_X10_out nw_X10 rd wr al ln 0 (fun _ => 0) call sp_X10_out mk_X10_out 100000 (0, sl_lo 2 as, []) m) :=
  sl_mk (NT := 9) (NC := 168) (LC := [(167, (36, 2, 1, 0, 0, 7))]) hst hM hMo (fun h => absurd rfl h) (plainFor_of_name (by decide +kernel)) (fun _ => by decide +kernel) (fun p h => by unfold tb_X10_out; rw [Nat.ble_eq.mpr h]; rfl) ok_X10_out os_X10_out
    (fun _ h => absurd h List.not_mem_nil)
    (fun _ h => absurd h List.not_mem_nil)
    (Or.inl rfl) (Or.inl rfl)
    (fun _ h => absurd h List.not_mem_nil)
    (Or.inl rfl)
    (fun _ h => absurd h List.not_mem_nil)
    (fun _ h => absurd h List.not_mem_nil)
    hfl_X10 hpf_X10 hnw_X10 (fun p h => by unfold cl_X10_out; rw [Nat.ble_eq.mpr h]; rfl) (by decide +kernel)
    (fun q h => by
    simp only [List.mem_cons, List.not_mem_nil, or_false] at h
    rcases h with rfl
    · exact ⟨yX6_at, cX6_at, 2, (sl_rt 1 ""), 0, 0, cy0_X6_at (sl_gw_at 611 (by decide +kernel) (by decide +kernel)) ⟨by decide, by decide⟩, fun h => absurd rfl h, h_X6_at⟩
    )
theorem ok_X11_thrown : sl_okT cX11_thrown ck_X11 tb_X11_thrown 5 = true := by decide +kernel
theorem os_X11_thrown : sl_sT 1 1 0 1 [] [] [] [] [] tb_X11_thrown 5 = true := by decide +kernel
theorem gc_X11_thrown (hst : l.stackTraces = false) (hM : sl_Mem ad base NA ln rd VR cn wr al MI sn) (hMo : sl_Mo wr al cn sn)  :
    sl_CC ad base NA Hb D cA ln rd VR MI cn sn l 0 yX11_thrown cX11_thrown 1 (sl_rt 1 "") 0 0 1 0 (fun as m => sl_B tb_X11_thrown fl_X11 pf_X11 cl_X11_thrown nw_X11 rd wr al ln 0 (fun _ => 0) call sp_X11_thrown mk_X11_thrown 100000 (0, sl_lo 1 as, []) m) :=
  sl_mk (NT := 5) (NC := 0) (LC := []) hst hM hMo (fun h => absurd rfl h) (plainFor_of_name (by decide +kernel)) (fun _ => by decide +kernel) (fun p h => by unfold tb_X11_thrown; rw [Nat.ble_eq.mpr h]; rfl) ok_X11_thrown os_X11_thrown
    (fun _ h => absurd h List.not_mem_nil)
    (fun _ h => absurd h List.not_mem_nil)
    (Or.inl rfl) (Or.inl rfl)
    (fun _ h => absurd h List.not_mem_nil)
    (Or.inl rfl)
    (fun _ h => absurd h List.not_mem_nil)
    (fun _ h => absurd h List.not_mem_nil)
    hfl_X11 hpf_X11 hnw_X11 (fun p _ => rfl) (by decide +kernel)
    (fun _ h => absurd h List.not_mem_nil)
theorem ok_X11_isOut : sl_okT cX11_isOut ck_X11 tb_X11_isOut 32 = true := by decide +kernel
theorem os_X11_isOut : sl_sT 2 1 0 2 [] [] [] [] [] tb_X11_isOut 32 = true := by decide +kernel
theorem gc_X11_isOut (hst : l.stackTraces = false) (hM : sl_Mem ad base NA ln rd VR cn wr al MI sn) (hMo : sl_Mo wr al cn sn)  :
    sl_CC ad base NA Hb D cA ln rd VR MI cn sn l 0 yX11_isOut cX11_isOut 2 (sl_rt 2 "") 0 0 1 0 (fun as m => sl_B tb_X11_isOut fl_X11 pf_X11 cl_X11_isOut nw_X11 rd wr al ln 0 (fun _ => 0) call sp_X11_isOut mk_X11_isOut 100000 (0, sl_lo 2 as, []) m) :=
  sl_mk (NT := 32) (NC := 0) (LC := []) hst hM hMo (fun h => absurd rfl h) (plainFor_of_name (by decide +kernel)) (fun _ => by decide +kernel) (fun p h => by unfold tb_X11_isOut; rw [Nat.ble_eq.mpr h]; rfl) ok_X11_isOut os_X11_isOut
    (fun _ h => absurd h List.not_mem_nil)
    (fun _ h => absurd h List.not_mem_nil)
    (Or.inl rfl) (Or.inl rfl)
    (fun _ h => absurd h List.not_mem_nil)
    (Or.inl rfl)
    (fun _ h => absurd h List.not_mem_nil)
    (fun _ h => absurd h List.not_mem_nil)
    hfl_X11 hpf_X11 hnw_X11 (fun p _ => rfl) (by decide +kernel)
    (fun _ h => absurd h List.not_mem_nil)
theorem ok_X11_feed : sl_okT cX11_feed ck_X11 tb_X11_feed 159 = true := by decide +kernel
theorem os_X11_feed : sl_sT 8 1 0 1 [] [] [] [] [] tb_X11_feed 159 = true := by decide +kernel
theorem gc_X11_feed (hst : l.stackTraces = false) (hM : sl_Mem ad base NA ln rd VR cn wr al MI sn) (hMo : sl_Mo wr al cn sn)  :
    sl_CC ad base NA Hb D cA ln rd VR MI cn sn l 0 yX11_feed cX11_feed 8 (sl_rt 1 "") 0 0 1 0 (fun as m => sl_B tb_X11_feed fl_X11 pf_X11 cl_X11_feed nw_X11 rd wr al ln 0 (fun _ => 0) call sp_X11_feed mk_X11_feed 100000 (0, sl_lo 8 as, []) m) :=
  sl_mk (NT := 159) (NC := 0) (LC := []) hst hM hMo (fun h => absurd rfl h) (plainFor_of_name (by decide +kernel)) (fun _ => by decide +kernel) (fun p h => by unfold tb_X11_feed; rw [Nat.ble_eq.mpr h]; rfl) ok_X11_feed os_X11_feed
    (fun _ h => absurd h List.not_mem_nil)
    (fun _ h => absurd h List.not_mem_nil)
    (Or.inl rfl) (Or.inl rfl)
    (fun _ h => absurd h List.not_mem_nil)
    (Or.inl rfl)
    (fun _ h => absurd h List.not_mem_nil)
    (fun _ h => absurd h List.not_mem_nil)
    hfl_X11 hpf_X11 hnw_X11 (fun p _ => rfl) (by decide +kernel)
    (fun _ h => absurd h List.not_mem_nil)
theorem ok_X11_cut : sl_okT cX11_cut ck_X11 tb_X11_cut 26 = true := by decide +kernel
theorem os_X11_cut : sl_sT 2 1 0 2 [] [] [] [] [] tb_X11_cut 26 = true := by decide +kernel
theorem gc_X11_cut (hst : l.stackTraces = false) (hM : sl_Mem ad base NA ln rd VR cn wr al MI sn) (hMo : sl_Mo wr al cn sn)  :
    sl_CC ad base NA Hb D cA ln rd VR MI cn sn l 0 yX11_cut cX11_cut 2 (sl_rt 2 "") 0 0 1 0 (fun as m => sl_B tb_X11_cut fl_X11 pf_X11 cl_X11_cut nw_X11 rd wr al ln 0 (fun _ => 0) call sp_X11_cut mk_X11_cut 100000 (0, sl_lo 2 as, []) m) :=
  sl_mk (NT := 26) (NC := 0) (LC := []) hst hM hMo (fun h => absurd rfl h) (plainFor_of_name (by decide +kernel)) (fun _ => by decide +kernel) (fun p h => by unfold tb_X11_cut; rw [Nat.ble_eq.mpr h]; rfl) ok_X11_cut os_X11_cut
    (fun _ h => absurd h List.not_mem_nil)
    (fun _ h => absurd h List.not_mem_nil)
    (Or.inl rfl) (Or.inl rfl)
    (fun _ h => absurd h List.not_mem_nil)
    (Or.inl rfl)
    (fun _ h => absurd h List.not_mem_nil)
    (fun _ h => absurd h List.not_mem_nil)
    hfl_X11 hpf_X11 hnw_X11 (fun p _ => rfl) (by decide +kernel)
    (fun _ h => absurd h List.not_mem_nil)
theorem ok_X11_take : sl_okT cX11_take ck_X11 tb_X11_take 62 = true := by decide +kernel
theorem os_X11_take : sl_sT 2 1 0 1 [] [] [] [] [] tb_X11_take 62 = true := by decide +kernel
theorem gc_X11_take (hst : l.stackTraces = false) (hM : sl_Mem ad base NA ln rd VR cn wr al MI sn) (hMo : sl_Mo wr al cn sn)  :
    sl_CC ad base NA Hb D cA ln rd VR MI cn sn l 0 yX11_take cX11_take 2 (sl_rt 1 "") 0 0 1 0 (fun as m => sl_B tb_X11_take fl_X11 pf_X11 cl_X11_take nw_X11 rd wr al ln 0 (fun _ => 0) call sp_X11_take mk_X11_take 100000 (0, sl_lo 2 as, []) m) :=
  sl_mk (NT := 62) (NC := 0) (LC := []) hst hM hMo (fun h => absurd rfl h) (plainFor_of_name (by decide +kernel)) (fun _ => by decide +kernel) (fun p h => by unfold tb_X11_take; rw [Nat.ble_eq.mpr h]; rfl) ok_X11_take os_X11_take
    (fun _ h => absurd h List.not_mem_nil)
    (fun _ h => absurd h List.not_mem_nil)
    (Or.inl rfl) (Or.inl rfl)
    (fun _ h => absurd h List.not_mem_nil)
    (Or.inl rfl)
    (fun _ h => absurd h List.not_mem_nil)
    (fun _ h => absurd h List.not_mem_nil)
    hfl_X11 hpf_X11 hnw_X11 (fun p _ => rfl) (by decide +kernel)
    (fun _ h => absurd h List.not_mem_nil)
theorem ok_X11_checkOf : sl_okT cX11_checkOf ck_X11 tb_X11_checkOf 73 = true := by decide +kernel
theorem os_X11_checkOf : sl_sT 7 1 0 1 [] [] [] [] [] tb_X11_checkOf 73 = true := by decide +kernel
theorem gc_X11_checkOf (hst : l.stackTraces = false) (hM : sl_Mem ad base NA ln rd VR cn wr al MI sn) (hMo : sl_Mo wr al cn sn)  :
    sl_CC ad base NA Hb D cA ln rd VR MI cn sn l 0 yX11_checkOf cX11_checkOf 7 (sl_rt 1 "") 0 0 1 0 (fun as m => sl_B tb_X11_checkOf fl_X11 pf_X11 cl_X11_checkOf nw_X11 rd wr al ln 0 (fun _ => 0) call sp_X11_checkOf mk_X11_checkOf 100000 (0, sl_lo 7 as, []) m) :=
  sl_mk (NT := 73) (NC := 0) (LC := []) hst hM hMo (fun h => absurd rfl h) (plainFor_of_name (by decide +kernel)) (fun _ => by decide +kernel) (fun p h => by unfold tb_X11_checkOf; rw [Nat.ble_eq.mpr h]; rfl) ok_X11_checkOf os_X11_checkOf
    (fun _ h => absurd h List.not_mem_nil)
    (fun _ h => absurd h List.not_mem_nil)
    (Or.inl rfl) (Or.inl rfl)
    (fun _ h => absurd h List.not_mem_nil)
    (Or.inl rfl)
    (fun _ h => absurd h List.not_mem_nil)
    (fun _ h => absurd h List.not_mem_nil)
    hfl_X11 hpf_X11 hnw_X11 (fun p _ => rfl) (by decide +kernel)
    (fun _ h => absurd h List.not_mem_nil)
theorem ok_X11_check : sl_okT cX11_check ck_X11 tb_X11_check 26 = true := by decide +kernel
theorem os_X11_check : sl_sT 2 1 0 1 [] [] [] [] [] tb_X11_check 26 = true := by decide +kernel
theorem gc_X11_check (hst : l.stackTraces = false) (hM : sl_Mem ad base NA ln rd VR cn wr al MI sn) (hMo : sl_Mo wr al cn sn) (h_X11_checkOf : sl_CC ad base NA Hb D cA ln rd VR MI cn sn l 0 yX11_checkOf cX11_checkOf 7 (sl_rt 1 "") 0 0 1 0 (call 95)) :
    sl_CC ad base NA Hb D cA ln rd VR MI cn sn l 0 yX11_check cX11_check 2 (sl_rt 1 "") 1 26 1 0 (fun as m => sl_B tb_X11_check fl_X11 pf_X11 cl_X11_check nw_X11 rd wr al ln 0 (fun _ => 0) call sp_X11_check mk_X11_check 100000 (0, sl_lo 2 as, []) m) :=
  sl_mk (NT := 26) (NC := 150) (LC := [(149, (95, 4, 1, 0, 0, 12))]) hst hM hMo (fun h => absurd rfl h) (plainFor_of_name (by decide +kernel)) (fun _ => by decide +kernel) (fun p h => by unfold tb_X11_check; rw [Nat.ble_eq.mpr h]; rfl) ok_X11_check os_X11_check
    (fun _ h => absurd h List.not_mem_nil)
    (fun _ h => absurd h List.not_mem_nil)
    (Or.inl rfl) (Or.inl rfl)
    (fun _ h => absurd h List.not_mem_nil)
    (Or.inl rfl)
    (fun _ h => absurd h List.not_mem_nil)
    (fun _ h => absurd h List.not_mem_nil)
    hfl_X11 hpf_X11 hnw_X11 (fun p h => by unfold cl_X11_check; rw [Nat.ble_eq.mpr h]; rfl) (by decide +kernel)
    (fun q h => by
    simp only [List.mem_cons, List.not_mem_nil, or_false] at h
    rcases h with rfl
    · exact ⟨yX11_checkOf, cX11_checkOf, 7, (sl_rt 1 ""), 0, 0, cy0_X11_checkOf (sl_gw_at 972 (by decide +kernel) (by decide +kernel)) ⟨by decide, by decide⟩, fun h => absurd rfl h, h_X11_checkOf⟩
    )
theorem ok_X11_stuffed : sl_okT cX11_stuffed ck_X11 tb_X11_stuffed 116 = true := by decide +kernel
theorem os_X11_stuffed : sl_sT 9 1 0 1 [] [] [] [] [] tb_X11_stuffed 116 = true := by decide +kernel
theorem gc_X11_stuffed (hst : l.stackTraces = false) (hM : sl_Mem ad base NA ln rd VR cn wr al MI sn) (hMo : sl_Mo wr al cn sn)  :
    sl_CC ad base NA Hb D cA ln rd VR MI cn sn l 0 yX11_stuffed cX11_stuffed 9 (sl_rt 1 "") 0 0 1 0 (fun as m => sl_B tb_X11_stuffed fl_X11 pf_X11 cl_X11_stuffed nw_X11 rd wr al ln 0 (fun _ => 0) call sp_X11_stuffed mk_X11_stuffed 100000 (0, sl_lo 9 as, []) m) :=
  sl_mk (NT := 116) (NC := 0) (LC := []) hst hM hMo (fun h => absurd rfl h) (plainFor_of_name (by decide +kernel)) (fun _ => by decide +kernel) (fun p h => by unfold tb_X11_stuffed; rw [Nat.ble_eq.mpr h]; rfl) ok_X11_stuffed os_X11_stuffed
    (fun _ h => absurd h List.not_mem_nil)
    (fun _ h => absurd h List.not_mem_nil)
    (Or.inl rfl) (Or.inl rfl)
    (fun _ h => absurd h List.not_mem_nil)
    (Or.inl rfl)
    (fun _ h => absurd h List.not_mem_nil)
    (fun _ h => absurd h List.not_mem_nil)
    hfl_X11 hpf_X11 hnw_X11 (fun p _ => rfl) (by decide +kernel)
    (fun _ h => absurd h List.not_mem_nil)
theorem ok_X11_faulty : sl_okT cX11_faulty ck_X11 tb_X11_faulty 12 = true := by decide +kernel
theorem os_X11_faulty : sl_sT 3 1 0 1 [] [] [] [] [] tb_X11_faulty 12 = true := by decide +kernel
theorem gc_X11_faulty (hst : l.stackTraces = false) (hM : sl_Mem ad base NA ln rd VR cn wr al MI sn) (hMo : sl_Mo wr al cn sn)  :
    sl_CC ad base NA Hb D cA ln rd VR MI cn sn l 0 yX11_faulty cX11_faulty 3 (sl_rt 1 "") 0 0 1 0 (fun as m => sl_B tb_X11_faulty fl_X11 pf_X11 cl_X11_faulty nw_X11 rd wr al ln 0 (fun _ => 0) call sp_X11_faulty mk_X11_faulty 100000 (0, sl_lo 3 as, []) m) :=
  sl_mk (NT := 12) (NC := 0) (LC := []) hst hM hMo (fun h => absurd rfl h) (plainFor_of_name (by decide +kernel)) (fun _ => by decide +kernel) (fun p h => by unfold tb_X11_faulty; rw [Nat.ble_eq.mpr h]; rfl) ok_X11_faulty os_X11_faulty
    (fun _ h => absurd h List.not_mem_nil)
    (fun _ h => absurd h List.not_mem_nil)
    (Or.inl rfl) (Or.inl rfl)
    (fun _ h => absurd h List.not_mem_nil)
    (Or.inl rfl)
    (fun _ h => absurd h List.not_mem_nil)
    (fun _ h => absurd h List.not_mem_nil)
    hfl_X11 hpf_X11 hnw_X11 (fun p _ => rfl) (by decide +kernel)
    (fun _ h => absurd h List.not_mem_nil)
theorem ok_X11_unstuffed : sl_okT cX11_unstuffed ck_X11 tb_X11_unstuffed 152 = true := by decide +kernel
theorem os_X11_unstuffed : sl_sT 8 1 0 1 [] [] [] [] [] tb_X11_unstuffed 152 = true := by decide +kernel
theorem gc_X11_unstuffed (hst : l.stackTraces = false) (hM : sl_Mem ad base NA ln rd VR cn wr al MI sn) (hMo : sl_Mo wr al cn sn) (h_X11_faulty : sl_CC ad base NA Hb D cA ln rd VR MI cn sn l 0 yX11_faulty cX11_faulty 3 (sl_rt 1 "") 0 0 1 0 (call 99)) :
    sl_CC ad base NA Hb D cA ln rd VR MI cn sn l 0 yX11_unstuffed cX11_unstuffed 8 (sl_rt 1 "") 1 22 1 0 (fun as m => sl_B tb_X11_unstuffed fl_X11 pf_X11 cl_X11_unstuffed nw_X11 rd wr al ln 0 (fun _ => 0) call sp_X11_unstuffed mk_X11_unstuffed 100000 (0, sl_lo 8 as, []) m) :=
  sl_mk (NT := 152) (NC := 154) (LC := [(153, (99, 3, 1, 0, 0, 12))]) hst hM hMo (fun h => absurd rfl h) (plainFor_of_name (by decide +kernel)) (fun _ => by decide +kernel) (fun p h => by unfold tb_X11_unstuffed; rw [Nat.ble_eq.mpr h]; rfl) ok_X11_unstuffed os_X11_unstuffed
    (fun _ h => absurd h List.not_mem_nil)
    (fun _ h => absurd h List.not_mem_nil)
    (Or.inl rfl) (Or.inl rfl)
    (fun _ h => absurd h List.not_mem_nil)
    (Or.inl rfl)
    (fun _ h => absurd h List.not_mem_nil)
    (fun _ h => absurd h List.not_mem_nil)
    hfl_X11 hpf_X11 hnw_X11 (fun p h => by unfold cl_X11_unstuffed; rw [Nat.ble_eq.mpr h]; rfl) (by decide +kernel)
    (fun q h => by
    simp only [List.mem_cons, List.not_mem_nil, or_false] at h
    rcases h with rfl
    · exact ⟨yX11_faulty, cX11_faulty, 3, (sl_rt 1 ""), 0, 0, cy0_X11_faulty (sl_gw_at 991 (by decide +kernel) (by decide +kernel)) ⟨by decide, by decide⟩, fun h => absurd rfl h, h_X11_faulty⟩
    )
theorem ok_X11_stuff : sl_okT cX11_stuff ck_X11 tb_X11_stuff 37 = true := by decide +kernel
theorem os_X11_stuff : sl_sT 2 1 0 1 [] [] [] [] [] tb_X11_stuff 37 = true := by decide +kernel
theorem gc_X11_stuff (hst : l.stackTraces = false) (hM : sl_Mem ad base NA ln rd VR cn wr al MI sn) (hMo : sl_Mo wr al cn sn) (h_X11_stuffed : sl_CC ad base NA Hb D cA ln rd VR MI cn sn l 0 yX11_stuffed cX11_stuffed 9 (sl_rt 1 "") 0 0 1 0 (call 97)) :
    sl_CC ad base NA Hb D cA ln rd VR MI cn sn l 0 yX11_stuff cX11_stuff 2 (sl_rt 1 "") 1 28 1 0 (fun as m => sl_B tb_X11_stuff fl_X11 pf_X11 cl_X11_stuff nw_X11 rd wr al ln 0 (fun _ => 0) call sp_X11_stuff mk_X11_stuff 100000 (0, sl_lo 2 as, []) m) :=
  sl_mk (NT := 37) (NC := 158) (LC := [(157, (97, 4, 1, 0, 0, 0))]) hst hM hMo (fun h => absurd rfl h) (plainFor_of_name (by decide +kernel)) (fun _ => by decide +kernel) (fun p h => by unfold tb_X11_stuff; rw [Nat.ble_eq.mpr h]; rfl) ok_X11_stuff os_X11_stuff
    (fun _ h => absurd h List.not_mem_nil)
    (fun _ h => absurd h List.not_mem_nil)
    (Or.inl rfl) (Or.inl rfl)
    (fun _ h => absurd h List.not_mem_nil)
    (Or.inl rfl)
    (fun _ h => absurd h List.not_mem_nil)
    (fun _ h => absurd h List.not_mem_nil)
    hfl_X11 hpf_X11 hnw_X11 (fun p h => by unfold cl_X11_stuff; rw [Nat.ble_eq.mpr h]; rfl) (by decide +kernel)
    (fun q h => by
    simp only [List.mem_cons, List.not_mem_nil, or_false] at h
    rcases h with rfl
    · exact ⟨yX11_stuffed, cX11_stuffed, 9, (sl_rt 1 ""), 0, 0, cy1_X11_stuffed (sl_gw_at 980 (by decide +kernel) (by decide +kernel)) ⟨by decide, by decide⟩, fun h => absurd rfl h, h_X11_stuffed⟩
    )
theorem ok_X11_unstuff : sl_okT cX11_unstuff ck_X11 tb_X11_unstuff 77 = true := by decide +kernel
theorem os_X11_unstuff : sl_sT 4 1 0 1 [] [] [] [] [] tb_X11_unstuff 77 = true := by decide +kernel
theorem gc_X11_unstuff (hst : l.stackTraces = false) (hM : sl_Mem ad base NA ln rd VR cn wr al MI sn) (hMo : sl_Mo wr al cn sn) (h_X11_unstuffed : sl_CC ad base NA Hb D cA ln rd VR MI cn sn l 0 yX11_unstuffed cX11_unstuffed 8 (sl_rt 1 "") 1 22 1 0 (call 98)) :
    sl_CC ad base NA Hb D cA ln rd VR MI cn sn l 0 yX11_unstuff cX11_unstuff 4 (sl_rt 1 "") 2 49 1 0 (fun as m => sl_B tb_X11_unstuff fl_X11 pf_X11 cl_X11_unstuff nw_X11 rd wr al ln 0 (fun _ => 0) call sp_X11_unstuff mk_X11_unstuff 100000 (0, sl_lo 4 as, []) m) :=
  sl_mk (NT := 77) (NC := 162) (LC := [(161, (98, 4, 1, 0, 0, 12))]) hst hM hMo (fun h => absurd rfl h) (plainFor_of_name (by decide +kernel)) (fun _ => by decide +kernel) (fun p h => by unfold tb_X11_unstuff; rw [Nat.ble_eq.mpr h]; rfl) ok_X11_unstuff os_X11_unstuff
    (fun _ h => absurd h List.not_mem_nil)
    (fun _ h => absurd h List.not_mem_nil)
    (Or.inl rfl) (Or.inl rfl)
    (fun _ h => absurd h List.not_mem_nil)
    (Or.inl rfl)
    (fun _ h => absurd h List.not_mem_nil)
    (fun _ h => absurd h List.not_mem_nil)
    hfl_X11 hpf_X11 hnw_X11 (fun p h => by unfold cl_X11_unstuff; rw [Nat.ble_eq.mpr h]; rfl) (by decide +kernel)
    (fun q h => by
    simp only [List.mem_cons, List.not_mem_nil, or_false] at h
    rcases h with rfl
    · exact ⟨yX11_unstuffed, cX11_unstuffed, 8, (sl_rt 1 ""), 1, 22, cy0_X11_unstuffed (sl_gw_at 987 (by decide +kernel) (by decide +kernel)) ⟨by decide, by decide⟩, fun h => absurd rfl h, h_X11_unstuffed⟩
    )
theorem ok_X11_fault : sl_okT cX11_fault ck_X11 tb_X11_fault 28 = true := by decide +kernel
theorem os_X11_fault : sl_sT 2 1 0 1 [] [] [] [] [] tb_X11_fault 28 = true := by decide +kernel
theorem gc_X11_fault (hst : l.stackTraces = false) (hM : sl_Mem ad base NA ln rd VR cn wr al MI sn) (hMo : sl_Mo wr al cn sn)  :
    sl_CC ad base NA Hb D cA ln rd VR MI cn sn l 0 yX11_fault cX11_fault 2 (sl_rt 1 "") 0 0 1 0 (fun as m => sl_B tb_X11_fault fl_X11 pf_X11 cl_X11_fault nw_X11 rd wr al ln 0 (fun _ => 0) call sp_X11_fault mk_X11_fault 100000 (0, sl_lo 2 as, []) m) :=
  sl_mk (NT := 28) (NC := 0) (LC := []) hst hM hMo (fun h => absurd rfl h) (plainFor_of_name (by decide +kernel)) (fun _ => by decide +kernel) (fun p h => by unfold tb_X11_fault; rw [Nat.ble_eq.mpr h]; rfl) ok_X11_fault os_X11_fault
    (fun _ h => absurd h List.not_mem_nil)
    (fun _ h => absurd h List.not_mem_nil)
    (Or.inl rfl) (Or.inl rfl)
    (fun _ h => absurd h List.not_mem_nil)
    (Or.inl rfl)
    (fun _ h => absurd h List.not_mem_nil)
    (fun _ h => absurd h List.not_mem_nil)
    hfl_X11 hpf_X11 hnw_X11 (fun p _ => rfl) (by decide +kernel)
    (fun _ h => absurd h List.not_mem_nil)
theorem ok_X11_out : sl_okT cX11_out ck_X11 tb_X11_out 32 = true := by decide +kernel
theorem os_X11_out : sl_sT 2 1 0 1 [] [] [] [] [] tb_X11_out 32 = true := by decide +kernel
theorem gc_X11_out (hst : l.stackTraces = false) (hM : sl_Mem ad base NA ln rd VR cn wr al MI sn) (hMo : sl_Mo wr al cn sn)  :
    sl_CC ad base NA Hb D cA ln rd VR MI cn sn l 0 yX11_out cX11_out 2 (sl_rt 1 "") 0 0 1 0 (fun as m => sl_B tb_X11_out fl_X11 pf_X11 cl_X11_out nw_X11 rd wr al ln 0 (fun _ => 0) call sp_X11_out mk_X11_out 100000 (0, sl_lo 2 as, []) m) :=
  sl_mk (NT := 32) (NC := 0) (LC := []) hst hM hMo (fun h => absurd rfl h) (plainFor_of_name (by decide +kernel)) (fun _ => by decide +kernel) (fun p h => by unfold tb_X11_out; rw [Nat.ble_eq.mpr h]; rfl) ok_X11_out os_X11_out
    (fun _ h => absurd h List.not_mem_nil)
    (fun _ h => absurd h List.not_mem_nil)
    (Or.inl rfl) (Or.inl rfl)
    (fun _ h => absurd h List.not_mem_nil)
    (Or.inl rfl)
    (fun _ h => absurd h List.not_mem_nil)
    (fun _ h => absurd h List.not_mem_nil)
    hfl_X11 hpf_X11 hnw_X11 (fun p _ => rfl) (by decide +kernel)
    (fun _ h => absurd h List.not_mem_nil)
theorem ok_X11_first : sl_okT cX11_first ck_X11 tb_X11_first 159 = true := by decide +kernel
theorem os_X11_first : sl_sT 3 0 0 0 [] [] [] [] [] tb_X11_first 159 = true := by decide +kernel
theorem gc_X11_first (hst : l.stackTraces = false) (hM : sl_Mem ad base NA ln rd VR cn wr al MI sn) (hMo : sl_Mo wr al cn sn)  :
    sl_CC ad base NA Hb D cA ln rd VR MI cn sn l 0 yX11_first cX11_first 3 (sl_rt 0 "") 0 0 0 0 (fun as m => sl_B tb_X11_first fl_X11 pf_X11 cl_X11_first nw_X11 rd wr al ln 0 (fun _ => 0) call sp_X11_first mk_X11_first 100000 (0, sl_lo 3 as, []) m) :=
  sl_mk (NT := 159) (NC := 0) (LC := []) hst hM hMo (fun h => absurd rfl h) (plainFor_of_name (by decide +kernel)) (fun _ => by decide +kernel) (fun p h => by unfold tb_X11_first; rw [Nat.ble_eq.mpr h]; rfl) ok_X11_first os_X11_first
    (fun _ h => absurd h List.not_mem_nil)
    (fun _ h => absurd h List.not_mem_nil)
    (Or.inl rfl) (Or.inl rfl)
    (fun _ h => absurd h List.not_mem_nil)
    (Or.inl rfl)
    (fun _ h => absurd h List.not_mem_nil)
    (fun _ h => absurd h List.not_mem_nil)
    hfl_X11 hpf_X11 hnw_X11 (fun p _ => rfl) (by decide +kernel)
    (fun _ h => absurd h List.not_mem_nil)
theorem ok_X11_open : sl_okT cX11_open ck_X11 tb_X11_open 123 = true := by decide +kernel
theorem os_X11_open : sl_sT 7 1 0 2 [] [] [] [] [] tb_X11_open 123 = true := by decide +kernel
theorem gc_X11_open (hst : l.stackTraces = false) (hM : sl_Mem ad base NA ln rd VR cn wr al MI sn) (hMo : sl_Mo wr al cn sn) (h_X11_first : sl_CC ad base NA Hb D cA ln rd VR MI cn sn l 0 yX11_first cX11_first 3 (sl_rt 0 "") 0 0 0 0 (call 104)) :
    sl_CC ad base NA Hb D cA ln rd VR MI cn sn l 0 yX11_open cX11_open 7 (sl_rt 2 "") 1 22 1 0 (fun as m => sl_B tb_X11_open fl_X11 pf_X11 cl_X11_open nw_X11 rd wr al ln 0 (fun _ => 0) call sp_X11_open mk_X11_open 100000 (0, sl_lo 7 as, []) m) :=
  sl_mk (NT := 123) (NC := 147) (LC := [(146, (104, 1, 0, 0, 0, 12))]) hst hM hMo (fun h => absurd rfl h) (plainFor_of_name (by decide +kernel)) (fun _ => by decide +kernel) (fun p h => by unfold tb_X11_open; rw [Nat.ble_eq.mpr h]; rfl) ok_X11_open os_X11_open
    (fun _ h => absurd h List.not_mem_nil)
    (fun _ h => absurd h List.not_mem_nil)
    (Or.inl rfl) (Or.inl rfl)
    (fun _ h => absurd h List.not_mem_nil)
    (Or.inl rfl)
    (fun _ h => absurd h List.not_mem_nil)
    (fun _ h => absurd h List.not_mem_nil)
    hfl_X11 hpf_X11 hnw_X11 (fun p h => by unfold cl_X11_open; rw [Nat.ble_eq.mpr h]; rfl) (by decide +kernel)
    (fun q h => by
    simp only [List.mem_cons, List.not_mem_nil, or_false] at h
    rcases h with rfl
    · exact ⟨yX11_first, cX11_first, 3, (sl_rt 0 ""), 0, 0, cy0_X11_first (sl_gw_at 815 (by decide +kernel) (by decide +kernel)) ⟨by decide, by decide⟩, fun h => absurd rfl h, h_X11_first⟩
    )
theorem ok_X11_give : sl_okT cX11_give ck_X11 tb_X11_give 95 = true := by decide +kernel
theorem os_X11_give : sl_sT 3 1 0 1 [] [] [] [] [] tb_X11_give 95 = true := by decide +kernel
theorem gc_X11_give (hst : l.stackTraces = false) (hM : sl_Mem ad base NA ln rd VR cn wr al MI sn) (hMo : sl_Mo wr al cn sn) (h_X11_isOut : sl_CC ad base NA Hb D cA ln rd VR MI cn sn l 0 yX11_isOut cX11_isOut 2 (sl_rt 2 "") 0 0 1 0 (call 91)) :
    sl_CC ad base NA Hb D cA ln rd VR MI cn sn l 0 yX11_give cX11_give 3 (sl_rt 1 "") 1 21 1 0 (fun as m => sl_B tb_X11_give fl_X11 pf_X11 cl_X11_give nw_X11 rd wr al ln 0 (fun _ => 0) call sp_X11_give mk_X11_give 100000 (0, sl_lo 3 as, []) m) :=
  sl_mk (NT := 95) (NC := 166) (LC := [(165, (91, 2, 1, 0, 0, 12))]) hst hM hMo (fun h => absurd rfl h) (plainFor_of_name (by decide +kernel)) (fun _ => by decide +kernel) (fun p h => by unfold tb_X11_give; rw [Nat.ble_eq.mpr h]; rfl) ok_X11_give os_X11_give
    (fun _ h => absurd h List.not_mem_nil)
    (fun _ h => absurd h List.not_mem_nil)
    (Or.inl rfl) (Or.inl rfl)
    (fun _ h => absurd h List.not_mem_nil)
    (Or.inl rfl)
    (fun _ h => absurd h List.not_mem_nil)
    (fun _ h => absurd h List.not_mem_nil)
    hfl_X11 hpf_X11 hnw_X11 (fun p h => by unfold cl_X11_give; rw [Nat.ble_eq.mpr h]; rfl) (by decide +kernel)
    (fun q h => by
    simp only [List.mem_cons, List.not_mem_nil, or_false] at h
    rcases h with rfl
    · exact ⟨yX11_isOut, cX11_isOut, 2, (sl_rt 2 ""), 0, 0, cy0_X11_isOut (sl_gw_at 1011 (by decide +kernel) (by decide +kernel)) ⟨by decide, by decide⟩, fun h => absurd rfl h, h_X11_isOut⟩
    )
theorem ok_X11_lay : sl_okT cX11_lay ck_X11 tb_X11_lay 211 = true := by decide +kernel
theorem os_X11_lay : sl_sT 7 0 0 0 [] [] [] [] [] tb_X11_lay 211 = true := by decide +kernel
theorem gc_X11_lay (hst : l.stackTraces = false) (hM : sl_Mem ad base NA ln rd VR cn wr al MI sn) (hMo : sl_Mo wr al cn sn) (h_X11_checkOf : sl_CC ad base NA Hb D cA ln rd VR MI cn sn l 0 yX11_checkOf cX11_checkOf 7 (sl_rt 1 "") 0 0 1 0 (call 95)) (h_X11_stuffed : sl_CC ad base NA Hb D cA ln rd VR MI cn sn l 0 yX11_stuffed cX11_stuffed 9 (sl_rt 1 "") 0 0 1 0 (call 97)) :
    sl_CC ad base NA Hb D cA ln rd VR MI cn sn l 0 yX11_lay cX11_lay 7 (sl_rt 0 "") 1 28 0 0 (fun as m => sl_B tb_X11_lay fl_X11 pf_X11 cl_X11_lay nw_X11 rd wr al ln 0 (fun _ => 0) call sp_X11_lay mk_X11_lay 100000 (0, sl_lo 7 as, []) m) :=
  sl_mk (NT := 211) (NC := 158) (LC := [(149, (95, 4, 1, 0, 0, 12)), (157, (97, 4, 1, 0, 0, 0))]) hst hM hMo (fun h => absurd rfl h) (plainFor_of_name (by decide +kernel)) (fun _ => by decide +kernel) (fun p h => by unfold tb_X11_lay; rw [Nat.ble_eq.mpr h]; rfl) ok_X11_lay os_X11_lay
    (fun _ h => absurd h List.not_mem_nil)
    (fun _ h => absurd h List.not_mem_nil)
    (Or.inl rfl) (Or.inl rfl)
    (fun _ h => absurd h List.not_mem_nil)
    (Or.inl rfl)
    (fun _ h => absurd h List.not_mem_nil)
    (fun _ h => absurd h List.not_mem_nil)
    hfl_X11 hpf_X11 hnw_X11 (fun p h => by unfold cl_X11_lay; rw [Nat.ble_eq.mpr h]; rfl) (by decide +kernel)
    (fun q h => by
    simp only [List.mem_cons, List.not_mem_nil, or_false] at h
    rcases h with rfl | rfl
    · exact ⟨yX11_checkOf, cX11_checkOf, 7, (sl_rt 1 ""), 0, 0, cy0_X11_checkOf (sl_gw_at 972 (by decide +kernel) (by decide +kernel)) ⟨by decide, by decide⟩, fun h => absurd rfl h, h_X11_checkOf⟩
    · exact ⟨yX11_stuffed, cX11_stuffed, 9, (sl_rt 1 ""), 0, 0, cy1_X11_stuffed (sl_gw_at 980 (by decide +kernel) (by decide +kernel)) ⟨by decide, by decide⟩, fun h => absurd rfl h, h_X11_stuffed⟩
    )
theorem ok_X11_layPiece : sl_okT cX11_layPiece ck_X11 tb_X11_layPiece 112 = true := by decide +kernel
theorem os_X11_layPiece : sl_sT 7 0 0 0 [] [] [] [] [] tb_X11_layPiece 112 = true := by decide +kernel
theorem gc_X11_layPiece (hst : l.stackTraces = false) (hM : sl_Mem ad base NA ln rd VR cn wr al MI sn) (hMo : sl_Mo wr al cn sn) (h_X11_lay : sl_CC ad base NA Hb D cA ln rd VR MI cn sn l 0 yX11_lay cX11_lay 7 (sl_rt 0 "") 1 28 0 0 (call 107)) :
    sl_CC ad base NA Hb D cA ln rd VR MI cn sn l 0 yX11_layPiece cX11_layPiece 7 (sl_rt 0 "") 2 54 0 0 (fun as m => sl_B tb_X11_layPiece fl_X11 pf_X11 cl_X11_layPiece nw_X11 rd wr al ln 0 (fun _ => 0) call sp_X11_layPiece mk_X11_layPiece 100000 (0, sl_lo 7 as, []) m) :=
  sl_mk (NT := 112) (NC := 170) (LC := [(169, (107, 4, 0, 0, 0, 12))]) hst hM hMo (fun h => absurd rfl h) (plainFor_of_name (by decide +kernel)) (fun _ => by decide +kernel) (fun p h => by unfold tb_X11_layPiece; rw [Nat.ble_eq.mpr h]; rfl) ok_X11_layPiece os_X11_layPiece
    (fun _ h => absurd h List.not_mem_nil)
    (fun _ h => absurd h List.not_mem_nil)
    (Or.inl rfl) (Or.inl rfl)
    (fun _ h => absurd h List.not_mem_nil)
    (Or.inl rfl)
    (fun _ h => absurd h List.not_mem_nil)
    (fun _ h => absurd h List.not_mem_nil)
    hfl_X11 hpf_X11 hnw_X11 (fun p h => by unfold cl_X11_layPiece; rw [Nat.ble_eq.mpr h]; rfl) (by decide +kernel)
    (fun q h => by
    simp only [List.mem_cons, List.not_mem_nil, or_false] at h
    rcases h with rfl
    · exact ⟨yX11_lay, cX11_lay, 7, (sl_rt 0 ""), 1, 28, cy0_X11_lay (sl_gw_at 1031 (by decide +kernel) (by decide +kernel)) ⟨by decide, by decide⟩, fun h => absurd rfl h, h_X11_lay⟩
    )
theorem ok_X11_knownBytes : sl_okT cX11_knownBytes ck_X11 tb_X11_knownBytes 23 = true := by decide +kernel
theorem os_X11_knownBytes : sl_sT 1 1 0 1 [] [] [] [] [] tb_X11_knownBytes 23 = true := by decide +kernel
theorem gc_X11_knownBytes (hst : l.stackTraces = false) (hM : sl_Mem ad base NA ln rd VR cn wr al MI sn) (hMo : sl_Mo wr al cn sn)  :
    sl_CC ad base NA Hb D cA ln rd VR MI cn sn l 0 yX11_knownBytes cX11_knownBytes 1 (sl_rt 1 "") 0 0 1 0 (fun as m => sl_B tb_X11_knownBytes fl_X11 pf_X11 cl_X11_knownBytes nw_X11 rd wr al ln 0 (fun _ => 0) call sp_X11_knownBytes mk_X11_knownBytes 100000 (0, sl_lo 1 as, []) m) :=
  sl_mk (NT := 23) (NC := 0) (LC := []) hst hM hMo (fun h => absurd rfl h) (plainFor_of_name (by decide +kernel)) (fun _ => by decide +kernel) (fun p h => by unfold tb_X11_knownBytes; rw [Nat.ble_eq.mpr h]; rfl) ok_X11_knownBytes os_X11_knownBytes
    (fun _ h => absurd h List.not_mem_nil)
    (fun _ h => absurd h List.not_mem_nil)
    (Or.inl rfl) (Or.inl rfl)
    (fun _ h => absurd h List.not_mem_nil)
    (Or.inl rfl)
    (fun _ h => absurd h List.not_mem_nil)
    (fun _ h => absurd h List.not_mem_nil)
    hfl_X11 hpf_X11 hnw_X11 (fun p _ => rfl) (by decide +kernel)
    (fun _ h => absurd h List.not_mem_nil)
theorem ok_X11_layKnown : sl_okT cX11_layKnown ck_X11 tb_X11_layKnown 142 = true := by decide +kernel
theorem os_X11_layKnown : sl_sT 4 0 0 0 [] [] [] [] [] tb_X11_layKnown 142 = true := by decide +kernel
theorem gc_X11_layKnown (hst : l.stackTraces = false) (hM : sl_Mem ad base NA ln rd VR cn wr al MI sn) (hMo : sl_Mo wr al cn sn) (h_X11_lay : sl_CC ad base NA Hb D cA ln rd VR MI cn sn l 0 yX11_lay cX11_lay 7 (sl_rt 0 "") 1 28 0 0 (call 107)) (h_X11_knownBytes : sl_CC ad base NA Hb D cA ln rd VR MI cn sn l 0 yX11_knownBytes cX11_knownBytes 1 (sl_rt 1 "") 0 0 1 0 (call 109)) :
    sl_CC ad base NA Hb D cA ln rd VR MI cn sn l 0 yX11_layKnown cX11_layKnown 4 (sl_rt 0 "") 2 54 0 0 (fun as m => sl_B tb_X11_layKnown fl_X11 pf_X11 cl_X11_layKnown nw_X11 rd wr al ln 0 (fun _ => 0) call sp_X11_layKnown mk_X11_layKnown 100000 (0, sl_lo 4 as, []) m) :=
  sl_mk (NT := 142) (NC := 174) (LC := [(169, (107, 4, 0, 0, 0, 12)), (173, (109, 1, 1, 0, 0, 12))]) hst hM hMo (fun h => absurd rfl h) (plainFor_of_name (by decide +kernel)) (fun _ => by decide +kernel) (fun p h => by unfold tb_X11_layKnown; rw [Nat.ble_eq.mpr h]; rfl) ok_X11_layKnown os_X11_layKnown
    (fun _ h => absurd h List.not_mem_nil)
    (fun _ h => absurd h List.not_mem_nil)
    (Or.inl rfl) (Or.inl rfl)
    (fun _ h => absurd h List.not_mem_nil)
    (Or.inl rfl)
    (fun _ h => absurd h List.not_mem_nil)
    (fun _ h => absurd h List.not_mem_nil)
    hfl_X11 hpf_X11 hnw_X11 (fun p h => by unfold cl_X11_layKnown; rw [Nat.ble_eq.mpr h]; rfl) (by decide +kernel)
    (fun q h => by
    simp only [List.mem_cons, List.not_mem_nil, or_false] at h
    rcases h with rfl | rfl
    · exact ⟨yX11_lay, cX11_lay, 7, (sl_rt 0 ""), 1, 28, cy0_X11_lay (sl_gw_at 1031 (by decide +kernel) (by decide +kernel)) ⟨by decide, by decide⟩, fun h => absurd rfl h, h_X11_lay⟩
    · exact ⟨yX11_knownBytes, cX11_knownBytes, 1, (sl_rt 1 ""), 0, 0, cy0_X11_knownBytes (sl_gw_at 1059 (by decide +kernel) (by decide +kernel)) ⟨by decide, by decide⟩, fun h => absurd rfl h, h_X11_knownBytes⟩
    )
theorem ok_X11_tickOf : sl_okT cX11_tickOf ck_X11 tb_X11_tickOf 351 = true := by decide +kernel
theorem os_X11_tickOf : sl_sT 5 0 0 0 [] [] [] [] [] tb_X11_tickOf 351 = true := by decide +kernel
theorem gc_X11_tickOf (hst : l.stackTraces = false) (hM : sl_Mem ad base NA ln rd VR cn wr al MI sn) (hMo : sl_Mo wr al cn sn) (h_X11_layPiece : sl_CC ad base NA Hb D cA ln rd VR MI cn sn l 0 yX11_layPiece cX11_layPiece 7 (sl_rt 0 "") 2 54 0 0 (call 108)) :
    sl_CC ad base NA Hb D cA ln rd VR MI cn sn l 0 yX11_tickOf cX11_tickOf 5 (sl_rt 0 "") 3 80 0 0 (fun as m => sl_B tb_X11_tickOf fl_X11 pf_X11 cl_X11_tickOf nw_X11 rd wr al ln 0 (fun _ => 0) call sp_X11_tickOf mk_X11_tickOf 100000 (0, sl_lo 5 as, []) m) :=
  sl_mk (NT := 351) (NC := 178) (LC := [(177, (108, 4, 0, 0, 0, 12))]) hst hM hMo (fun h => absurd rfl h) (plainFor_of_name (by decide +kernel)) (fun _ => by decide +kernel) (fun p h => by unfold tb_X11_tickOf; rw [Nat.ble_eq.mpr h]; rfl) ok_X11_tickOf os_X11_tickOf
    (fun _ h => absurd h List.not_mem_nil)
    (fun _ h => absurd h List.not_mem_nil)
    (Or.inl rfl) (Or.inl rfl)
    (fun _ h => absurd h List.not_mem_nil)
    (Or.inl rfl)
    (fun _ h => absurd h List.not_mem_nil)
    (fun _ h => absurd h List.not_mem_nil)
    hfl_X11 hpf_X11 hnw_X11 (fun p h => by unfold cl_X11_tickOf; rw [Nat.ble_eq.mpr h]; rfl) (by decide +kernel)
    (fun q h => by
    simp only [List.mem_cons, List.not_mem_nil, or_false] at h
    rcases h with rfl
    · exact ⟨yX11_layPiece, cX11_layPiece, 7, (sl_rt 0 ""), 2, 54, cy0_X11_layPiece (sl_gw_at 1027 (by decide +kernel) (by decide +kernel)) ⟨by decide, by decide⟩, fun h => absurd rfl h, h_X11_layPiece⟩
    )
end SLP5
