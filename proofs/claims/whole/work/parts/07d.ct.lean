-- par
section SLP4
variable {M : Type} {ad : Nat → Nat → Nat} {base NA : Nat} {Hb : Heap} {D : va_G} {cA : Nat → ClassId} {ln : Nat → Nat → Nat} {rd : M → Nat → Nat → Nat → sl_V} {VR : M → Nat × Nat → Prop} {MI : M → Prop} {cn sn : M → Nat} {l : Launch}
variable {wr : M → Nat → Nat → Nat → sl_V → Option M} {al : M → Nat → Int32 → Option ((Nat × Nat) × M)} {call : Nat → List sl_V → M → Option (sl_PL × M)}
theorem ok_X7_hearKnown : sl_okT cX7_hearKnown ck_X7 tb_X7_hearKnown 78 = true := by decide +kernel
theorem os_X7_hearKnown : sl_sT 4 0 0 0 [] [] [] [] [] tb_X7_hearKnown 78 = true := by decide +kernel
theorem gc_X7_hearKnown (hst : l.stackTraces = false) (hM : sl_Mem ad base NA ln rd VR cn wr al MI sn) (hMo : sl_Mo wr al cn sn) (h_X7_keepKnown : sl_CC ad base NA Hb D cA ln rd VR MI cn sn l 0 yX7_keepKnown cX7_keepKnown 4 (sl_rt 0 "") 1 21 0 0 (call 48)) (h_X8_eachByItself : sl_CC ad base NA Hb D cA ln rd VR MI cn sn l 0 yX8_eachByItself cX8_eachByItself 1 (sl_rt 2 "") 0 0 1 0 (call 54)) (h_X8_inRing : sl_CC ad base NA Hb D cA ln rd VR MI cn sn l 0 yX8_inRing cX8_inRing 2 (sl_rt 1 "") 1 22 1 0 (call 55)) (h_X9_add : sl_CC ad base NA Hb D cA ln rd VR MI cn sn l 0 yX9_add cX9_add 2 (sl_rt 0 "") 0 0 0 0 (call 59)) :
    sl_CC ad base NA Hb D cA ln rd VR MI cn sn l 0 yX7_hearKnown cX7_hearKnown 4 (sl_rt 0 "") 2 44 0 0 (fun as m => sl_B tb_X7_hearKnown fl_X7 pf_X7 cl_X7_hearKnown nw_X7 rd wr al ln 0 (fun _ => 0) call sp_X7_hearKnown mk_X7_hearKnown 100000 (0, sl_lo 4 as, []) m) :=
  sl_mk (NT := 78) (NC := 127) (LC := [(65, (54, 1, 1, 0, 0, 9)), (103, (55, 2, 1, 0, 0, 9)), (121, (59, 2, 0, 0, 0, 10)), (126, (48, 2, 0, 0, 0, 8))]) hst hM hMo (fun h => absurd rfl h) (plainFor_of_name (by decide +kernel)) (fun _ => by decide +kernel) (fun p h => by unfold tb_X7_hearKnown; rw [Nat.ble_eq.mpr h]; rfl) ok_X7_hearKnown os_X7_hearKnown
    (fun _ h => absurd h List.not_mem_nil)
    (fun _ h => absurd h List.not_mem_nil)
    (Or.inl rfl) (Or.inl rfl)
    (fun _ h => absurd h List.not_mem_nil)
    (Or.inl rfl)
    (fun _ h => absurd h List.not_mem_nil)
    (fun _ h => absurd h List.not_mem_nil)
    hfl_X7 hpf_X7 hnw_X7 (fun p h => by unfold cl_X7_hearKnown; rw [Nat.ble_eq.mpr h]; rfl) (by decide +kernel)
    (fun q h => by
    simp only [List.mem_cons, List.not_mem_nil, or_false] at h
    rcases h with rfl | rfl | rfl | rfl
    · exact ⟨yX8_eachByItself, cX8_eachByItself, 1, (sl_rt 2 ""), 0, 0, cy0_X8_eachByItself (sl_gw_at 467 (by decide +kernel) (by decide +kernel)) ⟨by decide, by decide⟩, fun h => absurd rfl h, h_X8_eachByItself⟩
    · exact ⟨yX8_inRing, cX8_inRing, 2, (sl_rt 1 ""), 1, 22, cy0_X8_inRing (sl_gw_at 479 (by decide +kernel) (by decide +kernel)) ⟨by decide, by decide⟩, fun h => absurd rfl h, h_X8_inRing⟩
    · exact ⟨yX9_add, cX9_add, 2, (sl_rt 0 ""), 0, 0, cy0_X9_add (sl_gw_at 662 (by decide +kernel) (by decide +kernel)) ⟨by decide, by decide⟩, fun h => absurd rfl h, h_X9_add⟩
    · exact ⟨yX7_keepKnown, cX7_keepKnown, 4, (sl_rt 0 ""), 1, 21, cy0_X7_keepKnown (sl_gw_at 663 (by decide +kernel) (by decide +kernel)) ⟨by decide, by decide⟩, fun h => absurd rfl h, h_X7_keepKnown⟩
    )
theorem ok_X1_endBody : sl_okT cX1_endBody ck_X1 tb_X1_endBody 120 = true := by decide +kernel
theorem os_X1_endBody : sl_sT 4 0 0 0 [] [] [] [] [] tb_X1_endBody 120 = true := by decide +kernel
theorem gc_X1_endBody (hst : l.stackTraces = false) (hM : sl_Mem ad base NA ln rd VR cn wr al MI sn) (hMo : sl_Mo wr al cn sn) (h_X1_loadOfBody : sl_CC ad base NA Hb D cA ln rd VR MI cn sn l 0 yX1_loadOfBody cX1_loadOfBody 1 (sl_rt 1 "") 0 0 1 0 (call 8)) (h_X1_kindOfWrong : sl_CC ad base NA Hb D cA ln rd VR MI cn sn l 0 yX1_kindOfWrong cX1_kindOfWrong 1 (sl_rt 1 "") 3 68 1 0 (call 9)) (h_X5_hearData : sl_CC ad base NA Hb D cA ln rd VR MI cn sn l 0 yX5_hearData cX5_hearData 6 (sl_rt 2 "") 3 67 1 0 (call 26)) (h_X5_layKnown : sl_CC ad base NA Hb D cA ln rd VR MI cn sn l 0 yX5_layKnown cX5_layKnown 4 (sl_rt 0 "") 3 72 0 0 (call 29)) (h_X6_at : sl_CC ad base NA Hb D cA ln rd VR MI cn sn l 0 yX6_at cX6_at 2 (sl_rt 1 "") 0 0 1 0 (call 36)) (h_X7_hearKnown : sl_CC ad base NA Hb D cA ln rd VR MI cn sn l 0 yX7_hearKnown cX7_hearKnown 4 (sl_rt 0 "") 2 44 0 0 (call 47)) (h_X9_add : sl_CC ad base NA Hb D cA ln rd VR MI cn sn l 0 yX9_add cX9_add 2 (sl_rt 0 "") 0 0 0 0 (call 59)) :
    sl_CC ad base NA Hb D cA ln rd VR MI cn sn l 0 yX1_endBody cX1_endBody 4 (sl_rt 0 "") 4 95 0 0 (fun as m => sl_B tb_X1_endBody fl_X1 pf_X1 cl_X1_endBody nw_X1 rd wr al ln 0 (fun _ => 0) call sp_X1_endBody mk_X1_endBody 100000 (0, sl_lo 4 as, []) m) :=
  sl_mk (NT := 120) (NC := 102) (LC := [(78, (9, 1, 1, 0, 0, 2)), (82, (59, 2, 0, 0, 0, 10)), (86, (36, 2, 1, 0, 0, 7)), (90, (47, 3, 0, 0, 0, 8)), (94, (8, 1, 1, 0, 0, 2)), (97, (26, 4, 1, 0, 0, 6)), (101, (29, 1, 0, 0, 0, 6))]) hst hM hMo (fun h => absurd rfl h) (plainFor_of_name (by decide +kernel)) (fun _ => by decide +kernel) (fun p h => by unfold tb_X1_endBody; rw [Nat.ble_eq.mpr h]; rfl) ok_X1_endBody os_X1_endBody
    (fun _ h => absurd h List.not_mem_nil)
    (fun _ h => absurd h List.not_mem_nil)
    (Or.inl rfl) (Or.inl rfl)
    (fun _ h => absurd h List.not_mem_nil)
    (Or.inl rfl)
    (fun _ h => absurd h List.not_mem_nil)
    (fun _ h => absurd h List.not_mem_nil)
    hfl_X1 hpf_X1 hnw_X1 (fun p h => by unfold cl_X1_endBody; rw [Nat.ble_eq.mpr h]; rfl) (by decide +kernel)
    (fun q h => by
    simp only [List.mem_cons, List.not_mem_nil, or_false] at h
    rcases h with rfl | rfl | rfl | rfl | rfl | rfl | rfl
    · exact ⟨yX1_kindOfWrong, cX1_kindOfWrong, 1, (sl_rt 1 ""), 3, 68, cy0_X1_kindOfWrong (sl_gw_at 621 (by decide +kernel) (by decide +kernel)) ⟨by decide, by decide⟩, fun h => absurd rfl h, h_X1_kindOfWrong⟩
    · exact ⟨yX9_add, cX9_add, 2, (sl_rt 0 ""), 0, 0, cy0_X9_add (sl_gw_at 657 (by decide +kernel) (by decide +kernel)) ⟨by decide, by decide⟩, fun h => absurd rfl h, h_X9_add⟩
    · exact ⟨yX6_at, cX6_at, 2, (sl_rt 1 ""), 0, 0, cy0_X6_at (sl_gw_at 643 (by decide +kernel) (by decide +kernel)) ⟨by decide, by decide⟩, fun h => absurd rfl h, h_X6_at⟩
    · exact ⟨yX7_hearKnown, cX7_hearKnown, 4, (sl_rt 0 ""), 2, 44, cy0_X7_hearKnown (sl_gw_at 658 (by decide +kernel) (by decide +kernel)) ⟨by decide, by decide⟩, fun h => absurd rfl h, h_X7_hearKnown⟩
    · exact ⟨yX1_loadOfBody, cX1_loadOfBody, 1, (sl_rt 1 ""), 0, 0, cy0_X1_loadOfBody (sl_gw_at 648 (by decide +kernel) (by decide +kernel)) ⟨by decide, by decide⟩, fun h => absurd rfl h, h_X1_loadOfBody⟩
    · exact ⟨yX5_hearData, cX5_hearData, 6, (sl_rt 2 ""), 3, 67, cy0_X5_hearData (sl_gw_at 668 (by decide +kernel) (by decide +kernel)) ⟨by decide, by decide⟩, fun h => absurd rfl h, h_X5_hearData⟩
    · exact ⟨yX5_layKnown, cX5_layKnown, 4, (sl_rt 0 ""), 3, 72, cy0_X5_layKnown (sl_gw_at 687 (by decide +kernel) (by decide +kernel)) ⟨by decide, by decide⟩, fun h => absurd rfl h, h_X5_layKnown⟩
    )
theorem ok_X1_hear : sl_okT cX1_hear ck_X1 tb_X1_hear 43 = true := by decide +kernel
theorem os_X1_hear : sl_sT 3 0 0 0 [] [] [] [] [] tb_X1_hear 43 = true := by decide +kernel
theorem gc_X1_hear (hst : l.stackTraces = false) (hM : sl_Mem ad base NA ln rd VR cn wr al MI sn) (hMo : sl_Mo wr al cn sn) (h_X1_forgetHeard : sl_CC ad base NA Hb D cA ln rd VR MI cn sn l 0 yX1_forgetHeard cX1_forgetHeard 1 (sl_rt 0 "") 1 20 0 0 (call 5)) (h_X1_endBody : sl_CC ad base NA Hb D cA ln rd VR MI cn sn l 0 yX1_endBody cX1_endBody 4 (sl_rt 0 "") 4 95 0 0 (call 7)) (h_X6_add : sl_CC ad base NA Hb D cA ln rd VR MI cn sn l 0 yX6_add cX6_add 2 (sl_rt 2 "") 0 0 1 0 (call 37)) :
    sl_CC ad base NA Hb D cA ln rd VR MI cn sn l 0 yX1_hear cX1_hear 3 (sl_rt 0 "") 5 118 0 0 (fun as m => sl_B tb_X1_hear fl_X1 pf_X1 cl_X1_hear nw_X1 rd wr al ln 0 (fun _ => 0) call sp_X1_hear mk_X1_hear 100000 (0, sl_lo 3 as, []) m) :=
  sl_mk (NT := 43) (NC := 75) (LC := [(58, (5, 1, 0, 0, 0, 2)), (66, (37, 2, 1, 0, 0, 7)), (74, (7, 2, 0, 0, 0, 2))]) hst hM hMo (fun h => absurd rfl h) (plainFor_of_name (by decide +kernel)) (fun _ => by decide +kernel) (fun p h => by unfold tb_X1_hear; rw [Nat.ble_eq.mpr h]; rfl) ok_X1_hear os_X1_hear
    (fun _ h => absurd h List.not_mem_nil)
    (fun _ h => absurd h List.not_mem_nil)
    (Or.inl rfl) (Or.inl rfl)
    (fun _ h => absurd h List.not_mem_nil)
    (Or.inl rfl)
    (fun _ h => absurd h List.not_mem_nil)
    (fun _ h => absurd h List.not_mem_nil)
    hfl_X1 hpf_X1 hnw_X1 (fun p h => by unfold cl_X1_hear; rw [Nat.ble_eq.mpr h]; rfl) (by decide +kernel)
    (fun q h => by
    simp only [List.mem_cons, List.not_mem_nil, or_false] at h
    rcases h with rfl | rfl | rfl
    · exact ⟨yX1_forgetHeard, cX1_forgetHeard, 1, (sl_rt 0 ""), 1, 20, cy0_X1_forgetHeard (sl_gw_at 397 (by decide +kernel) (by decide +kernel)) ⟨by decide, by decide⟩, fun h => absurd rfl h, h_X1_forgetHeard⟩
    · exact ⟨yX6_add, cX6_add, 2, (sl_rt 2 ""), 0, 0, cy0_X6_add (sl_gw_at 616 (by decide +kernel) (by decide +kernel)) ⟨by decide, by decide⟩, fun h => absurd rfl h, h_X6_add⟩
    · exact ⟨yX1_endBody, cX1_endBody, 4, (sl_rt 0 ""), 4, 95, cy0_X1_endBody (sl_gw_at 617 (by decide +kernel) (by decide +kernel)) ⟨by decide, by decide⟩, fun h => absurd rfl h, h_X1_endBody⟩
    )
theorem ok_X4_clear : sl_okT cX4_clear ck_X4 tb_X4_clear 11 = true := by decide +kernel
theorem os_X4_clear : sl_sT 1 0 0 0 [] [] [] [] [] tb_X4_clear 11 = true := by decide +kernel
theorem gc_X4_clear (hst : l.stackTraces = false) (hM : sl_Mem ad base NA ln rd VR cn wr al MI sn) (hMo : sl_Mo wr al cn sn)  :
    sl_CC ad base NA Hb D cA ln rd VR MI cn sn l 0 yX4_clear cX4_clear 1 (sl_rt 0 "") 0 0 0 0 (fun as m => sl_B tb_X4_clear fl_X4 pf_X4 cl_X4_clear nw_X4 rd wr al ln 0 (fun _ => 0) call sp_X4_clear mk_X4_clear 100000 (0, sl_lo 1 as, []) m) :=
  sl_mk (NT := 11) (NC := 0) (LC := []) hst hM hMo (fun h => absurd rfl h) (plainFor_of_name (by decide +kernel)) (fun _ => by decide +kernel) (fun p h => by unfold tb_X4_clear; rw [Nat.ble_eq.mpr h]; rfl) ok_X4_clear os_X4_clear
    (fun _ h => absurd h List.not_mem_nil)
    (fun _ h => absurd h List.not_mem_nil)
    (Or.inl rfl) (Or.inl rfl)
    (fun _ h => absurd h List.not_mem_nil)
    (Or.inl rfl)
    (fun _ h => absurd h List.not_mem_nil)
    (fun _ h => absurd h List.not_mem_nil)
    hfl_X4 hpf_X4 hnw_X4 (fun p _ => rfl) (by decide +kernel)
    (fun _ h => absurd h List.not_mem_nil)
theorem ok_X4_nth : sl_okT cX4_nth ck_X4 tb_X4_nth 22 = true := by decide +kernel
theorem os_X4_nth : sl_sT 2 3 2 3 [] [] [] [] [] tb_X4_nth 22 = true := by decide +kernel
theorem gc_X4_nth (hst : l.stackTraces = false) (hM : sl_Mem ad base NA ln rd VR cn wr al MI sn) (hMo : sl_Mo wr al cn sn) (h_X4_slot : sl_CC ad base NA Hb D cA ln rd VR MI cn sn l 0 yX4_slot cX4_slot 3 (sl_rt 3 "SerialLink$Frame") 1 22 3 2 (call 20)) :
    sl_CC ad base NA Hb D cA ln rd VR MI cn sn l 0 yX4_nth cX4_nth 2 (sl_rt 3 "SerialLink$Frame") 2 44 3 2 (fun as m => sl_B tb_X4_nth fl_X4 pf_X4 cl_X4_nth nw_X4 rd wr al ln 0 (fun _ => 0) call sp_X4_nth mk_X4_nth 100000 (0, sl_lo 2 as, []) m) :=
  sl_mk (NT := 22) (NC := 39) (LC := [(38, (20, 2, 3, 2, 0, 5))]) hst hM hMo (fun h => absurd rfl h) (plainFor_of_name (by decide +kernel)) (fun _ => by decide +kernel) (fun p h => by unfold tb_X4_nth; rw [Nat.ble_eq.mpr h]; rfl) ok_X4_nth os_X4_nth
    (fun _ h => absurd h List.not_mem_nil)
    (fun _ h => absurd h List.not_mem_nil)
    (Or.inl rfl) (Or.inl rfl)
    (fun _ h => absurd h List.not_mem_nil)
    (Or.inl rfl)
    (fun _ h => absurd h List.not_mem_nil)
    (fun _ h => absurd h List.not_mem_nil)
    hfl_X4 hpf_X4 hnw_X4 (fun p h => by unfold cl_X4_nth; rw [Nat.ble_eq.mpr h]; rfl) (by decide +kernel)
    (fun q h => by
    simp only [List.mem_cons, List.not_mem_nil, or_false] at h
    rcases h with rfl
    · exact ⟨yX4_slot, cX4_slot, 3, (sl_rt 3 "SerialLink$Frame"), 1, 22, cy0_X4_slot (sl_gw_at 498 (by decide +kernel) (by decide +kernel)) ⟨by decide, by decide⟩, fun h => absurd rfl h, h_X4_slot⟩
    )
theorem ok_X4_dropFirst : sl_okT cX4_dropFirst ck_X4 tb_X4_dropFirst 31 = true := by decide +kernel
theorem os_X4_dropFirst : sl_sT 1 0 0 0 [] [] [] [] [] tb_X4_dropFirst 31 = true := by decide +kernel
theorem gc_X4_dropFirst (hst : l.stackTraces = false) (hM : sl_Mem ad base NA ln rd VR cn wr al MI sn) (hMo : sl_Mo wr al cn sn)  :
    sl_CC ad base NA Hb D cA ln rd VR MI cn sn l 0 yX4_dropFirst cX4_dropFirst 1 (sl_rt 0 "") 0 0 0 0 (fun as m => sl_B tb_X4_dropFirst fl_X4 pf_X4 cl_X4_dropFirst nw_X4 rd wr al ln 0 (fun _ => 0) call sp_X4_dropFirst mk_X4_dropFirst 100000 (0, sl_lo 1 as, []) m) :=
  sl_mk (NT := 31) (NC := 0) (LC := []) hst hM hMo (fun h => absurd rfl h) (plainFor_of_name (by decide +kernel)) (fun _ => by decide +kernel) (fun p h => by unfold tb_X4_dropFirst; rw [Nat.ble_eq.mpr h]; rfl) ok_X4_dropFirst os_X4_dropFirst
    (fun _ h => absurd h List.not_mem_nil)
    (fun _ h => absurd h List.not_mem_nil)
    (Or.inl rfl) (Or.inl rfl)
    (fun _ h => absurd h List.not_mem_nil)
    (Or.inl rfl)
    (fun _ h => absurd h List.not_mem_nil)
    (fun _ h => absurd h List.not_mem_nil)
    hfl_X4 hpf_X4 hnw_X4 (fun p _ => rfl) (by decide +kernel)
    (fun _ h => absurd h List.not_mem_nil)
theorem ok_X5_heldPieces : sl_okT cX5_heldPieces ck_X5 tb_X5_heldPieces 38 = true := by decide +kernel
theorem os_X5_heldPieces : sl_sT 3 1 0 1 [] [] [] [] [] tb_X5_heldPieces 38 = true := by decide +kernel
theorem gc_X5_heldPieces (hst : l.stackTraces = false) (hM : sl_Mem ad base NA ln rd VR cn wr al MI sn) (hMo : sl_Mo wr al cn sn)  :
    sl_CC ad base NA Hb D cA ln rd VR MI cn sn l 0 yX5_heldPieces cX5_heldPieces 3 (sl_rt 1 "") 0 0 1 0 (fun as m => sl_B tb_X5_heldPieces fl_X5 pf_X5 cl_X5_heldPieces nw_X5 rd wr al ln 0 (fun _ => 0) call sp_X5_heldPieces mk_X5_heldPieces 100000 (0, sl_lo 3 as, []) m) :=
  sl_mk (NT := 38) (NC := 0) (LC := []) hst hM hMo (fun h => absurd rfl h) (plainFor_of_name (by decide +kernel)) (fun _ => by decide +kernel) (fun p h => by unfold tb_X5_heldPieces; rw [Nat.ble_eq.mpr h]; rfl) ok_X5_heldPieces os_X5_heldPieces
    (fun _ h => absurd h List.not_mem_nil)
    (fun _ h => absurd h List.not_mem_nil)
    (Or.inl rfl) (Or.inl rfl)
    (fun _ h => absurd h List.not_mem_nil)
    (Or.inl rfl)
    (fun _ h => absurd h List.not_mem_nil)
    (fun _ h => absurd h List.not_mem_nil)
    hfl_X5 hpf_X5 hnw_X5 (fun p _ => rfl) (by decide +kernel)
    (fun _ h => absurd h List.not_mem_nil)
theorem ok_J9_max_7cf53 : sl_okT cJ9_max_7cf53 ck_J9 tb_J9_max_7cf53 11 = true := by decide +kernel
theorem os_J9_max_7cf53 : sl_sT 2 1 0 1 [] [] [] [] [] tb_J9_max_7cf53 11 = true := by decide +kernel
theorem gc_J9_max_7cf53 (hst : l.stackTraces = false) (hM : sl_Mem ad base NA ln rd VR cn wr al MI sn) (hMo : sl_Mo wr al cn sn)  :
    sl_CC ad base NA Hb D cA ln rd VR MI cn sn l 0 yJ9_max_7cf53 cJ9_max_7cf53 2 (sl_rt 1 "") 0 0 1 0 (fun as m => sl_B tb_J9_max_7cf53 fl_J9 pf_J9 cl_J9_max_7cf53 nw_J9 rd wr al ln 0 (fun _ => 0) call sp_J9_max_7cf53 mk_J9_max_7cf53 100000 (0, sl_lo 2 as, []) m) :=
  sl_mk (NT := 11) (NC := 0) (LC := []) hst hM hMo (fun h => absurd rfl h) (by decide +kernel) (fun h => absurd rfl h) (fun p h => by unfold tb_J9_max_7cf53; rw [Nat.ble_eq.mpr h]; rfl) ok_J9_max_7cf53 os_J9_max_7cf53
    (fun _ h => absurd h List.not_mem_nil)
    (fun _ h => absurd h List.not_mem_nil)
    (Or.inl rfl) (Or.inl rfl)
    (fun _ h => absurd h List.not_mem_nil)
    (Or.inl rfl)
    (fun _ h => absurd h List.not_mem_nil)
    (fun _ h => absurd h List.not_mem_nil)
    hfl_J9 hpf_J9 hnw_J9 (fun p _ => rfl) (by decide +kernel)
    (fun _ h => absurd h List.not_mem_nil)
theorem ok_J9_min_7cf53 : sl_okT cJ9_min_7cf53 ck_J9 tb_J9_min_7cf53 11 = true := by decide +kernel
theorem os_J9_min_7cf53 : sl_sT 2 1 0 1 [] [] [] [] [] tb_J9_min_7cf53 11 = true := by decide +kernel
theorem gc_J9_min_7cf53 (hst : l.stackTraces = false) (hM : sl_Mem ad base NA ln rd VR cn wr al MI sn) (hMo : sl_Mo wr al cn sn)  :
    sl_CC ad base NA Hb D cA ln rd VR MI cn sn l 0 yJ9_min_7cf53 cJ9_min_7cf53 2 (sl_rt 1 "") 0 0 1 0 (fun as m => sl_B tb_J9_min_7cf53 fl_J9 pf_J9 cl_J9_min_7cf53 nw_J9 rd wr al ln 0 (fun _ => 0) call sp_J9_min_7cf53 mk_J9_min_7cf53 100000 (0, sl_lo 2 as, []) m) :=
  sl_mk (NT := 11) (NC := 0) (LC := []) hst hM hMo (fun h => absurd rfl h) (by decide +kernel) (fun h => absurd rfl h) (fun p h => by unfold tb_J9_min_7cf53; rw [Nat.ble_eq.mpr h]; rfl) ok_J9_min_7cf53 os_J9_min_7cf53
    (fun _ h => absurd h List.not_mem_nil)
    (fun _ h => absurd h List.not_mem_nil)
    (Or.inl rfl) (Or.inl rfl)
    (fun _ h => absurd h List.not_mem_nil)
    (Or.inl rfl)
    (fun _ h => absurd h List.not_mem_nil)
    (fun _ h => absurd h List.not_mem_nil)
    hfl_J9 hpf_J9 hnw_J9 (fun p _ => rfl) (by decide +kernel)
    (fun _ h => absurd h List.not_mem_nil)
theorem ok_X6_cutTo : sl_okT cX6_cutTo ck_X6 tb_X6_cutTo 17 = true := by decide +kernel
theorem os_X6_cutTo : sl_sT 2 0 0 0 [] [] [] [] [] tb_X6_cutTo 17 = true := by decide +kernel
theorem gc_X6_cutTo (hst : l.stackTraces = false) (hM : sl_Mem ad base NA ln rd VR cn wr al MI sn) (hMo : sl_Mo wr al cn sn) (h_J9_max_7cf53 : sl_CC ad base NA Hb D cA ln rd VR MI cn sn l 0 yJ9_max_7cf53 cJ9_max_7cf53 2 (sl_rt 1 "") 0 0 1 0 (call 135)) (h_J9_min_7cf53 : sl_CC ad base NA Hb D cA ln rd VR MI cn sn l 0 yJ9_min_7cf53 cJ9_min_7cf53 2 (sl_rt 1 "") 0 0 1 0 (call 136)) :
    sl_CC ad base NA Hb D cA ln rd VR MI cn sn l 0 yX6_cutTo cX6_cutTo 2 (sl_rt 0 "") 1 21 0 0 (fun as m => sl_B tb_X6_cutTo fl_X6 pf_X6 cl_X6_cutTo nw_X6 rd wr al ln 0 (fun _ => 0) call sp_X6_cutTo mk_X6_cutTo 100000 (0, sl_lo 2 as, []) m) :=
  sl_mk (NT := 17) (NC := 26) (LC := [(19, (136, 2, 1, 0, 0, 0)), (25, (135, 2, 1, 0, 0, 0))]) hst hM hMo (fun h => absurd rfl h) (plainFor_of_name (by decide +kernel)) (fun _ => by decide +kernel) (fun p h => by unfold tb_X6_cutTo; rw [Nat.ble_eq.mpr h]; rfl) ok_X6_cutTo os_X6_cutTo
    (fun _ h => absurd h List.not_mem_nil)
    (fun _ h => absurd h List.not_mem_nil)
    (Or.inl rfl) (Or.inl rfl)
    (fun _ h => absurd h List.not_mem_nil)
    (Or.inl rfl)
    (fun _ h => absurd h List.not_mem_nil)
    (fun _ h => absurd h List.not_mem_nil)
    hfl_X6 hpf_X6 hnw_X6 (fun p h => by unfold cl_X6_cutTo; rw [Nat.ble_eq.mpr h]; rfl) (by decide +kernel)
    (fun q h => by
    simp only [List.mem_cons, List.not_mem_nil, or_false] at h
    rcases h with rfl | rfl
    · exact ⟨yJ9_min_7cf53, cJ9_min_7cf53, 2, (sl_rt 1 ""), 0, 0, cy1_J9_min_7cf53 (sl_gw_at 430 (by decide +kernel) (by decide +kernel)) ⟨by decide, by decide⟩, fun h => absurd rfl h, h_J9_min_7cf53⟩
    · exact ⟨yJ9_max_7cf53, cJ9_max_7cf53, 2, (sl_rt 1 ""), 0, 0, cy1_J9_max_7cf53 (sl_gw_at 433 (by decide +kernel) (by decide +kernel)) ⟨by decide, by decide⟩, fun h => absurd rfl h, h_J9_max_7cf53⟩
    )
theorem ok_X7_layPiece : sl_okT cX7_layPiece ck_X7 tb_X7_layPiece 53 = true := by decide +kernel
theorem os_X7_layPiece : sl_sT 5 0 0 0 [] [] [] [] [] tb_X7_layPiece 53 = true := by decide +kernel
theorem gc_X7_layPiece (hst : l.stackTraces = false) (hM : sl_Mem ad base NA ln rd VR cn wr al MI sn) (hMo : sl_Mo wr al cn sn) (h_X4_startBody : sl_CC ad base NA Hb D cA ln rd VR MI cn sn l 0 yX4_startBody cX4_startBody 3 (sl_rt 3 "SerialLink$Row") 1 21 2 6 (call 22)) (h_X4_lay : sl_CC ad base NA Hb D cA ln rd VR MI cn sn l 0 yX4_lay cX4_lay 6 (sl_rt 0 "") 2 47 0 0 (call 23)) (h_X6_addPart : sl_CC ad base NA Hb D cA ln rd VR MI cn sn l 0 yX6_addPart cX6_addPart 5 (sl_rt 0 "") 1 21 0 0 (call 39)) (h_X8_inRing : sl_CC ad base NA Hb D cA ln rd VR MI cn sn l 0 yX8_inRing cX8_inRing 2 (sl_rt 1 "") 1 22 1 0 (call 55)) :
    sl_CC ad base NA Hb D cA ln rd VR MI cn sn l 0 yX7_layPiece cX7_layPiece 5 (sl_rt 0 "") 3 72 0 0 (fun as m => sl_B tb_X7_layPiece fl_X7 pf_X7 cl_X7_layPiece nw_X7 rd wr al ln 0 (fun _ => 0) call sp_X7_layPiece mk_X7_layPiece 100000 (0, sl_lo 5 as, []) m) :=
  sl_mk (NT := 53) (NC := 118) (LC := [(103, (55, 2, 1, 0, 0, 9)), (107, (22, 3, 2, 6, 0, 5)), (113, (39, 4, 0, 0, 0, 7)), (117, (23, 2, 0, 0, 0, 5))]) hst hM hMo (fun h => absurd rfl h) (plainFor_of_name (by decide +kernel)) (fun _ => by decide +kernel) (fun p h => by unfold tb_X7_layPiece; rw [Nat.ble_eq.mpr h]; rfl) ok_X7_layPiece os_X7_layPiece
    (fun _ h => absurd h List.not_mem_nil)
    (fun _ h => absurd h List.not_mem_nil)
    (Or.inl rfl) (Or.inl rfl)
    (fun _ h => absurd h List.not_mem_nil)
    (Or.inl rfl)
    (fun _ h => absurd h List.not_mem_nil)
    (fun _ h => absurd h List.not_mem_nil)
    hfl_X7 hpf_X7 hnw_X7 (fun p h => by unfold cl_X7_layPiece; rw [Nat.ble_eq.mpr h]; rfl) (by decide +kernel)
    (fun q h => by
    simp only [List.mem_cons, List.not_mem_nil, or_false] at h
    rcases h with rfl | rfl | rfl | rfl
    · exact ⟨yX8_inRing, cX8_inRing, 2, (sl_rt 1 ""), 1, 22, cy0_X8_inRing (sl_gw_at 479 (by decide +kernel) (by decide +kernel)) ⟨by decide, by decide⟩, fun h => absurd rfl h, h_X8_inRing⟩
    · exact ⟨yX4_startBody, cX4_startBody, 3, (sl_rt 3 "SerialLink$Row"), 1, 21, cy0_X4_startBody (sl_gw_at 486 (by decide +kernel) (by decide +kernel)) ⟨by decide, by decide⟩, fun h => absurd rfl h, h_X4_startBody⟩
    · exact ⟨yX6_addPart, cX6_addPart, 5, (sl_rt 0 ""), 1, 21, cy0_X6_addPart (sl_gw_at 492 (by decide +kernel) (by decide +kernel)) ⟨by decide, by decide⟩, fun h => absurd rfl h, h_X6_addPart⟩
    · exact ⟨yX4_lay, cX4_lay, 6, (sl_rt 0 ""), 2, 47, cy0_X4_lay (sl_gw_at 493 (by decide +kernel) (by decide +kernel)) ⟨by decide, by decide⟩, fun h => absurd rfl h, h_X4_lay⟩
    )
theorem ok_X7_layAllIfLate : sl_okT cX7_layAllIfLate ck_X7 tb_X7_layAllIfLate 75 = true := by decide +kernel
theorem os_X7_layAllIfLate : sl_sT 2 1 0 1 [] [] [] [] [] tb_X7_layAllIfLate 75 = true := by decide +kernel
theorem gc_X7_layAllIfLate (hst : l.stackTraces = false) (hM : sl_Mem ad base NA ln rd VR cn wr al MI sn) (hMo : sl_Mo wr al cn sn) (h_X7_layPiece : sl_CC ad base NA Hb D cA ln rd VR MI cn sn l 0 yX7_layPiece cX7_layPiece 5 (sl_rt 0 "") 3 72 0 0 (call 46)) :
    sl_CC ad base NA Hb D cA ln rd VR MI cn sn l 0 yX7_layAllIfLate cX7_layAllIfLate 2 (sl_rt 1 "") 4 96 1 0 (fun as m => sl_B tb_X7_layAllIfLate fl_X7 pf_X7 cl_X7_layAllIfLate nw_X7 rd wr al ln 0 (fun _ => 0) call sp_X7_layAllIfLate mk_X7_layAllIfLate 100000 (0, sl_lo 2 as, []) m) :=
  sl_mk (NT := 75) (NC := 91) (LC := [(90, (46, 3, 0, 0, 0, 8))]) hst hM hMo (fun h => absurd rfl h) (plainFor_of_name (by decide +kernel)) (fun _ => by decide +kernel) (fun p h => by unfold tb_X7_layAllIfLate; rw [Nat.ble_eq.mpr h]; rfl) ok_X7_layAllIfLate os_X7_layAllIfLate
    (fun _ h => absurd h List.not_mem_nil)
    (fun _ h => absurd h List.not_mem_nil)
    (Or.inl rfl) (Or.inl rfl)
    (fun _ h => absurd h List.not_mem_nil)
    (Or.inl rfl)
    (fun _ h => absurd h List.not_mem_nil)
    (fun _ h => absurd h List.not_mem_nil)
    hfl_X7 hpf_X7 hnw_X7 (fun p h => by unfold cl_X7_layAllIfLate; rw [Nat.ble_eq.mpr h]; rfl) (by decide +kernel)
    (fun q h => by
    simp only [List.mem_cons, List.not_mem_nil, or_false] at h
    rcases h with rfl
    · exact ⟨yX7_layPiece, cX7_layPiece, 5, (sl_rt 0 ""), 3, 72, cy0_X7_layPiece (sl_gw_at 475 (by decide +kernel) (by decide +kernel)) ⟨by decide, by decide⟩, fun h => absurd rfl h, h_X7_layPiece⟩
    )
theorem ok_X7_layLateOnes : sl_okT cX7_layLateOnes ck_X7 tb_X7_layLateOnes 77 = true := by decide +kernel
theorem os_X7_layLateOnes : sl_sT 4 1 0 1 [] [] [] [] [] tb_X7_layLateOnes 77 = true := by decide +kernel
theorem gc_X7_layLateOnes (hst : l.stackTraces = false) (hM : sl_Mem ad base NA ln rd VR cn wr al MI sn) (hMo : sl_Mo wr al cn sn) (h_X7_layPiece : sl_CC ad base NA Hb D cA ln rd VR MI cn sn l 0 yX7_layPiece cX7_layPiece 5 (sl_rt 0 "") 3 72 0 0 (call 46)) :
    sl_CC ad base NA Hb D cA ln rd VR MI cn sn l 0 yX7_layLateOnes cX7_layLateOnes 4 (sl_rt 1 "") 4 96 1 0 (fun as m => sl_B tb_X7_layLateOnes fl_X7 pf_X7 cl_X7_layLateOnes nw_X7 rd wr al ln 0 (fun _ => 0) call sp_X7_layLateOnes mk_X7_layLateOnes 100000 (0, sl_lo 4 as, []) m) :=
  sl_mk (NT := 77) (NC := 91) (LC := [(90, (46, 3, 0, 0, 0, 8))]) hst hM hMo (fun h => absurd rfl h) (plainFor_of_name (by decide +kernel)) (fun _ => by decide +kernel) (fun p h => by unfold tb_X7_layLateOnes; rw [Nat.ble_eq.mpr h]; rfl) ok_X7_layLateOnes os_X7_layLateOnes
    (fun _ h => absurd h List.not_mem_nil)
    (fun _ h => absurd h List.not_mem_nil)
    (Or.inl rfl) (Or.inl rfl)
    (fun _ h => absurd h List.not_mem_nil)
    (Or.inl rfl)
    (fun _ h => absurd h List.not_mem_nil)
    (fun _ h => absurd h List.not_mem_nil)
    hfl_X7 hpf_X7 hnw_X7 (fun p h => by unfold cl_X7_layLateOnes; rw [Nat.ble_eq.mpr h]; rfl) (by decide +kernel)
    (fun q h => by
    simp only [List.mem_cons, List.not_mem_nil, or_false] at h
    rcases h with rfl
    · exact ⟨yX7_layPiece, cX7_layPiece, 5, (sl_rt 0 ""), 3, 72, cy0_X7_layPiece (sl_gw_at 475 (by decide +kernel) (by decide +kernel)) ⟨by decide, by decide⟩, fun h => absurd rfl h, h_X7_layPiece⟩
    )
theorem ok_X7_makePiece : sl_okT cX7_makePiece ck_X7 tb_X7_makePiece 117 = true := by decide +kernel
theorem os_X7_makePiece : sl_sT 2 0 0 0 [] [] [] [] [] tb_X7_makePiece 117 = true := by decide +kernel
theorem gc_X7_makePiece (hst : l.stackTraces = false) (hM : sl_Mem ad base NA ln rd VR cn wr al MI sn) (hMo : sl_Mo wr al cn sn) (h_X7_layPiece : sl_CC ad base NA Hb D cA ln rd VR MI cn sn l 0 yX7_layPiece cX7_layPiece 5 (sl_rt 0 "") 3 72 0 0 (call 46)) (h_J9_min_7cf53 : sl_CC ad base NA Hb D cA ln rd VR MI cn sn l 0 yJ9_min_7cf53 cJ9_min_7cf53 2 (sl_rt 1 "") 0 0 1 0 (call 136)) :
    sl_CC ad base NA Hb D cA ln rd VR MI cn sn l 0 yX7_makePiece cX7_makePiece 2 (sl_rt 0 "") 4 96 0 0 (fun as m => sl_B tb_X7_makePiece fl_X7 pf_X7 cl_X7_makePiece nw_X7 rd wr al ln 0 (fun _ => 0) call sp_X7_makePiece mk_X7_makePiece 100000 (0, sl_lo 2 as, []) m) :=
  sl_mk (NT := 117) (NC := 98) (LC := [(90, (46, 3, 0, 0, 0, 8)), (97, (136, 2, 1, 0, 0, 0))]) hst hM hMo (fun h => absurd rfl h) (plainFor_of_name (by decide +kernel)) (fun _ => by decide +kernel) (fun p h => by unfold tb_X7_makePiece; rw [Nat.ble_eq.mpr h]; rfl) ok_X7_makePiece os_X7_makePiece
    (fun _ h => absurd h List.not_mem_nil)
    (fun _ h => absurd h List.not_mem_nil)
    (Or.inl rfl) (Or.inl rfl)
    (fun _ h => absurd h List.not_mem_nil)
    (Or.inl rfl)
    (fun _ h => absurd h List.not_mem_nil)
    (fun _ h => absurd h List.not_mem_nil)
    hfl_X7 hpf_X7 hnw_X7 (fun p h => by unfold cl_X7_makePiece; rw [Nat.ble_eq.mpr h]; rfl) (by decide +kernel)
    (fun q h => by
    simp only [List.mem_cons, List.not_mem_nil, or_false] at h
    rcases h with rfl | rfl
    · exact ⟨yX7_layPiece, cX7_layPiece, 5, (sl_rt 0 ""), 3, 72, cy0_X7_layPiece (sl_gw_at 475 (by decide +kernel) (by decide +kernel)) ⟨by decide, by decide⟩, fun h => absurd rfl h, h_X7_layPiece⟩
    · exact ⟨yJ9_min_7cf53, cJ9_min_7cf53, 2, (sl_rt 1 ""), 0, 0, cy1_J9_min_7cf53 (sl_gw_at 526 (by decide +kernel) (by decide +kernel)) ⟨by decide, by decide⟩, fun h => absurd rfl h, h_J9_min_7cf53⟩
    )
theorem ok_X7_passTick : sl_okT cX7_passTick ck_X7 tb_X7_passTick 83 = true := by decide +kernel
theorem os_X7_passTick : sl_sT 3 1 0 1 [] [] [] [] [] tb_X7_passTick 83 = true := by decide +kernel
theorem gc_X7_passTick (hst : l.stackTraces = false) (hM : sl_Mem ad base NA ln rd VR cn wr al MI sn) (hMo : sl_Mo wr al cn sn) (h_X7_layAllIfLate : sl_CC ad base NA Hb D cA ln rd VR MI cn sn l 0 yX7_layAllIfLate cX7_layAllIfLate 2 (sl_rt 1 "") 4 96 1 0 (call 43)) (h_X7_layLateOnes : sl_CC ad base NA Hb D cA ln rd VR MI cn sn l 0 yX7_layLateOnes cX7_layLateOnes 4 (sl_rt 1 "") 4 96 1 0 (call 44)) (h_X7_makePiece : sl_CC ad base NA Hb D cA ln rd VR MI cn sn l 0 yX7_makePiece cX7_makePiece 2 (sl_rt 0 "") 4 96 0 0 (call 45)) (h_X8_eachByItself : sl_CC ad base NA Hb D cA ln rd VR MI cn sn l 0 yX8_eachByItself cX8_eachByItself 1 (sl_rt 2 "") 0 0 1 0 (call 54)) :
    sl_CC ad base NA Hb D cA ln rd VR MI cn sn l 0 yX7_passTick cX7_passTick 3 (sl_rt 1 "") 5 119 1 0 (fun as m => sl_B tb_X7_passTick fl_X7 pf_X7 cl_X7_passTick nw_X7 rd wr al ln 0 (fun _ => 0) call sp_X7_passTick mk_X7_passTick 100000 (0, sl_lo 3 as, []) m) :=
  sl_mk (NT := 83) (NC := 85) (LC := [(65, (54, 1, 1, 0, 0, 9)), (71, (44, 1, 1, 0, 0, 8)), (75, (43, 1, 1, 0, 0, 8)), (84, (45, 1, 0, 0, 0, 8))]) hst hM hMo (fun h => absurd rfl h) (plainFor_of_name (by decide +kernel)) (fun _ => by decide +kernel) (fun p h => by unfold tb_X7_passTick; rw [Nat.ble_eq.mpr h]; rfl) ok_X7_passTick os_X7_passTick
    (fun _ h => absurd h List.not_mem_nil)
    (fun _ h => absurd h List.not_mem_nil)
    (Or.inl rfl) (Or.inl rfl)
    (fun _ h => absurd h List.not_mem_nil)
    (Or.inl rfl)
    (fun _ h => absurd h List.not_mem_nil)
    (fun _ h => absurd h List.not_mem_nil)
    hfl_X7 hpf_X7 hnw_X7 (fun p h => by unfold cl_X7_passTick; rw [Nat.ble_eq.mpr h]; rfl) (by decide +kernel)
    (fun q h => by
    simp only [List.mem_cons, List.not_mem_nil, or_false] at h
    rcases h with rfl | rfl | rfl | rfl
    · exact ⟨yX8_eachByItself, cX8_eachByItself, 1, (sl_rt 2 ""), 0, 0, cy0_X8_eachByItself (sl_gw_at 467 (by decide +kernel) (by decide +kernel)) ⟨by decide, by decide⟩, fun h => absurd rfl h, h_X8_eachByItself⟩
    · exact ⟨yX7_layLateOnes, cX7_layLateOnes, 4, (sl_rt 1 ""), 4, 96, cy0_X7_layLateOnes (sl_gw_at 471 (by decide +kernel) (by decide +kernel)) ⟨by decide, by decide⟩, fun h => absurd rfl h, h_X7_layLateOnes⟩
    · exact ⟨yX7_layAllIfLate, cX7_layAllIfLate, 2, (sl_rt 1 ""), 4, 96, cy0_X7_layAllIfLate (sl_gw_at 518 (by decide +kernel) (by decide +kernel)) ⟨by decide, by decide⟩, fun h => absurd rfl h, h_X7_layAllIfLate⟩
    · exact ⟨yX7_makePiece, cX7_makePiece, 2, (sl_rt 0 ""), 4, 96, cy0_X7_makePiece (sl_gw_at 522 (by decide +kernel) (by decide +kernel)) ⟨by decide, by decide⟩, fun h => absurd rfl h, h_X7_makePiece⟩
    )
theorem ok_X7_keptPieces : sl_okT cX7_keptPieces ck_X7 tb_X7_keptPieces 43 = true := by decide +kernel
theorem os_X7_keptPieces : sl_sT 3 1 0 1 [] [] [] [] [] tb_X7_keptPieces 43 = true := by decide +kernel
theorem gc_X7_keptPieces (hst : l.stackTraces = false) (hM : sl_Mem ad base NA ln rd VR cn wr al MI sn) (hMo : sl_Mo wr al cn sn)  :
    sl_CC ad base NA Hb D cA ln rd VR MI cn sn l 0 yX7_keptPieces cX7_keptPieces 3 (sl_rt 1 "") 0 0 1 0 (fun as m => sl_B tb_X7_keptPieces fl_X7 pf_X7 cl_X7_keptPieces nw_X7 rd wr al ln 0 (fun _ => 0) call sp_X7_keptPieces mk_X7_keptPieces 100000 (0, sl_lo 3 as, []) m) :=
  sl_mk (NT := 43) (NC := 0) (LC := []) hst hM hMo (fun h => absurd rfl h) (plainFor_of_name (by decide +kernel)) (fun _ => by decide +kernel) (fun p h => by unfold tb_X7_keptPieces; rw [Nat.ble_eq.mpr h]; rfl) ok_X7_keptPieces os_X7_keptPieces
    (fun _ h => absurd h List.not_mem_nil)
    (fun _ h => absurd h List.not_mem_nil)
    (Or.inl rfl) (Or.inl rfl)
    (fun _ h => absurd h List.not_mem_nil)
    (Or.inl rfl)
    (fun _ h => absurd h List.not_mem_nil)
    (fun _ h => absurd h List.not_mem_nil)
    hfl_X7 hpf_X7 hnw_X7 (fun p _ => rfl) (by decide +kernel)
    (fun _ h => absurd h List.not_mem_nil)
theorem ok_X8_widestWindow : sl_okT cX8_widestWindow ck_X8 tb_X8_widestWindow 21 = true := by decide +kernel
theorem os_X8_widestWindow : sl_sT 2 1 0 1 [] [] [] [] [] tb_X8_widestWindow 21 = true := by decide +kernel
theorem gc_X8_widestWindow (hst : l.stackTraces = false) (hM : sl_Mem ad base NA ln rd VR cn wr al MI sn) (hMo : sl_Mo wr al cn sn)  :
    sl_CC ad base NA Hb D cA ln rd VR MI cn sn l 0 yX8_widestWindow cX8_widestWindow 2 (sl_rt 1 "") 0 0 1 0 (fun as m => sl_B tb_X8_widestWindow fl_X8 pf_X8 cl_X8_widestWindow nw_X8 rd wr al ln 0 (fun _ => 0) call sp_X8_widestWindow mk_X8_widestWindow 100000 (0, sl_lo 2 as, []) m) :=
  sl_mk (NT := 21) (NC := 0) (LC := []) hst hM hMo (fun h => absurd rfl h) (plainFor_of_name (by decide +kernel)) (fun _ => by decide +kernel) (fun p h => by unfold tb_X8_widestWindow; rw [Nat.ble_eq.mpr h]; rfl) ok_X8_widestWindow os_X8_widestWindow
    (fun _ h => absurd h List.not_mem_nil)
    (fun _ h => absurd h List.not_mem_nil)
    (Or.inl rfl) (Or.inl rfl)
    (fun _ h => absurd h List.not_mem_nil)
    (Or.inl rfl)
    (fun _ h => absurd h List.not_mem_nil)
    (fun _ h => absurd h List.not_mem_nil)
    hfl_X8 hpf_X8 hnw_X8 (fun p _ => rfl) (by decide +kernel)
    (fun _ h => absurd h List.not_mem_nil)
theorem ok_X8_canBe : sl_okT cX8_canBe ck_X8 tb_X8_canBe 64 = true := by decide +kernel
theorem os_X8_canBe : sl_sT 5 1 0 2 [] [] [] [] [] tb_X8_canBe 64 = true := by decide +kernel
theorem gc_X8_canBe (hst : l.stackTraces = false) (hM : sl_Mem ad base NA ln rd VR cn wr al MI sn) (hMo : sl_Mo wr al cn sn) (h_X8_widestWindow : sl_CC ad base NA Hb D cA ln rd VR MI cn sn l 0 yX8_widestWindow cX8_widestWindow 2 (sl_rt 1 "") 0 0 1 0 (call 52)) :
    sl_CC ad base NA Hb D cA ln rd VR MI cn sn l 0 yX8_canBe cX8_canBe 5 (sl_rt 2 "") 1 21 1 0 (fun as m => sl_B tb_X8_canBe fl_X8 pf_X8 cl_X8_canBe nw_X8 rd wr al ln 0 (fun _ => 0) call sp_X8_canBe mk_X8_canBe 100000 (0, sl_lo 5 as, []) m) :=
  sl_mk (NT := 64) (NC := 28) (LC := [(27, (52, 2, 1, 0, 0, 0))]) hst hM hMo (fun h => absurd rfl h) (plainFor_of_name (by decide +kernel)) (fun _ => by decide +kernel) (fun p h => by unfold tb_X8_canBe; rw [Nat.ble_eq.mpr h]; rfl) ok_X8_canBe os_X8_canBe
    (fun _ h => absurd h List.not_mem_nil)
    (fun _ h => absurd h List.not_mem_nil)
    (Or.inl rfl) (Or.inl rfl)
    (fun _ h => absurd h List.not_mem_nil)
    (Or.inl rfl)
    (fun _ h => absurd h List.not_mem_nil)
    (fun _ h => absurd h List.not_mem_nil)
    hfl_X8 hpf_X8 hnw_X8 (fun p h => by unfold cl_X8_canBe; rw [Nat.ble_eq.mpr h]; rfl) (by decide +kernel)
    (fun q h => by
    simp only [List.mem_cons, List.not_mem_nil, or_false] at h
    rcases h with rfl
    · exact ⟨yX8_widestWindow, cX8_widestWindow, 2, (sl_rt 1 ""), 0, 0, cy1_X8_widestWindow (sl_gw_at 361 (by decide +kernel) (by decide +kernel)) ⟨by decide, by decide⟩, fun h => absurd rfl h, h_X8_widestWindow⟩
    )
theorem ok_X8_choose : sl_okT cX8_choose ck_X8 tb_X8_choose 28 = true := by decide +kernel
theorem os_X8_choose : sl_sT 6 0 0 0 [] [] [] [] [] tb_X8_choose 28 = true := by decide +kernel
theorem gc_X8_choose (hst : l.stackTraces = false) (hM : sl_Mem ad base NA ln rd VR cn wr al MI sn) (hMo : sl_Mo wr al cn sn)  :
    sl_CC ad base NA Hb D cA ln rd VR MI cn sn l 0 yX8_choose cX8_choose 6 (sl_rt 0 "") 0 0 0 0 (fun as m => sl_B tb_X8_choose fl_X8 pf_X8 cl_X8_choose nw_X8 rd wr al ln 0 (fun _ => 0) call sp_X8_choose mk_X8_choose 100000 (0, sl_lo 6 as, []) m) :=
  sl_mk (NT := 28) (NC := 0) (LC := []) hst hM hMo (fun h => absurd rfl h) (plainFor_of_name (by decide +kernel)) (fun _ => by decide +kernel) (fun p h => by unfold tb_X8_choose; rw [Nat.ble_eq.mpr h]; rfl) ok_X8_choose os_X8_choose
    (fun _ h => absurd h List.not_mem_nil)
    (fun _ h => absurd h List.not_mem_nil)
    (Or.inl rfl) (Or.inl rfl)
    (fun _ h => absurd h List.not_mem_nil)
    (Or.inl rfl)
    (fun _ h => absurd h List.not_mem_nil)
    (fun _ h => absurd h List.not_mem_nil)
    hfl_X8 hpf_X8 hnw_X8 (fun p _ => rfl) (by decide +kernel)
    (fun _ h => absurd h List.not_mem_nil)
theorem ok_X9_clear : sl_okT cX9_clear ck_X9 tb_X9_clear 9 = true := by decide +kernel
theorem os_X9_clear : sl_sT 1 0 0 0 [] [] [] [] [] tb_X9_clear 9 = true := by decide +kernel
theorem gc_X9_clear (hst : l.stackTraces = false) (hM : sl_Mem ad base NA ln rd VR cn wr al MI sn) (hMo : sl_Mo wr al cn sn) (h_J7_fill_53178 : sl_CC ad base NA Hb D cA ln rd VR MI cn sn l 0 yJ7_fill_53178 cJ7_fill_53178 4 (sl_rt 0 "") 0 0 0 0 (call 137)) :
    sl_CC ad base NA Hb D cA ln rd VR MI cn sn l 0 yX9_clear cX9_clear 1 (sl_rt 0 "") 1 23 0 0 (fun as m => sl_B tb_X9_clear fl_X9 pf_X9 cl_X9_clear nw_X9 rd wr al ln 0 (fun _ => 0) call sp_X9_clear mk_X9_clear 100000 (0, sl_lo 1 as, []) m) :=
  sl_mk (NT := 9) (NC := 16) (LC := [(15, (137, 2, 0, 0, 0, 0))]) hst hM hMo (fun h => absurd rfl h) (plainFor_of_name (by decide +kernel)) (fun _ => by decide +kernel) (fun p h => by unfold tb_X9_clear; rw [Nat.ble_eq.mpr h]; rfl) ok_X9_clear os_X9_clear
    (fun _ h => absurd h List.not_mem_nil)
    (fun _ h => absurd h List.not_mem_nil)
    (Or.inl rfl) (Or.inl rfl)
    (fun _ h => absurd h List.not_mem_nil)
    (Or.inl rfl)
    (fun _ h => absurd h List.not_mem_nil)
    (fun _ h => absurd h List.not_mem_nil)
    hfl_X9 hpf_X9 hnw_X9 (fun p h => by unfold cl_X9_clear; rw [Nat.ble_eq.mpr h]; rfl) (by decide +kernel)
    (fun q h => by
    simp only [List.mem_cons, List.not_mem_nil, or_false] at h
    rcases h with rfl
    · exact ⟨yJ7_fill_53178, cJ7_fill_53178, 4, (sl_rt 0 ""), 0, 0, cy1_J7_fill_53178 (sl_gw_at 372 (by decide +kernel) (by decide +kernel)) ⟨by decide, by decide⟩, fun h => absurd rfl h, h_J7_fill_53178⟩
    )
theorem ok_X9_of : sl_okT cX9_of ck_X9 tb_X9_of 30 = true := by decide +kernel
theorem os_X9_of : sl_sT 2 1 0 1 [] [] [] [] [] tb_X9_of 30 = true := by decide +kernel
theorem gc_X9_of (hst : l.stackTraces = false) (hM : sl_Mem ad base NA ln rd VR cn wr al MI sn) (hMo : sl_Mo wr al cn sn)  :
    sl_CC ad base NA Hb D cA ln rd VR MI cn sn l 0 yX9_of cX9_of 2 (sl_rt 1 "") 0 0 1 0 (fun as m => sl_B tb_X9_of fl_X9 pf_X9 cl_X9_of nw_X9 rd wr al ln 0 (fun _ => 0) call sp_X9_of mk_X9_of 100000 (0, sl_lo 2 as, []) m) :=
  sl_mk (NT := 30) (NC := 0) (LC := []) hst hM hMo (fun h => absurd rfl h) (plainFor_of_name (by decide +kernel)) (fun _ => by decide +kernel) (fun p h => by unfold tb_X9_of; rw [Nat.ble_eq.mpr h]; rfl) ok_X9_of os_X9_of
    (fun _ h => absurd h List.not_mem_nil)
    (fun _ h => absurd h List.not_mem_nil)
    (Or.inl rfl) (Or.inl rfl)
    (fun _ h => absurd h List.not_mem_nil)
    (Or.inl rfl)
    (fun _ h => absurd h List.not_mem_nil)
    (fun _ h => absurd h List.not_mem_nil)
    hfl_X9 hpf_X9 hnw_X9 (fun p _ => rfl) (by decide +kernel)
    (fun _ h => absurd h List.not_mem_nil)
theorem ok_X10_open : sl_okT cX10_open ck_X10 tb_X10_open 73 = true := by decide +kernel
theorem os_X10_open : sl_sT 6 1 0 2 [] [] [] [] [] tb_X10_open 73 = true := by decide +kernel
theorem gc_X10_open (hst : l.stackTraces = false) (hM : sl_Mem ad base NA ln rd VR cn wr al MI sn) (hMo : sl_Mo wr al cn sn) (h_X1_clear : sl_CC ad base NA Hb D cA ln rd VR MI cn sn l 0 yX1_clear cX1_clear 1 (sl_rt 0 "") 2 43 0 0 (call 4)) (h_X3_clear : sl_CC ad base NA Hb D cA ln rd VR MI cn sn l 0 yX3_clear cX3_clear 1 (sl_rt 0 "") 0 0 0 0 (call 14)) (h_X4_clear : sl_CC ad base NA Hb D cA ln rd VR MI cn sn l 0 yX4_clear cX4_clear 1 (sl_rt 0 "") 0 0 0 0 (call 18)) (h_X8_canBe : sl_CC ad base NA Hb D cA ln rd VR MI cn sn l 0 yX8_canBe cX8_canBe 5 (sl_rt 2 "") 1 21 1 0 (call 51)) (h_X8_choose : sl_CC ad base NA Hb D cA ln rd VR MI cn sn l 0 yX8_choose cX8_choose 6 (sl_rt 0 "") 0 0 0 0 (call 53)) (h_X9_clear : sl_CC ad base NA Hb D cA ln rd VR MI cn sn l 0 yX9_clear cX9_clear 1 (sl_rt 0 "") 1 23 0 0 (call 58)) :
    sl_CC ad base NA Hb D cA ln rd VR MI cn sn l 0 yX10_open cX10_open 6 (sl_rt 2 "") 3 63 1 0 (fun as m => sl_B tb_X10_open fl_X10 pf_X10 cl_X10_open nw_X10 rd wr al ln 0 (fun _ => 0) call sp_X10_open mk_X10_open 100000 (0, sl_lo 6 as, []) m) :=
  sl_mk (NT := 73) (NC := 80) (LC := [(66, (51, 5, 1, 0, 0, 0)), (70, (53, 6, 0, 0, 0, 9)), (74, (58, 1, 0, 0, 0, 10)), (77, (18, 1, 0, 0, 0, 5)), (78, (4, 1, 0, 0, 0, 2)), (79, (14, 1, 0, 0, 0, 4))]) hst hM hMo (fun h => absurd rfl h) (plainFor_of_name (by decide +kernel)) (fun _ => by decide +kernel) (fun p h => by unfold tb_X10_open; rw [Nat.ble_eq.mpr h]; rfl) ok_X10_open os_X10_open
    (fun _ h => absurd h List.not_mem_nil)
    (fun _ h => absurd h List.not_mem_nil)
    (Or.inl rfl) (Or.inl rfl)
    (fun _ h => absurd h List.not_mem_nil)
    (Or.inl rfl)
    (fun _ h => absurd h List.not_mem_nil)
    (fun _ h => absurd h List.not_mem_nil)
    hfl_X10 hpf_X10 hnw_X10 (fun p h => by unfold cl_X10_open; rw [Nat.ble_eq.mpr h]; rfl) (by decide +kernel)
    (fun q h => by
    simp only [List.mem_cons, List.not_mem_nil, or_false] at h
    rcases h with rfl | rfl | rfl | rfl | rfl | rfl
    · exact ⟨yX8_canBe, cX8_canBe, 5, (sl_rt 2 ""), 1, 21, cy1_X8_canBe (sl_gw_at 358 (by decide +kernel) (by decide +kernel)) ⟨by decide, by decide⟩, fun h => absurd rfl h, h_X8_canBe⟩
    · exact ⟨yX8_choose, cX8_choose, 6, (sl_rt 0 ""), 0, 0, cy0_X8_choose (sl_gw_at 364 (by decide +kernel) (by decide +kernel)) ⟨by decide, by decide⟩, fun h => absurd rfl h, h_X8_choose⟩
    · exact ⟨yX9_clear, cX9_clear, 1, (sl_rt 0 ""), 1, 23, cy0_X9_clear (sl_gw_at 368 (by decide +kernel) (by decide +kernel)) ⟨by decide, by decide⟩, fun h => absurd rfl h, h_X9_clear⟩
    · exact ⟨yX4_clear, cX4_clear, 1, (sl_rt 0 ""), 0, 0, cy0_X4_clear (sl_gw_at 375 (by decide +kernel) (by decide +kernel)) ⟨by decide, by decide⟩, fun h => absurd rfl h, h_X4_clear⟩
    · exact ⟨yX1_clear, cX1_clear, 1, (sl_rt 0 ""), 2, 43, cy0_X1_clear (sl_gw_at 379 (by decide +kernel) (by decide +kernel)) ⟨by decide, by decide⟩, fun h => absurd rfl h, h_X1_clear⟩
    · exact ⟨yX3_clear, cX3_clear, 1, (sl_rt 0 ""), 0, 0, cy0_X3_clear (sl_gw_at 402 (by decide +kernel) (by decide +kernel)) ⟨by decide, by decide⟩, fun h => absurd rfl h, h_X3_clear⟩
    )
theorem ok_X10_feedNumber : sl_okT cX10_feedNumber ck_X10 tb_X10_feedNumber 25 = true := by decide +kernel
theorem os_X10_feedNumber : sl_sT 3 0 0 0 [] [] [] [] [] tb_X10_feedNumber 25 = true := by decide +kernel
theorem gc_X10_feedNumber (hst : l.stackTraces = false) (hM : sl_Mem ad base NA ln rd VR cn wr al MI sn) (hMo : sl_Mo wr al cn sn) (h_X6_add : sl_CC ad base NA Hb D cA ln rd VR MI cn sn l 0 yX6_add cX6_add 2 (sl_rt 2 "") 0 0 1 0 (call 37)) :
    sl_CC ad base NA Hb D cA ln rd VR MI cn sn l 0 yX10_feedNumber cX10_feedNumber 3 (sl_rt 0 "") 1 21 0 0 (fun as m => sl_B tb_X10_feedNumber fl_X10 pf_X10 cl_X10_feedNumber nw_X10 rd wr al ln 0 (fun _ => 0) call sp_X10_feedNumber mk_X10_feedNumber 100000 (0, sl_lo 3 as, []) m) :=
  sl_mk (NT := 25) (NC := 92) (LC := [(91, (37, 2, 1, 0, 0, 7))]) hst hM hMo (fun h => absurd rfl h) (plainFor_of_name (by decide +kernel)) (fun _ => by decide +kernel) (fun p h => by unfold tb_X10_feedNumber; rw [Nat.ble_eq.mpr h]; rfl) ok_X10_feedNumber os_X10_feedNumber
    (fun _ h => absurd h List.not_mem_nil)
    (fun _ h => absurd h List.not_mem_nil)
    (Or.inl rfl) (Or.inl rfl)
    (fun _ h => absurd h List.not_mem_nil)
    (Or.inl rfl)
    (fun _ h => absurd h List.not_mem_nil)
    (fun _ h => absurd h List.not_mem_nil)
    hfl_X10 hpf_X10 hnw_X10 (fun p h => by unfold cl_X10_feedNumber; rw [Nat.ble_eq.mpr h]; rfl) (by decide +kernel)
    (fun q h => by
    simp only [List.mem_cons, List.not_mem_nil, or_false] at h
    rcases h with rfl
    · exact ⟨yX6_add, cX6_add, 2, (sl_rt 2 ""), 0, 0, cy0_X6_add (sl_gw_at 418 (by decide +kernel) (by decide +kernel)) ⟨by decide, by decide⟩, fun h => absurd rfl h, h_X6_add⟩
    )
theorem ok_X10_feed : sl_okT cX10_feed ck_X10 tb_X10_feed 49 = true := by decide +kernel
theorem os_X10_feed : sl_sT 6 1 0 1 [] [] [] [] [] tb_X10_feed 49 = true := by decide +kernel
theorem gc_X10_feed (hst : l.stackTraces = false) (hM : sl_Mem ad base NA ln rd VR cn wr al MI sn) (hMo : sl_Mo wr al cn sn) (h_X6_hasRoom : sl_CC ad base NA Hb D cA ln rd VR MI cn sn l 0 yX6_hasRoom cX6_hasRoom 2 (sl_rt 2 "") 0 0 1 0 (call 35)) (h_X10_feedNumber : sl_CC ad base NA Hb D cA ln rd VR MI cn sn l 0 yX10_feedNumber cX10_feedNumber 3 (sl_rt 0 "") 1 21 0 0 (call 64)) :
    sl_CC ad base NA Hb D cA ln rd VR MI cn sn l 0 yX10_feed cX10_feed 6 (sl_rt 1 "") 2 43 1 0 (fun as m => sl_B tb_X10_feed fl_X10 pf_X10 cl_X10_feed nw_X10 rd wr al ln 0 (fun _ => 0) call sp_X10_feed mk_X10_feed 100000 (0, sl_lo 6 as, []) m) :=
  sl_mk (NT := 49) (NC := 85) (LC := [(80, (35, 2, 1, 0, 0, 7)), (84, (64, 2, 0, 0, 0, 11))]) hst hM hMo (fun h => absurd rfl h) (plainFor_of_name (by decide +kernel)) (fun _ => by decide +kernel) (fun p h => by unfold tb_X10_feed; rw [Nat.ble_eq.mpr h]; rfl) ok_X10_feed os_X10_feed
    (fun _ h => absurd h List.not_mem_nil)
    (fun _ h => absurd h List.not_mem_nil)
    (Or.inl rfl) (Or.inl rfl)
    (fun _ h => absurd h List.not_mem_nil)
    (Or.inl rfl)
    (fun _ h => absurd h List.not_mem_nil)
    (fun _ h => absurd h List.not_mem_nil)
    hfl_X10 hpf_X10 hnw_X10 (fun p h => by unfold cl_X10_feed; rw [Nat.ble_eq.mpr h]; rfl) (by decide +kernel)
    (fun q h => by
    simp only [List.mem_cons, List.not_mem_nil, or_false] at h
    rcases h with rfl | rfl
    · exact ⟨yX6_hasRoom, cX6_hasRoom, 2, (sl_rt 2 ""), 0, 0, cy0_X6_hasRoom (sl_gw_at 410 (by decide +kernel) (by decide +kernel)) ⟨by decide, by decide⟩, fun h => absurd rfl h, h_X6_hasRoom⟩
    · exact ⟨yX10_feedNumber, cX10_feedNumber, 3, (sl_rt 0 ""), 1, 21, cy0_X10_feedNumber (sl_gw_at 414 (by decide +kernel) (by decide +kernel)) ⟨by decide, by decide⟩, fun h => absurd rfl h, h_X10_feedNumber⟩
    )
theorem ok_X10_cut : sl_okT cX10_cut ck_X10 tb_X10_cut 27 = true := by decide +kernel
theorem os_X10_cut : sl_sT 2 1 0 2 [] [] [] [] [] tb_X10_cut 27 = true := by decide +kernel
theorem gc_X10_cut (hst : l.stackTraces = false) (hM : sl_Mem ad base NA ln rd VR cn wr al MI sn) (hMo : sl_Mo wr al cn sn) (h_X6_cutTo : sl_CC ad base NA Hb D cA ln rd VR MI cn sn l 0 yX6_cutTo cX6_cutTo 2 (sl_rt 0 "") 1 21 0 0 (call 34)) :
    sl_CC ad base NA Hb D cA ln rd VR MI cn sn l 0 yX10_cut cX10_cut 2 (sl_rt 2 "") 2 42 1 0 (fun as m => sl_B tb_X10_cut fl_X10 pf_X10 cl_X10_cut nw_X10 rd wr al ln 0 (fun _ => 0) call sp_X10_cut mk_X10_cut 100000 (0, sl_lo 2 as, []) m) :=
  sl_mk (NT := 27) (NC := 95) (LC := [(94, (34, 2, 0, 0, 0, 7))]) hst hM hMo (fun h => absurd rfl h) (plainFor_of_name (by decide +kernel)) (fun _ => by decide +kernel) (fun p h => by unfold tb_X10_cut; rw [Nat.ble_eq.mpr h]; rfl) ok_X10_cut os_X10_cut
    (fun _ h => absurd h List.not_mem_nil)
    (fun _ h => absurd h List.not_mem_nil)
    (Or.inl rfl) (Or.inl rfl)
    (fun _ h => absurd h List.not_mem_nil)
    (Or.inl rfl)
    (fun _ h => absurd h List.not_mem_nil)
    (fun _ h => absurd h List.not_mem_nil)
    hfl_X10 hpf_X10 hnw_X10 (fun p h => by unfold cl_X10_cut; rw [Nat.ble_eq.mpr h]; rfl) (by decide +kernel)
    (fun q h => by
    simp only [List.mem_cons, List.not_mem_nil, or_false] at h
    rcases h with rfl
    · exact ⟨yX6_cutTo, cX6_cutTo, 2, (sl_rt 0 ""), 1, 21, cy0_X6_cutTo (sl_gw_at 426 (by decide +kernel) (by decide +kernel)) ⟨by decide, by decide⟩, fun h => absurd rfl h, h_X6_cutTo⟩
    )
theorem ok_X10_take : sl_okT cX10_take ck_X10 tb_X10_take 40 = true := by decide +kernel
theorem os_X10_take : sl_sT 1 1 0 1 [] [] [] [] [] tb_X10_take 40 = true := by decide +kernel
theorem gc_X10_take (hst : l.stackTraces = false) (hM : sl_Mem ad base NA ln rd VR cn wr al MI sn) (hMo : sl_Mo wr al cn sn) (h_X6_clear : sl_CC ad base NA Hb D cA ln rd VR MI cn sn l 0 yX6_clear cX6_clear 1 (sl_rt 0 "") 0 0 0 0 (call 33)) (h_X6_addPart : sl_CC ad base NA Hb D cA ln rd VR MI cn sn l 0 yX6_addPart cX6_addPart 5 (sl_rt 0 "") 1 21 0 0 (call 39)) (h_J9_min_7cf53 : sl_CC ad base NA Hb D cA ln rd VR MI cn sn l 0 yJ9_min_7cf53 cJ9_min_7cf53 2 (sl_rt 1 "") 0 0 1 0 (call 136)) :
    sl_CC ad base NA Hb D cA ln rd VR MI cn sn l 0 yX10_take cX10_take 1 (sl_rt 1 "") 2 45 1 0 (fun as m => sl_B tb_X10_take fl_X10 pf_X10 cl_X10_take nw_X10 rd wr al ln 0 (fun _ => 0) call sp_X10_take mk_X10_take 100000 (0, sl_lo 1 as, []) m) :=
  sl_mk (NT := 40) (NC := 105) (LC := [(97, (33, 1, 0, 0, 0, 7)), (98, (136, 2, 1, 0, 0, 0)), (104, (39, 4, 0, 0, 0, 7))]) hst hM hMo (fun h => absurd rfl h) (plainFor_of_name (by decide +kernel)) (fun _ => by decide +kernel) (fun p h => by unfold tb_X10_take; rw [Nat.ble_eq.mpr h]; rfl) ok_X10_take os_X10_take
    (fun _ h => absurd h List.not_mem_nil)
    (fun _ h => absurd h List.not_mem_nil)
    (Or.inl rfl) (Or.inl rfl)
    (fun _ h => absurd h List.not_mem_nil)
    (Or.inl rfl)
    (fun _ h => absurd h List.not_mem_nil)
    (fun _ h => absurd h List.not_mem_nil)
    hfl_X10 hpf_X10 hnw_X10 (fun p h => by unfold cl_X10_take; rw [Nat.ble_eq.mpr h]; rfl) (by decide +kernel)
    (fun q h => by
    simp only [List.mem_cons, List.not_mem_nil, or_false] at h
    rcases h with rfl | rfl | rfl
    · exact ⟨yX6_clear, cX6_clear, 1, (sl_rt 0 ""), 0, 0, cy0_X6_clear (sl_gw_at 440 (by decide +kernel) (by decide +kernel)) ⟨by decide, by decide⟩, fun h => absurd rfl h, h_X6_clear⟩
    · exact ⟨yJ9_min_7cf53, cJ9_min_7cf53, 2, (sl_rt 1 ""), 0, 0, cy1_J9_min_7cf53 (sl_gw_at 441 (by decide +kernel) (by decide +kernel)) ⟨by decide, by decide⟩, fun h => absurd rfl h, h_J9_min_7cf53⟩
    · exact ⟨yX6_addPart, cX6_addPart, 5, (sl_rt 0 ""), 1, 21, cy0_X6_addPart (sl_gw_at 442 (by decide +kernel) (by decide +kernel)) ⟨by decide, by decide⟩, fun h => absurd rfl h, h_X6_addPart⟩
    )
theorem ok_X10_endAt : sl_okT cX10_endAt ck_X10 tb_X10_endAt 20 = true := by decide +kernel
theorem os_X10_endAt : sl_sT 2 2 1 3 [] [19] [] [] [] tb_X10_endAt 20 = true := by decide +kernel
theorem gc_X10_endAt (hst : l.stackTraces = false) (hM : sl_Mem ad base NA ln rd VR cn wr al MI sn) (hMo : sl_Mo wr al cn sn) (hNA : ∀ m : M, NA ≤ cn m)  :
    sl_CC ad base NA Hb D cA ln rd VR MI cn sn l 1 yX10_endAt cX10_endAt 2 (sl_rt 3 "SerialLink$End") 6 82 2 1 (fun as m => sl_B tb_X10_endAt fl_X10 pf_X10 cl_X10_endAt nw_X10 rd wr al ln 0 (fun _ => 0) call sp_X10_endAt mk_X10_endAt 100000 (0, sl_lo 2 as, []) m) :=
  sl_mk (NT := 20) (NC := 0) (LC := []) hst hM hMo (fun _ => hNA) (plainFor_of_name (by decide +kernel)) (fun _ => by decide +kernel) (fun p h => by unfold tb_X10_endAt; rw [Nat.ble_eq.mpr h]; rfl) ok_X10_endAt os_X10_endAt
    (fun _ h => absurd h List.not_mem_nil)
    (fun q h => by
    simp only [List.mem_cons, List.not_mem_nil, or_false] at h
    rcases h with rfl
    · exact ⟨rfl, 242, Or.inl rfl, by decide +kernel, by decide +kernel, by decide +kernel, by decide +kernel, by decide +kernel⟩)
    (Or.inr ⟨by decide, by decide⟩) (Or.inr (by decide))
    (fun _ h => absurd h List.not_mem_nil)
    (Or.inl rfl)
    (fun _ h => absurd h List.not_mem_nil)
    (fun _ h => absurd h List.not_mem_nil)
    hfl_X10 hpf_X10 hnw_X10 (fun p _ => rfl) (by decide +kernel)
    (fun _ h => absurd h List.not_mem_nil)
theorem ok_X10_give : sl_okT cX10_give ck_X10 tb_X10_give 56 = true := by decide +kernel
theorem os_X10_give : sl_sT 3 1 0 1 [] [] [] [] [] tb_X10_give 56 = true := by decide +kernel
theorem gc_X10_give (hst : l.stackTraces = false) (hM : sl_Mem ad base NA ln rd VR cn wr al MI sn) (hMo : sl_Mo wr al cn sn) (hNA : ∀ m : M, NA ≤ cn m) (h_X6_clear : sl_CC ad base NA Hb D cA ln rd VR MI cn sn l 0 yX6_clear cX6_clear 1 (sl_rt 0 "") 0 0 0 0 (call 33)) (h_X6_hasRoom : sl_CC ad base NA Hb D cA ln rd VR MI cn sn l 0 yX6_hasRoom cX6_hasRoom 2 (sl_rt 2 "") 0 0 1 0 (call 35)) (h_X6_addPart : sl_CC ad base NA Hb D cA ln rd VR MI cn sn l 0 yX6_addPart cX6_addPart 5 (sl_rt 0 "") 1 21 0 0 (call 39)) (h_X10_endAt : sl_CC ad base NA Hb D cA ln rd VR MI cn sn l 1 yX10_endAt cX10_endAt 2 (sl_rt 3 "SerialLink$End") 6 82 2 1 (call 86)) :
    sl_CC ad base NA Hb D cA ln rd VR MI cn sn l 1 yX10_give cX10_give 3 (sl_rt 1 "") 7 103 1 0 (fun as m => sl_B tb_X10_give fl_X10 pf_X10 cl_X10_give nw_X10 rd wr al ln 0 (fun _ => 0) call sp_X10_give mk_X10_give 100000 (0, sl_lo 3 as, []) m) :=
  sl_mk (NT := 56) (NC := 109) (LC := [(80, (35, 2, 1, 0, 0, 7)), (97, (33, 1, 0, 0, 0, 7)), (104, (39, 4, 0, 0, 0, 7)), (108, (86, 2, 2, 1, 1, 11))]) hst hM hMo (fun _ => hNA) (plainFor_of_name (by decide +kernel)) (fun _ => by decide +kernel) (fun p h => by unfold tb_X10_give; rw [Nat.ble_eq.mpr h]; rfl) ok_X10_give os_X10_give
    (fun _ h => absurd h List.not_mem_nil)
    (fun _ h => absurd h List.not_mem_nil)
    (Or.inl rfl) (Or.inl rfl)
    (fun _ h => absurd h List.not_mem_nil)
    (Or.inl rfl)
    (fun _ h => absurd h List.not_mem_nil)
    (fun _ h => absurd h List.not_mem_nil)
    hfl_X10 hpf_X10 hnw_X10 (fun p h => by unfold cl_X10_give; rw [Nat.ble_eq.mpr h]; rfl) (by decide +kernel)
    (fun q h => by
    simp only [List.mem_cons, List.not_mem_nil, or_false] at h
    rcases h with rfl | rfl | rfl | rfl
    · exact ⟨yX6_hasRoom, cX6_hasRoom, 2, (sl_rt 2 ""), 0, 0, cy0_X6_hasRoom (sl_gw_at 410 (by decide +kernel) (by decide +kernel)) ⟨by decide, by decide⟩, fun h => absurd rfl h, h_X6_hasRoom⟩
    · exact ⟨yX6_clear, cX6_clear, 1, (sl_rt 0 ""), 0, 0, cy0_X6_clear (sl_gw_at 440 (by decide +kernel) (by decide +kernel)) ⟨by decide, by decide⟩, fun h => absurd rfl h, h_X6_clear⟩
    · exact ⟨yX6_addPart, cX6_addPart, 5, (sl_rt 0 ""), 1, 21, cy0_X6_addPart (sl_gw_at 442 (by decide +kernel) (by decide +kernel)) ⟨by decide, by decide⟩, fun h => absurd rfl h, h_X6_addPart⟩
    · exact ⟨yX10_endAt, cX10_endAt, 2, (sl_rt 3 "SerialLink$End"), 6, 82, cy0_X10_endAt (sl_gw_at 743 (by decide +kernel) (by decide +kernel)) ⟨by decide, by decide⟩, fun h => ⟨rfl, by decide⟩, h_X10_endAt⟩
    )
theorem ok_X10_tickBoth : sl_okT cX10_tickBoth ck_X10 tb_X10_tickBoth 33 = true := by decide +kernel
theorem os_X10_tickBoth : sl_sT 2 1 0 1 [] [] [] [] [] tb_X10_tickBoth 33 = true := by decide +kernel
theorem gc_X10_tickBoth (hst : l.stackTraces = false) (hM : sl_Mem ad base NA ln rd VR cn wr al MI sn) (hMo : sl_Mo wr al cn sn) (h_X7_passTick : sl_CC ad base NA Hb D cA ln rd VR MI cn sn l 0 yX7_passTick cX7_passTick 3 (sl_rt 1 "") 5 119 1 0 (call 42)) (h_X9_add : sl_CC ad base NA Hb D cA ln rd VR MI cn sn l 0 yX9_add cX9_add 2 (sl_rt 0 "") 0 0 0 0 (call 59)) :
    sl_CC ad base NA Hb D cA ln rd VR MI cn sn l 0 yX10_tickBoth cX10_tickBoth 2 (sl_rt 1 "") 6 141 1 0 (fun as m => sl_B tb_X10_tickBoth fl_X10 pf_X10 cl_X10_tickBoth nw_X10 rd wr al ln 0 (fun _ => 0) call sp_X10_tickBoth mk_X10_tickBoth 100000 (0, sl_lo 2 as, []) m) :=
  sl_mk (NT := 33) (NC := 128) (LC := [(125, (59, 2, 0, 0, 0, 10)), (127, (42, 1, 1, 0, 0, 8))]) hst hM hMo (fun h => absurd rfl h) (plainFor_of_name (by decide +kernel)) (fun _ => by decide +kernel) (fun p h => by unfold tb_X10_tickBoth; rw [Nat.ble_eq.mpr h]; rfl) ok_X10_tickBoth os_X10_tickBoth
    (fun _ h => absurd h List.not_mem_nil)
    (fun _ h => absurd h List.not_mem_nil)
    (Or.inl rfl) (Or.inl rfl)
    (fun _ h => absurd h List.not_mem_nil)
    (Or.inl rfl)
    (fun _ h => absurd h List.not_mem_nil)
    (fun _ h => absurd h List.not_mem_nil)
    hfl_X10 hpf_X10 hnw_X10 (fun p h => by unfold cl_X10_tickBoth; rw [Nat.ble_eq.mpr h]; rfl) (by decide +kernel)
    (fun q h => by
    simp only [List.mem_cons, List.not_mem_nil, or_false] at h
    rcases h with rfl | rfl
    · exact ⟨yX9_add, cX9_add, 2, (sl_rt 0 ""), 0, 0, cy0_X9_add (sl_gw_at 459 (by decide +kernel) (by decide +kernel)) ⟨by decide, by decide⟩, fun h => absurd rfl h, h_X9_add⟩
    · exact ⟨yX7_passTick, cX7_passTick, 3, (sl_rt 1 ""), 5, 119, cy0_X7_passTick (sl_gw_at 463 (by decide +kernel) (by decide +kernel)) ⟨by decide, by decide⟩, fun h => absurd rfl h, h_X7_passTick⟩
    )
theorem ok_X10_tick : sl_okT cX10_tick ck_X10 tb_X10_tick 5 = true := by decide +kernel
theorem os_X10_tick : sl_sT 1 1 0 1 [] [] [] [] [] tb_X10_tick 5 = true := by decide +kernel
theorem gc_X10_tick (hst : l.stackTraces = false) (hM : sl_Mem ad base NA ln rd VR cn wr al MI sn) (hMo : sl_Mo wr al cn sn) (h_X10_tickBoth : sl_CC ad base NA Hb D cA ln rd VR MI cn sn l 0 yX10_tickBoth cX10_tickBoth 2 (sl_rt 1 "") 6 141 1 0 (call 69)) :
    sl_CC ad base NA Hb D cA ln rd VR MI cn sn l 0 yX10_tick cX10_tick 1 (sl_rt 1 "") 7 162 1 0 (fun as m => sl_B tb_X10_tick fl_X10 pf_X10 cl_X10_tick nw_X10 rd wr al ln 0 (fun _ => 0) call sp_X10_tick mk_X10_tick 100000 (0, sl_lo 1 as, []) m) :=
  sl_mk (NT := 5) (NC := 122) (LC := [(121, (69, 1, 1, 0, 0, 11))]) hst hM hMo (fun h => absurd rfl h) (plainFor_of_name (by decide +kernel)) (fun _ => by decide +kernel) (fun p h => by unfold tb_X10_tick; rw [Nat.ble_eq.mpr h]; rfl) ok_X10_tick os_X10_tick
    (fun _ h => absurd h List.not_mem_nil)
    (fun _ h => absurd h List.not_mem_nil)
    (Or.inl rfl) (Or.inl rfl)
    (fun _ h => absurd h List.not_mem_nil)
    (Or.inl rfl)
    (fun _ h => absurd h List.not_mem_nil)
    (fun _ h => absurd h List.not_mem_nil)
    hfl_X10 hpf_X10 hnw_X10 (fun p h => by unfold cl_X10_tick; rw [Nat.ble_eq.mpr h]; rfl) (by decide +kernel)
    (fun q h => by
    simp only [List.mem_cons, List.not_mem_nil, or_false] at h
    rcases h with rfl
    · exact ⟨yX10_tickBoth, cX10_tickBoth, 2, (sl_rt 1 ""), 6, 141, cy0_X10_tickBoth (sl_gw_at 455 (by decide +kernel) (by decide +kernel)) ⟨by decide, by decide⟩, fun h => absurd rfl h, h_X10_tickBoth⟩
    )
theorem ok_X10_canCarry : sl_okT cX10_canCarry ck_X10 tb_X10_canCarry 69 = true := by decide +kernel
theorem os_X10_canCarry : sl_sT 3 1 0 2 [] [] [] [] [] tb_X10_canCarry 69 = true := by decide +kernel
theorem gc_X10_canCarry (hst : l.stackTraces = false) (hM : sl_Mem ad base NA ln rd VR cn wr al MI sn) (hMo : sl_Mo wr al cn sn)  :
    sl_CC ad base NA Hb D cA ln rd VR MI cn sn l 0 yX10_canCarry cX10_canCarry 3 (sl_rt 2 "") 0 0 1 0 (fun as m => sl_B tb_X10_canCarry fl_X10 pf_X10 cl_X10_canCarry nw_X10 rd wr al ln 0 (fun _ => 0) call sp_X10_canCarry mk_X10_canCarry 100000 (0, sl_lo 3 as, []) m) :=
  sl_mk (NT := 69) (NC := 0) (LC := []) hst hM hMo (fun h => absurd rfl h) (plainFor_of_name (by decide +kernel)) (fun _ => by decide +kernel) (fun p h => by unfold tb_X10_canCarry; rw [Nat.ble_eq.mpr h]; rfl) ok_X10_canCarry os_X10_canCarry
    (fun _ h => absurd h List.not_mem_nil)
    (fun _ h => absurd h List.not_mem_nil)
    (Or.inl rfl) (Or.inl rfl)
    (fun _ h => absurd h List.not_mem_nil)
    (Or.inl rfl)
    (fun _ h => absurd h List.not_mem_nil)
    (fun _ h => absurd h List.not_mem_nil)
    hfl_X10 hpf_X10 hnw_X10 (fun p _ => rfl) (by decide +kernel)
    (fun _ h => absurd h List.not_mem_nil)
theorem ok_X10_bring : sl_okT cX10_bring ck_X10 tb_X10_bring 82 = true := by decide +kernel
theorem os_X10_bring : sl_sT 8 0 0 0 [] [] [] [] [] tb_X10_bring 82 = true := by decide +kernel
theorem gc_X10_bring (hst : l.stackTraces = false) (hM : sl_Mem ad base NA ln rd VR cn wr al MI sn) (hMo : sl_Mo wr al cn sn) (h_X1_hear : sl_CC ad base NA Hb D cA ln rd VR MI cn sn l 0 yX1_hear cX1_hear 3 (sl_rt 0 "") 5 118 0 0 (call 6)) (h_X6_at : sl_CC ad base NA Hb D cA ln rd VR MI cn sn l 0 yX6_at cX6_at 2 (sl_rt 1 "") 0 0 1 0 (call 36)) :
    sl_CC ad base NA Hb D cA ln rd VR MI cn sn l 0 yX10_bring cX10_bring 8 (sl_rt 0 "") 6 140 0 0 (fun as m => sl_B tb_X10_bring fl_X10 pf_X10 cl_X10_bring nw_X10 rd wr al ln 0 (fun _ => 0) call sp_X10_bring mk_X10_bring 100000 (0, sl_lo 8 as, []) m) :=
  sl_mk (NT := 82) (NC := 168) (LC := [(154, (6, 3, 0, 0, 0, 2)), (167, (36, 2, 1, 0, 0, 7))]) hst hM hMo (fun h => absurd rfl h) (plainFor_of_name (by decide +kernel)) (fun _ => by decide +kernel) (fun p h => by unfold tb_X10_bring; rw [Nat.ble_eq.mpr h]; rfl) ok_X10_bring os_X10_bring
    (fun _ h => absurd h List.not_mem_nil)
    (fun _ h => absurd h List.not_mem_nil)
    (Or.inl rfl) (Or.inl rfl)
    (fun _ h => absurd h List.not_mem_nil)
    (Or.inl rfl)
    (fun _ h => absurd h List.not_mem_nil)
    (fun _ h => absurd h List.not_mem_nil)
    hfl_X10 hpf_X10 hnw_X10 (fun p h => by unfold cl_X10_bring; rw [Nat.ble_eq.mpr h]; rfl) (by decide +kernel)
    (fun q h => by
    simp only [List.mem_cons, List.not_mem_nil, or_false] at h
    rcases h with rfl | rfl
    · exact ⟨yX1_hear, cX1_hear, 3, (sl_rt 0 ""), 5, 118, cy0_X1_hear (sl_gw_at 612 (by decide +kernel) (by decide +kernel)) ⟨by decide, by decide⟩, fun h => absurd rfl h, h_X1_hear⟩
    · exact ⟨yX6_at, cX6_at, 2, (sl_rt 1 ""), 0, 0, cy0_X6_at (sl_gw_at 611 (by decide +kernel) (by decide +kernel)) ⟨by decide, by decide⟩, fun h => absurd rfl h, h_X6_at⟩
    )
theorem ok_X10_laneAt : sl_okT cX10_laneAt ck_X10 tb_X10_laneAt 20 = true := by decide +kernel
theorem os_X10_laneAt : sl_sT 2 2 4 3 [] [19] [] [] [] tb_X10_laneAt 20 = true := by decide +kernel
theorem gc_X10_laneAt (hst : l.stackTraces = false) (hM : sl_Mem ad base NA ln rd VR cn wr al MI sn) (hMo : sl_Mo wr al cn sn) (hNA : ∀ m : M, NA ≤ cn m)  :
    sl_CC ad base NA Hb D cA ln rd VR MI cn sn l 1 yX10_laneAt cX10_laneAt 2 (sl_rt 3 "SerialLink$Lane") 6 82 2 4 (fun as m => sl_B tb_X10_laneAt fl_X10 pf_X10 cl_X10_laneAt nw_X10 rd wr al ln 0 (fun _ => 0) call sp_X10_laneAt mk_X10_laneAt 100000 (0, sl_lo 2 as, []) m) :=
  sl_mk (NT := 20) (NC := 0) (LC := []) hst hM hMo (fun _ => hNA) (plainFor_of_name (by decide +kernel)) (fun _ => by decide +kernel) (fun p h => by unfold tb_X10_laneAt; rw [Nat.ble_eq.mpr h]; rfl) ok_X10_laneAt os_X10_laneAt
    (fun _ h => absurd h List.not_mem_nil)
    (fun q h => by
    simp only [List.mem_cons, List.not_mem_nil, or_false] at h
    rcases h with rfl
    · exact ⟨rfl, 247, Or.inr rfl, by decide +kernel, by decide +kernel, by decide +kernel, by decide +kernel, by decide +kernel⟩)
    (Or.inr ⟨by decide, by decide⟩) (Or.inr (by decide))
    (fun _ h => absurd h List.not_mem_nil)
    (Or.inl rfl)
    (fun _ h => absurd h List.not_mem_nil)
    (fun _ h => absurd h List.not_mem_nil)
    hfl_X10 hpf_X10 hnw_X10 (fun p _ => rfl) (by decide +kernel)
    (fun _ h => absurd h List.not_mem_nil)
theorem ok_X10_hearerOf : sl_okT cX10_hearerOf ck_X10 tb_X10_hearerOf 16 = true := by decide +kernel
theorem os_X10_hearerOf : sl_sT 2 2 1 3 [] [] [] [] [] tb_X10_hearerOf 16 = true := by decide +kernel
theorem gc_X10_hearerOf (hst : l.stackTraces = false) (hM : sl_Mem ad base NA ln rd VR cn wr al MI sn) (hMo : sl_Mo wr al cn sn)  :
    sl_CC ad base NA Hb D cA ln rd VR MI cn sn l 0 yX10_hearerOf cX10_hearerOf 2 (sl_rt 3 "SerialLink$End") 0 0 2 1 (fun as m => sl_B tb_X10_hearerOf fl_X10 pf_X10 cl_X10_hearerOf nw_X10 rd wr al ln 0 (fun _ => 0) call sp_X10_hearerOf mk_X10_hearerOf 100000 (0, sl_lo 2 as, []) m) :=
  sl_mk (NT := 16) (NC := 0) (LC := []) hst hM hMo (fun h => absurd rfl h) (plainFor_of_name (by decide +kernel)) (fun _ => by decide +kernel) (fun p h => by unfold tb_X10_hearerOf; rw [Nat.ble_eq.mpr h]; rfl) ok_X10_hearerOf os_X10_hearerOf
    (fun _ h => absurd h List.not_mem_nil)
    (fun _ h => absurd h List.not_mem_nil)
    (Or.inl rfl) (Or.inl rfl)
    (fun _ h => absurd h List.not_mem_nil)
    (Or.inl rfl)
    (fun _ h => absurd h List.not_mem_nil)
    (fun _ h => absurd h List.not_mem_nil)
    hfl_X10 hpf_X10 hnw_X10 (fun p _ => rfl) (by decide +kernel)
    (fun _ h => absurd h List.not_mem_nil)
theorem ok_X10_carry : sl_okT cX10_carry ck_X10 tb_X10_carry 155 = true := by decide +kernel
theorem os_X10_carry : sl_sT 7 1 0 1 [] [] [] [] [] tb_X10_carry 155 = true := by decide +kernel
theorem gc_X10_carry (hst : l.stackTraces = false) (hM : sl_Mem ad base NA ln rd VR cn wr al MI sn) (hMo : sl_Mo wr al cn sn) (hNA : ∀ m : M, NA ≤ cn m) (h_X1_hear : sl_CC ad base NA Hb D cA ln rd VR MI cn sn l 0 yX1_hear cX1_hear 3 (sl_rt 0 "") 5 118 0 0 (call 6)) (h_X4_nth : sl_CC ad base NA Hb D cA ln rd VR MI cn sn l 0 yX4_nth cX4_nth 2 (sl_rt 3 "SerialLink$Frame") 2 44 3 2 (call 19)) (h_X4_dropFirst : sl_CC ad base NA Hb D cA ln rd VR MI cn sn l 0 yX4_dropFirst cX4_dropFirst 1 (sl_rt 0 "") 0 0 0 0 (call 21)) (h_X9_add : sl_CC ad base NA Hb D cA ln rd VR MI cn sn l 0 yX9_add cX9_add 2 (sl_rt 0 "") 0 0 0 0 (call 59)) (h_X10_canCarry : sl_CC ad base NA Hb D cA ln rd VR MI cn sn l 0 yX10_canCarry cX10_canCarry 3 (sl_rt 2 "") 0 0 1 0 (call 71)) (h_X10_bring : sl_CC ad base NA Hb D cA ln rd VR MI cn sn l 0 yX10_bring cX10_bring 8 (sl_rt 0 "") 6 140 0 0 (call 72)) (h_X10_laneAt : sl_CC ad base NA Hb D cA ln rd VR MI cn sn l 1 yX10_laneAt cX10_laneAt 2 (sl_rt 3 "SerialLink$Lane") 6 82 2 4 (call 87)) (h_X10_hearerOf : sl_CC ad base NA Hb D cA ln rd VR MI cn sn l 0 yX10_hearerOf cX10_hearerOf 2 (sl_rt 3 "SerialLink$End") 0 0 2 1 (call 88)) :
    sl_CC ad base NA Hb D cA ln rd VR MI cn sn l 1 yX10_carry cX10_carry 7 (sl_rt 1 "") 7 167 1 0 (fun as m => sl_B tb_X10_carry fl_X10 pf_X10 cl_X10_carry nw_X10 rd wr al ln 0 (fun _ => 0) call sp_X10_carry mk_X10_carry 100000 (0, sl_lo 7 as, []) m) :=
  sl_mk (NT := 155) (NC := 159) (LC := [(125, (59, 2, 0, 0, 0, 10)), (130, (87, 2, 2, 4, 1, 11)), (134, (19, 2, 3, 2, 0, 5)), (138, (71, 3, 1, 0, 0, 0)), (142, (88, 2, 2, 1, 0, 11)), (150, (72, 5, 0, 0, 0, 0)), (154, (6, 3, 0, 0, 0, 2)), (158, (21, 1, 0, 0, 0, 5))]) hst hM hMo (fun _ => hNA) (plainFor_of_name (by decide +kernel)) (fun _ => by decide +kernel) (fun p h => by unfold tb_X10_carry; rw [Nat.ble_eq.mpr h]; rfl) ok_X10_carry os_X10_carry
    (fun _ h => absurd h List.not_mem_nil)
    (fun _ h => absurd h List.not_mem_nil)
    (Or.inl rfl) (Or.inl rfl)
    (fun _ h => absurd h List.not_mem_nil)
    (Or.inl rfl)
    (fun _ h => absurd h List.not_mem_nil)
    (fun _ h => absurd h List.not_mem_nil)
    hfl_X10 hpf_X10 hnw_X10 (fun p h => by unfold cl_X10_carry; rw [Nat.ble_eq.mpr h]; rfl) (by decide +kernel)
    (fun q h => by
    simp only [List.mem_cons, List.not_mem_nil, or_false] at h
    rcases h with rfl | rfl | rfl | rfl | rfl | rfl | rfl | rfl
    · exact ⟨yX9_add, cX9_add, 2, (sl_rt 0 ""), 0, 0, cy0_X9_add (sl_gw_at 459 (by decide +kernel) (by decide +kernel)) ⟨by decide, by decide⟩, fun h => absurd rfl h, h_X9_add⟩
    · exact ⟨yX10_laneAt, cX10_laneAt, 2, (sl_rt 3 "SerialLink$Lane"), 6, 82, cy0_X10_laneAt (sl_gw_at 531 (by decide +kernel) (by decide +kernel)) ⟨by decide, by decide⟩, fun h => ⟨rfl, by decide⟩, h_X10_laneAt⟩
    · exact ⟨yX4_nth, cX4_nth, 2, (sl_rt 3 "SerialLink$Frame"), 2, 44, cy0_X4_nth (sl_gw_at 600 (by decide +kernel) (by decide +kernel)) ⟨by decide, by decide⟩, fun h => absurd rfl h, h_X4_nth⟩
    · exact ⟨yX10_canCarry, cX10_canCarry, 3, (sl_rt 2 ""), 0, 0, cy1_X10_canCarry (sl_gw_at 755 (by decide +kernel) (by decide +kernel)) ⟨by decide, by decide⟩, fun h => absurd rfl h, h_X10_canCarry⟩
    · exact ⟨yX10_hearerOf, cX10_hearerOf, 2, (sl_rt 3 "SerialLink$End"), 0, 0, cy0_X10_hearerOf (sl_gw_at 604 (by decide +kernel) (by decide +kernel)) ⟨by decide, by decide⟩, fun h => absurd rfl h, h_X10_hearerOf⟩
    · exact ⟨yX10_bring, cX10_bring, 8, (sl_rt 0 ""), 6, 140, cy1_X10_bring (sl_gw_at 608 (by decide +kernel) (by decide +kernel)) ⟨by decide, by decide⟩, fun h => absurd rfl h, h_X10_bring⟩
    · exact ⟨yX1_hear, cX1_hear, 3, (sl_rt 0 ""), 5, 118, cy0_X1_hear (sl_gw_at 612 (by decide +kernel) (by decide +kernel)) ⟨by decide, by decide⟩, fun h => absurd rfl h, h_X1_hear⟩
    · exact ⟨yX4_dropFirst, cX4_dropFirst, 1, (sl_rt 0 ""), 0, 0, cy0_X4_dropFirst (sl_gw_at 699 (by decide +kernel) (by decide +kernel)) ⟨by decide, by decide⟩, fun h => absurd rfl h, h_X4_dropFirst⟩
    )
end SLP4
