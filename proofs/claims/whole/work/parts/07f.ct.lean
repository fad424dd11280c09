-- par
section SLP6
variable {M : Type} {ad : Nat → Nat → Nat} {base NA : Nat} {Hb : Heap} {D : va_G} {cA : Nat → ClassId} {ln : Nat → Nat → Nat} {rd : M → Nat → Nat → Nat → sl_V} {VR : M → Nat × Nat → Prop} {MI : M → Prop} {cn sn : M → Nat} {l : Launch}
variable {wr : M → Nat → Nat → Nat → sl_V → Option M} {al : M → Nat → Int32 → Option ((Nat × Nat) × M)} {call : Nat → List sl_V → M → Option (sl_PL × M)}
theorem ok_X11_ticks : sl_okT cX11_ticks ck_X11 tb_X11_ticks 37 = true := by decide +kernel
theorem os_X11_ticks : sl_sT 2 1 0 1 [] [] [] [] [] tb_X11_ticks 37 = true := by decide +kernel
theorem gc_X11_ticks (hst : l.stackTraces = false) (hM : sl_Mem ad base NA ln rd VR cn wr al MI sn) (hMo : sl_Mo wr al cn sn) (h_X11_tickOf : sl_CC ad base NA Hb D cA ln rd VR MI cn sn l 0 yX11_tickOf cX11_tickOf 5 (sl_rt 0 "") 3 80 0 0 (call 111)) :
    sl_CC ad base NA Hb D cA ln rd VR MI cn sn l 0 yX11_ticks cX11_ticks 2 (sl_rt 1 "") 4 104 1 0 (fun as m => sl_B tb_X11_ticks fl_X11 pf_X11 cl_X11_ticks nw_X11 rd wr al ln 0 (fun _ => 0) call sp_X11_ticks mk_X11_ticks 100000 (0, sl_lo 2 as, []) m) :=
  sl_mk (NT := 37) (NC := 181) (LC := [(180, (111, 2, 0, 0, 0, 12))]) hst hM hMo (fun h => absurd rfl h) (plainFor_of_name (by decide +kernel)) (fun _ => by decide +kernel) (fun p h => by unfold tb_X11_ticks; rw [Nat.ble_eq.mpr h]; rfl) ok_X11_ticks os_X11_ticks
    (fun _ h => absurd h List.not_mem_nil)
    (fun _ h => absurd h List.not_mem_nil)
    (Or.inl rfl) (Or.inl rfl)
    (fun _ h => absurd h List.not_mem_nil)
    (Or.inl rfl)
    (fun _ h => absurd h List.not_mem_nil)
    (fun _ h => absurd h List.not_mem_nil)
    hfl_X11 hpf_X11 hnw_X11 (fun p h => by unfold cl_X11_ticks; rw [Nat.ble_eq.mpr h]; rfl) (by decide +kernel)
    (fun q h => by
    simp only [List.mem_cons, List.not_mem_nil, or_false] at h
    rcases h with rfl
    · exact ⟨yX11_tickOf, cX11_tickOf, 5, (sl_rt 0 ""), 3, 80, cy0_X11_tickOf (sl_gw_at 1023 (by decide +kernel) (by decide +kernel)) ⟨by decide, by decide⟩, fun h => absurd rfl h, h_X11_tickOf⟩
    )
theorem ok_X11_tick : sl_okT cX11_tick ck_X11 tb_X11_tick 10 = true := by decide +kernel
theorem os_X11_tick : sl_sT 1 1 0 1 [] [] [] [] [] tb_X11_tick 10 = true := by decide +kernel
theorem gc_X11_tick (hst : l.stackTraces = false) (hM : sl_Mem ad base NA ln rd VR cn wr al MI sn) (hMo : sl_Mo wr al cn sn) (h_X11_ticks : sl_CC ad base NA Hb D cA ln rd VR MI cn sn l 0 yX11_ticks cX11_ticks 2 (sl_rt 1 "") 4 104 1 0 (call 112)) :
    sl_CC ad base NA Hb D cA ln rd VR MI cn sn l 0 yX11_tick cX11_tick 1 (sl_rt 1 "") 5 125 1 0 (fun as m => sl_B tb_X11_tick fl_X11 pf_X11 cl_X11_tick nw_X11 rd wr al ln 0 (fun _ => 0) call sp_X11_tick mk_X11_tick 100000 (0, sl_lo 1 as, []) m) :=
  sl_mk (NT := 10) (NC := 185) (LC := [(184, (112, 1, 1, 0, 0, 12))]) hst hM hMo (fun h => absurd rfl h) (plainFor_of_name (by decide +kernel)) (fun _ => by decide +kernel) (fun p h => by unfold tb_X11_tick; rw [Nat.ble_eq.mpr h]; rfl) ok_X11_tick os_X11_tick
    (fun _ h => absurd h List.not_mem_nil)
    (fun _ h => absurd h List.not_mem_nil)
    (Or.inl rfl) (Or.inl rfl)
    (fun _ h => absurd h List.not_mem_nil)
    (Or.inl rfl)
    (fun _ h => absurd h List.not_mem_nil)
    (fun _ h => absurd h List.not_mem_nil)
    hfl_X11 hpf_X11 hnw_X11 (fun p h => by unfold cl_X11_tick; rw [Nat.ble_eq.mpr h]; rfl) (by decide +kernel)
    (fun q h => by
    simp only [List.mem_cons, List.not_mem_nil, or_false] at h
    rcases h with rfl
    · exact ⟨yX11_ticks, cX11_ticks, 2, (sl_rt 1 ""), 4, 104, cy0_X11_ticks (sl_gw_at 1019 (by decide +kernel) (by decide +kernel)) ⟨by decide, by decide⟩, fun h => absurd rfl h, h_X11_ticks⟩
    )
theorem ok_X11_wrong : sl_okT cX11_wrong ck_X11 tb_X11_wrong 25 = true := by decide +kernel
theorem os_X11_wrong : sl_sT 2 0 0 0 [] [] [] [] [] tb_X11_wrong 25 = true := by decide +kernel
theorem gc_X11_wrong (hst : l.stackTraces = false) (hM : sl_Mem ad base NA ln rd VR cn wr al MI sn) (hMo : sl_Mo wr al cn sn)  :
    sl_CC ad base NA Hb D cA ln rd VR MI cn sn l 0 yX11_wrong cX11_wrong 2 (sl_rt 0 "") 0 0 0 0 (fun as m => sl_B tb_X11_wrong fl_X11 pf_X11 cl_X11_wrong nw_X11 rd wr al ln 0 (fun _ => 0) call sp_X11_wrong mk_X11_wrong 100000 (0, sl_lo 2 as, []) m) :=
  sl_mk (NT := 25) (NC := 0) (LC := []) hst hM hMo (fun h => absurd rfl h) (plainFor_of_name (by decide +kernel)) (fun _ => by decide +kernel) (fun p h => by unfold tb_X11_wrong; rw [Nat.ble_eq.mpr h]; rfl) ok_X11_wrong os_X11_wrong
    (fun _ h => absurd h List.not_mem_nil)
    (fun _ h => absurd h List.not_mem_nil)
    (Or.inl rfl) (Or.inl rfl)
    (fun _ h => absurd h List.not_mem_nil)
    (Or.inl rfl)
    (fun _ h => absurd h List.not_mem_nil)
    (fun _ h => absurd h List.not_mem_nil)
    hfl_X11 hpf_X11 hnw_X11 (fun p _ => rfl) (by decide +kernel)
    (fun _ h => absurd h List.not_mem_nil)
theorem ok_X11_getsAll : sl_okT cX11_getsAll ck_X11 tb_X11_getsAll 82 = true := by decide +kernel
theorem os_X11_getsAll : sl_sT 6 1 0 2 [] [] [] [] [] tb_X11_getsAll 82 = true := by decide +kernel
theorem gc_X11_getsAll (hst : l.stackTraces = false) (hM : sl_Mem ad base NA ln rd VR cn wr al MI sn) (hMo : sl_Mo wr al cn sn)  :
    sl_CC ad base NA Hb D cA ln rd VR MI cn sn l 0 yX11_getsAll cX11_getsAll 6 (sl_rt 2 "") 0 0 1 0 (fun as m => sl_B tb_X11_getsAll fl_X11 pf_X11 cl_X11_getsAll nw_X11 rd wr al ln 0 (fun _ => 0) call sp_X11_getsAll mk_X11_getsAll 100000 (0, sl_lo 6 as, []) m) :=
  sl_mk (NT := 82) (NC := 0) (LC := []) hst hM hMo (fun h => absurd rfl h) (plainFor_of_name (by decide +kernel)) (fun _ => by decide +kernel) (fun p h => by unfold tb_X11_getsAll; rw [Nat.ble_eq.mpr h]; rfl) ok_X11_getsAll os_X11_getsAll
    (fun _ h => absurd h List.not_mem_nil)
    (fun _ h => absurd h List.not_mem_nil)
    (Or.inl rfl) (Or.inl rfl)
    (fun _ h => absurd h List.not_mem_nil)
    (Or.inl rfl)
    (fun _ h => absurd h List.not_mem_nil)
    (fun _ h => absurd h List.not_mem_nil)
    hfl_X11 hpf_X11 hnw_X11 (fun p _ => rfl) (by decide +kernel)
    (fun _ h => absurd h List.not_mem_nil)
theorem ok_X11_inOrder : sl_okT cX11_inOrder ck_X11 tb_X11_inOrder 94 = true := by decide +kernel
theorem os_X11_inOrder : sl_sT 6 0 0 0 [] [] [] [] [] tb_X11_inOrder 94 = true := by decide +kernel
theorem gc_X11_inOrder (hst : l.stackTraces = false) (hM : sl_Mem ad base NA ln rd VR cn wr al MI sn) (hMo : sl_Mo wr al cn sn) (h_X11_layKnown : sl_CC ad base NA Hb D cA ln rd VR MI cn sn l 0 yX11_layKnown cX11_layKnown 4 (sl_rt 0 "") 2 54 0 0 (call 110)) (h_X11_getsAll : sl_CC ad base NA Hb D cA ln rd VR MI cn sn l 0 yX11_getsAll cX11_getsAll 6 (sl_rt 2 "") 0 0 1 0 (call 116)) :
    sl_CC ad base NA Hb D cA ln rd VR MI cn sn l 0 yX11_inOrder cX11_inOrder 6 (sl_rt 0 "") 3 77 0 0 (fun as m => sl_B tb_X11_inOrder fl_X11 pf_X11 cl_X11_inOrder nw_X11 rd wr al ln 0 (fun _ => 0) call sp_X11_inOrder mk_X11_inOrder 100000 (0, sl_lo 6 as, []) m) :=
  sl_mk (NT := 94) (NC := 205) (LC := [(200, (116, 5, 1, 0, 0, 12)), (204, (110, 2, 0, 0, 0, 12))]) hst hM hMo (fun h => absurd rfl h) (plainFor_of_name (by decide +kernel)) (fun _ => by decide +kernel) (fun p h => by unfold tb_X11_inOrder; rw [Nat.ble_eq.mpr h]; rfl) ok_X11_inOrder os_X11_inOrder
    (fun _ h => absurd h List.not_mem_nil)
    (fun _ h => absurd h List.not_mem_nil)
    (Or.inl rfl) (Or.inl rfl)
    (fun _ h => absurd h List.not_mem_nil)
    (Or.inl rfl)
    (fun _ h => absurd h List.not_mem_nil)
    (fun _ h => absurd h List.not_mem_nil)
    hfl_X11 hpf_X11 hnw_X11 (fun p h => by unfold cl_X11_inOrder; rw [Nat.ble_eq.mpr h]; rfl) (by decide +kernel)
    (fun q h => by
    simp only [List.mem_cons, List.not_mem_nil, or_false] at h
    rcases h with rfl | rfl
    · exact ⟨yX11_getsAll, cX11_getsAll, 6, (sl_rt 2 ""), 0, 0, cy0_X11_getsAll (sl_gw_at 1071 (by decide +kernel) (by decide +kernel)) ⟨by decide, by decide⟩, fun h => absurd rfl h, h_X11_getsAll⟩
    · exact ⟨yX11_layKnown, cX11_layKnown, 4, (sl_rt 0 ""), 2, 54, cy0_X11_layKnown (sl_gw_at 1075 (by decide +kernel) (by decide +kernel)) ⟨by decide, by decide⟩, fun h => absurd rfl h, h_X11_layKnown⟩
    )
theorem ok_X11_byItself : sl_okT cX11_byItself ck_X11 tb_X11_byItself 207 = true := by decide +kernel
theorem os_X11_byItself : sl_sT 8 0 0 0 [] [] [] [] [] tb_X11_byItself 207 = true := by decide +kernel
theorem gc_X11_byItself (hst : l.stackTraces = false) (hM : sl_Mem ad base NA ln rd VR cn wr al MI sn) (hMo : sl_Mo wr al cn sn) (h_X11_layKnown : sl_CC ad base NA Hb D cA ln rd VR MI cn sn l 0 yX11_layKnown cX11_layKnown 4 (sl_rt 0 "") 2 54 0 0 (call 110)) (h_X11_getsAll : sl_CC ad base NA Hb D cA ln rd VR MI cn sn l 0 yX11_getsAll cX11_getsAll 6 (sl_rt 2 "") 0 0 1 0 (call 116)) :
    sl_CC ad base NA Hb D cA ln rd VR MI cn sn l 0 yX11_byItself cX11_byItself 8 (sl_rt 0 "") 3 77 0 0 (fun as m => sl_B tb_X11_byItself fl_X11 pf_X11 cl_X11_byItself nw_X11 rd wr al ln 0 (fun _ => 0) call sp_X11_byItself mk_X11_byItself 100000 (0, sl_lo 8 as, []) m) :=
  sl_mk (NT := 207) (NC := 205) (LC := [(200, (116, 5, 1, 0, 0, 12)), (204, (110, 2, 0, 0, 0, 12))]) hst hM hMo (fun h => absurd rfl h) (plainFor_of_name (by decide +kernel)) (fun _ => by decide +kernel) (fun p h => by unfold tb_X11_byItself; rw [Nat.ble_eq.mpr h]; rfl) ok_X11_byItself os_X11_byItself
    (fun _ h => absurd h List.not_mem_nil)
    (fun _ h => absurd h List.not_mem_nil)
    (Or.inl rfl) (Or.inl rfl)
    (fun _ h => absurd h List.not_mem_nil)
    (Or.inl rfl)
    (fun _ h => absurd h List.not_mem_nil)
    (fun _ h => absurd h List.not_mem_nil)
    hfl_X11 hpf_X11 hnw_X11 (fun p h => by unfold cl_X11_byItself; rw [Nat.ble_eq.mpr h]; rfl) (by decide +kernel)
    (fun q h => by
    simp only [List.mem_cons, List.not_mem_nil, or_false] at h
    rcases h with rfl | rfl
    · exact ⟨yX11_getsAll, cX11_getsAll, 6, (sl_rt 2 ""), 0, 0, cy0_X11_getsAll (sl_gw_at 1071 (by decide +kernel) (by decide +kernel)) ⟨by decide, by decide⟩, fun h => absurd rfl h, h_X11_getsAll⟩
    · exact ⟨yX11_layKnown, cX11_layKnown, 4, (sl_rt 0 ""), 2, 54, cy0_X11_layKnown (sl_gw_at 1075 (by decide +kernel) (by decide +kernel)) ⟨by decide, by decide⟩, fun h => absurd rfl h, h_X11_layKnown⟩
    )
theorem ok_X11_known : sl_okT cX11_known ck_X11 tb_X11_known 177 = true := by decide +kernel
theorem os_X11_known : sl_sT 6 0 0 0 [] [] [] [] [] tb_X11_known 177 = true := by decide +kernel
theorem gc_X11_known (hst : l.stackTraces = false) (hM : sl_Mem ad base NA ln rd VR cn wr al MI sn) (hMo : sl_Mo wr al cn sn)  :
    sl_CC ad base NA Hb D cA ln rd VR MI cn sn l 0 yX11_known cX11_known 6 (sl_rt 0 "") 0 0 0 0 (fun as m => sl_B tb_X11_known fl_X11 pf_X11 cl_X11_known nw_X11 rd wr al ln 0 (fun _ => 0) call sp_X11_known mk_X11_known 100000 (0, sl_lo 6 as, []) m) :=
  sl_mk (NT := 177) (NC := 0) (LC := []) hst hM hMo (fun h => absurd rfl h) (plainFor_of_name (by decide +kernel)) (fun _ => by decide +kernel) (fun p h => by unfold tb_X11_known; rw [Nat.ble_eq.mpr h]; rfl) ok_X11_known os_X11_known
    (fun _ h => absurd h List.not_mem_nil)
    (fun _ h => absurd h List.not_mem_nil)
    (Or.inl rfl) (Or.inl rfl)
    (fun _ h => absurd h List.not_mem_nil)
    (Or.inl rfl)
    (fun _ h => absurd h List.not_mem_nil)
    (fun _ h => absurd h List.not_mem_nil)
    hfl_X11 hpf_X11 hnw_X11 (fun p _ => rfl) (by decide +kernel)
    (fun _ h => absurd h List.not_mem_nil)
theorem ok_X11_takes : sl_okT cX11_takes ck_X11 tb_X11_takes 175 = true := by decide +kernel
theorem os_X11_takes : sl_sT 7 0 0 0 [] [] [] [] [] tb_X11_takes 175 = true := by decide +kernel
theorem gc_X11_takes (hst : l.stackTraces = false) (hM : sl_Mem ad base NA ln rd VR cn wr al MI sn) (hMo : sl_Mo wr al cn sn) (h_X11_knownBytes : sl_CC ad base NA Hb D cA ln rd VR MI cn sn l 0 yX11_knownBytes cX11_knownBytes 1 (sl_rt 1 "") 0 0 1 0 (call 109)) (h_X11_wrong : sl_CC ad base NA Hb D cA ln rd VR MI cn sn l 0 yX11_wrong cX11_wrong 2 (sl_rt 0 "") 0 0 0 0 (call 114)) (h_X11_inOrder : sl_CC ad base NA Hb D cA ln rd VR MI cn sn l 0 yX11_inOrder cX11_inOrder 6 (sl_rt 0 "") 3 77 0 0 (call 117)) (h_X11_byItself : sl_CC ad base NA Hb D cA ln rd VR MI cn sn l 0 yX11_byItself cX11_byItself 8 (sl_rt 0 "") 3 77 0 0 (call 118)) (h_X11_known : sl_CC ad base NA Hb D cA ln rd VR MI cn sn l 0 yX11_known cX11_known 6 (sl_rt 0 "") 0 0 0 0 (call 119)) :
    sl_CC ad base NA Hb D cA ln rd VR MI cn sn l 0 yX11_takes cX11_takes 7 (sl_rt 0 "") 4 104 0 0 (fun as m => sl_B tb_X11_takes fl_X11 pf_X11 cl_X11_takes nw_X11 rd wr al ln 0 (fun _ => 0) call sp_X11_takes mk_X11_takes 100000 (0, sl_lo 7 as, []) m) :=
  sl_mk (NT := 175) (NC := 198) (LC := [(173, (109, 1, 1, 0, 0, 12)), (187, (114, 2, 0, 0, 0, 12)), (190, (119, 4, 0, 0, 0, 12)), (194, (117, 4, 0, 0, 0, 12)), (197, (118, 4, 0, 0, 0, 12))]) hst hM hMo (fun h => absurd rfl h) (plainFor_of_name (by decide +kernel)) (fun _ => by decide +kernel) (fun p h => by unfold tb_X11_takes; rw [Nat.ble_eq.mpr h]; rfl) ok_X11_takes os_X11_takes
    (fun _ h => absurd h List.not_mem_nil)
    (fun _ h => absurd h List.not_mem_nil)
    (Or.inl rfl) (Or.inl rfl)
    (fun _ h => absurd h List.not_mem_nil)
    (Or.inl rfl)
    (fun _ h => absurd h List.not_mem_nil)
    (fun _ h => absurd h List.not_mem_nil)
    hfl_X11 hpf_X11 hnw_X11 (fun p h => by unfold cl_X11_takes; rw [Nat.ble_eq.mpr h]; rfl) (by decide +kernel)
    (fun q h => by
    simp only [List.mem_cons, List.not_mem_nil, or_false] at h
    rcases h with rfl | rfl | rfl | rfl | rfl
    · exact ⟨yX11_knownBytes, cX11_knownBytes, 1, (sl_rt 1 ""), 0, 0, cy0_X11_knownBytes (sl_gw_at 1059 (by decide +kernel) (by decide +kernel)) ⟨by decide, by decide⟩, fun h => absurd rfl h, h_X11_knownBytes⟩
    · exact ⟨yX11_wrong, cX11_wrong, 2, (sl_rt 0 ""), 0, 0, cy0_X11_wrong (sl_gw_at 1047 (by decide +kernel) (by decide +kernel)) ⟨by decide, by decide⟩, fun h => absurd rfl h, h_X11_wrong⟩
    · exact ⟨yX11_known, cX11_known, 6, (sl_rt 0 ""), 0, 0, cy0_X11_known (sl_gw_at 1063 (by decide +kernel) (by decide +kernel)) ⟨by decide, by decide⟩, fun h => absurd rfl h, h_X11_known⟩
    · exact ⟨yX11_inOrder, cX11_inOrder, 6, (sl_rt 0 ""), 3, 77, cy0_X11_inOrder (sl_gw_at 1067 (by decide +kernel) (by decide +kernel)) ⟨by decide, by decide⟩, fun h => absurd rfl h, h_X11_inOrder⟩
    · exact ⟨yX11_byItself, cX11_byItself, 8, (sl_rt 0 ""), 3, 77, cy0_X11_byItself (sl_gw_at 1079 (by decide +kernel) (by decide +kernel)) ⟨by decide, by decide⟩, fun h => absurd rfl h, h_X11_byItself⟩
    )
theorem ok_X11_isRight : sl_okT cX11_isRight ck_X11 tb_X11_isRight 71 = true := by decide +kernel
theorem os_X11_isRight : sl_sT 5 1 0 2 [] [] [] [] [] tb_X11_isRight 71 = true := by decide +kernel
theorem gc_X11_isRight (hst : l.stackTraces = false) (hM : sl_Mem ad base NA ln rd VR cn wr al MI sn) (hMo : sl_Mo wr al cn sn) (h_X11_checkOf : sl_CC ad base NA Hb D cA ln rd VR MI cn sn l 0 yX11_checkOf cX11_checkOf 7 (sl_rt 1 "") 0 0 1 0 (call 95)) :
    sl_CC ad base NA Hb D cA ln rd VR MI cn sn l 0 yX11_isRight cX11_isRight 5 (sl_rt 2 "") 1 26 1 0 (fun as m => sl_B tb_X11_isRight fl_X11 pf_X11 cl_X11_isRight nw_X11 rd wr al ln 0 (fun _ => 0) call sp_X11_isRight mk_X11_isRight 100000 (0, sl_lo 5 as, []) m) :=
  sl_mk (NT := 71) (NC := 150) (LC := [(149, (95, 4, 1, 0, 0, 12))]) hst hM hMo (fun h => absurd rfl h) (plainFor_of_name (by decide +kernel)) (fun _ => by decide +kernel) (fun p h => by unfold tb_X11_isRight; rw [Nat.ble_eq.mpr h]; rfl) ok_X11_isRight os_X11_isRight
    (fun _ h => absurd h List.not_mem_nil)
    (fun _ h => absurd h List.not_mem_nil)
    (Or.inl rfl) (Or.inl rfl)
    (fun _ h => absurd h List.not_mem_nil)
    (Or.inl rfl)
    (fun _ h => absurd h List.not_mem_nil)
    (fun _ h => absurd h List.not_mem_nil)
    hfl_X11 hpf_X11 hnw_X11 (fun p h => by unfold cl_X11_isRight; rw [Nat.ble_eq.mpr h]; rfl) (by decide +kernel)
    (fun q h => by
    simp only [List.mem_cons, List.not_mem_nil, or_false] at h
    rcases h with rfl
    · exact ⟨yX11_checkOf, cX11_checkOf, 7, (sl_rt 1 ""), 0, 0, cy0_X11_checkOf (sl_gw_at 972 (by decide +kernel) (by decide +kernel)) ⟨by decide, by decide⟩, fun h => absurd rfl h, h_X11_checkOf⟩
    )
theorem ok_X11_hears : sl_okT cX11_hears ck_X11 tb_X11_hears 224 = true := by decide +kernel
theorem os_X11_hears : sl_sT 8 0 0 0 [] [] [] [] [] tb_X11_hears 224 = true := by decide +kernel
theorem gc_X11_hears (hst : l.stackTraces = false) (hM : sl_Mem ad base NA ln rd VR cn wr al MI sn) (hMo : sl_Mo wr al cn sn) (h_X11_unstuffed : sl_CC ad base NA Hb D cA ln rd VR MI cn sn l 0 yX11_unstuffed cX11_unstuffed 8 (sl_rt 1 "") 1 22 1 0 (call 98)) (h_X11_wrong : sl_CC ad base NA Hb D cA ln rd VR MI cn sn l 0 yX11_wrong cX11_wrong 2 (sl_rt 0 "") 0 0 0 0 (call 114)) (h_X11_takes : sl_CC ad base NA Hb D cA ln rd VR MI cn sn l 0 yX11_takes cX11_takes 7 (sl_rt 0 "") 4 104 0 0 (call 115)) (h_X11_isRight : sl_CC ad base NA Hb D cA ln rd VR MI cn sn l 0 yX11_isRight cX11_isRight 5 (sl_rt 2 "") 1 26 1 0 (call 121)) :
    sl_CC ad base NA Hb D cA ln rd VR MI cn sn l 0 yX11_hears cX11_hears 8 (sl_rt 0 "") 5 130 0 0 (fun as m => sl_B tb_X11_hears fl_X11 pf_X11 cl_X11_hears nw_X11 rd wr al ln 0 (fun _ => 0) call sp_X11_hears mk_X11_hears 100000 (0, sl_lo 8 as, []) m) :=
  sl_mk (NT := 224) (NC := 211) (LC := [(161, (98, 4, 1, 0, 0, 12)), (187, (114, 2, 0, 0, 0, 12)), (207, (121, 2, 1, 0, 0, 12)), (210, (115, 3, 0, 0, 0, 12))]) hst hM hMo (fun h => absurd rfl h) (plainFor_of_name (by decide +kernel)) (fun _ => by decide +kernel) (fun p h => by unfold tb_X11_hears; rw [Nat.ble_eq.mpr h]; rfl) ok_X11_hears os_X11_hears
    (fun _ h => absurd h List.not_mem_nil)
    (fun _ h => absurd h List.not_mem_nil)
    (Or.inl rfl) (Or.inl rfl)
    (fun _ h => absurd h List.not_mem_nil)
    (Or.inl rfl)
    (fun _ h => absurd h List.not_mem_nil)
    (fun _ h => absurd h List.not_mem_nil)
    hfl_X11 hpf_X11 hnw_X11 (fun p h => by unfold cl_X11_hears; rw [Nat.ble_eq.mpr h]; rfl) (by decide +kernel)
    (fun q h => by
    simp only [List.mem_cons, List.not_mem_nil, or_false] at h
    rcases h with rfl | rfl | rfl | rfl
    · exact ⟨yX11_unstuffed, cX11_unstuffed, 8, (sl_rt 1 ""), 1, 22, cy0_X11_unstuffed (sl_gw_at 987 (by decide +kernel) (by decide +kernel)) ⟨by decide, by decide⟩, fun h => absurd rfl h, h_X11_unstuffed⟩
    · exact ⟨yX11_wrong, cX11_wrong, 2, (sl_rt 0 ""), 0, 0, cy0_X11_wrong (sl_gw_at 1047 (by decide +kernel) (by decide +kernel)) ⟨by decide, by decide⟩, fun h => absurd rfl h, h_X11_wrong⟩
    · exact ⟨yX11_isRight, cX11_isRight, 5, (sl_rt 2 ""), 1, 26, cy0_X11_isRight (sl_gw_at 1051 (by decide +kernel) (by decide +kernel)) ⟨by decide, by decide⟩, fun h => absurd rfl h, h_X11_isRight⟩
    · exact ⟨yX11_takes, cX11_takes, 7, (sl_rt 0 ""), 4, 104, cy0_X11_takes (sl_gw_at 1055 (by decide +kernel) (by decide +kernel)) ⟨by decide, by decide⟩, fun h => absurd rfl h, h_X11_takes⟩
    )
theorem ok_X11_moves : sl_okT cX11_moves ck_X11 tb_X11_moves 108 = true := by decide +kernel
theorem os_X11_moves : sl_sT 10 0 0 0 [] [] [] [] [] tb_X11_moves 108 = true := by decide +kernel
theorem gc_X11_moves (hst : l.stackTraces = false) (hM : sl_Mem ad base NA ln rd VR cn wr al MI sn) (hMo : sl_Mo wr al cn sn) (h_X11_hears : sl_CC ad base NA Hb D cA ln rd VR MI cn sn l 0 yX11_hears cX11_hears 8 (sl_rt 0 "") 5 130 0 0 (call 120)) :
    sl_CC ad base NA Hb D cA ln rd VR MI cn sn l 0 yX11_moves cX11_moves 10 (sl_rt 0 "") 6 157 0 0 (fun as m => sl_B tb_X11_moves fl_X11 pf_X11 cl_X11_moves nw_X11 rd wr al ln 0 (fun _ => 0) call sp_X11_moves mk_X11_moves 100000 (0, sl_lo 10 as, []) m) :=
  sl_mk (NT := 108) (NC := 215) (LC := [(214, (120, 4, 0, 0, 0, 12))]) hst hM hMo (fun h => absurd rfl h) (plainFor_of_name (by decide +kernel)) (fun _ => by decide +kernel) (fun p h => by unfold tb_X11_moves; rw [Nat.ble_eq.mpr h]; rfl) ok_X11_moves os_X11_moves
    (fun _ h => absurd h List.not_mem_nil)
    (fun _ h => absurd h List.not_mem_nil)
    (Or.inl rfl) (Or.inl rfl)
    (fun _ h => absurd h List.not_mem_nil)
    (Or.inl rfl)
    (fun _ h => absurd h List.not_mem_nil)
    (fun _ h => absurd h List.not_mem_nil)
    hfl_X11 hpf_X11 hnw_X11 (fun p h => by unfold cl_X11_moves; rw [Nat.ble_eq.mpr h]; rfl) (by decide +kernel)
    (fun q h => by
    simp only [List.mem_cons, List.not_mem_nil, or_false] at h
    rcases h with rfl
    · exact ⟨yX11_hears, cX11_hears, 8, (sl_rt 0 ""), 5, 130, cy0_X11_hears (sl_gw_at 1043 (by decide +kernel) (by decide +kernel)) ⟨by decide, by decide⟩, fun h => absurd rfl h, h_X11_hears⟩
    )
theorem ok_X11_leaves : sl_okT cX11_leaves ck_X11 tb_X11_leaves 89 = true := by decide +kernel
theorem os_X11_leaves : sl_sT 5 1 0 1 [] [] [] [] [] tb_X11_leaves 89 = true := by decide +kernel
theorem gc_X11_leaves (hst : l.stackTraces = false) (hM : sl_Mem ad base NA ln rd VR cn wr al MI sn) (hMo : sl_Mo wr al cn sn)  :
    sl_CC ad base NA Hb D cA ln rd VR MI cn sn l 0 yX11_leaves cX11_leaves 5 (sl_rt 1 "") 0 0 1 0 (fun as m => sl_B tb_X11_leaves fl_X11 pf_X11 cl_X11_leaves nw_X11 rd wr al ln 0 (fun _ => 0) call sp_X11_leaves mk_X11_leaves 100000 (0, sl_lo 5 as, []) m) :=
  sl_mk (NT := 89) (NC := 0) (LC := []) hst hM hMo (fun h => absurd rfl h) (plainFor_of_name (by decide +kernel)) (fun _ => by decide +kernel) (fun p h => by unfold tb_X11_leaves; rw [Nat.ble_eq.mpr h]; rfl) ok_X11_leaves os_X11_leaves
    (fun _ h => absurd h List.not_mem_nil)
    (fun _ h => absurd h List.not_mem_nil)
    (Or.inl rfl) (Or.inl rfl)
    (fun _ h => absurd h List.not_mem_nil)
    (Or.inl rfl)
    (fun _ h => absurd h List.not_mem_nil)
    (fun _ h => absurd h List.not_mem_nil)
    hfl_X11 hpf_X11 hnw_X11 (fun p _ => rfl) (by decide +kernel)
    (fun _ h => absurd h List.not_mem_nil)
theorem ok_X11_carry : sl_okT cX11_carry ck_X11 tb_X11_carry 194 = true := by decide +kernel
theorem os_X11_carry : sl_sT 5 1 0 1 [] [] [] [] [] tb_X11_carry 194 = true := by decide +kernel
theorem gc_X11_carry (hst : l.stackTraces = false) (hM : sl_Mem ad base NA ln rd VR cn wr al MI sn) (hMo : sl_Mo wr al cn sn) (h_X11_isOut : sl_CC ad base NA Hb D cA ln rd VR MI cn sn l 0 yX11_isOut cX11_isOut 2 (sl_rt 2 "") 0 0 1 0 (call 91)) (h_X11_hears : sl_CC ad base NA Hb D cA ln rd VR MI cn sn l 0 yX11_hears cX11_hears 8 (sl_rt 0 "") 5 130 0 0 (call 120)) (h_X11_moves : sl_CC ad base NA Hb D cA ln rd VR MI cn sn l 0 yX11_moves cX11_moves 10 (sl_rt 0 "") 6 157 0 0 (call 122)) (h_X11_leaves : sl_CC ad base NA Hb D cA ln rd VR MI cn sn l 0 yX11_leaves cX11_leaves 5 (sl_rt 1 "") 0 0 1 0 (call 123)) :
    sl_CC ad base NA Hb D cA ln rd VR MI cn sn l 0 yX11_carry cX11_carry 5 (sl_rt 1 "") 7 186 1 0 (fun as m => sl_B tb_X11_carry fl_X11 pf_X11 cl_X11_carry nw_X11 rd wr al ln 0 (fun _ => 0) call sp_X11_carry mk_X11_carry 100000 (0, sl_lo 5 as, []) m) :=
  sl_mk (NT := 194) (NC := 222) (LC := [(165, (91, 2, 1, 0, 0, 12)), (214, (120, 4, 0, 0, 0, 12)), (217, (123, 3, 1, 0, 0, 12)), (221, (122, 5, 0, 0, 0, 12))]) hst hM hMo (fun h => absurd rfl h) (plainFor_of_name (by decide +kernel)) (fun _ => by decide +kernel) (fun p h => by unfold tb_X11_carry; rw [Nat.ble_eq.mpr h]; rfl) ok_X11_carry os_X11_carry
    (fun _ h => absurd h List.not_mem_nil)
    (fun _ h => absurd h List.not_mem_nil)
    (Or.inl rfl) (Or.inl rfl)
    (fun _ h => absurd h List.not_mem_nil)
    (Or.inl rfl)
    (fun _ h => absurd h List.not_mem_nil)
    (fun _ h => absurd h List.not_mem_nil)
    hfl_X11 hpf_X11 hnw_X11 (fun p h => by unfold cl_X11_carry; rw [Nat.ble_eq.mpr h]; rfl) (by decide +kernel)
    (fun q h => by
    simp only [List.mem_cons, List.not_mem_nil, or_false] at h
    rcases h with rfl | rfl | rfl | rfl
    · exact ⟨yX11_isOut, cX11_isOut, 2, (sl_rt 2 ""), 0, 0, cy0_X11_isOut (sl_gw_at 1011 (by decide +kernel) (by decide +kernel)) ⟨by decide, by decide⟩, fun h => absurd rfl h, h_X11_isOut⟩
    · exact ⟨yX11_hears, cX11_hears, 8, (sl_rt 0 ""), 5, 130, cy0_X11_hears (sl_gw_at 1043 (by decide +kernel) (by decide +kernel)) ⟨by decide, by decide⟩, fun h => absurd rfl h, h_X11_hears⟩
    · exact ⟨yX11_leaves, cX11_leaves, 5, (sl_rt 1 ""), 0, 0, cy0_X11_leaves (sl_gw_at 1039 (by decide +kernel) (by decide +kernel)) ⟨by decide, by decide⟩, fun h => absurd rfl h, h_X11_leaves⟩
    · exact ⟨yX11_moves, cX11_moves, 10, (sl_rt 0 ""), 6, 157, cy0_X11_moves (sl_gw_at 1083 (by decide +kernel) (by decide +kernel)) ⟨by decide, by decide⟩, fun h => absurd rfl h, h_X11_moves⟩
    )
theorem ok_X11_round : sl_okT cX11_round ck_X11 tb_X11_round 68 = true := by decide +kernel
theorem os_X11_round : sl_sT 4 1 0 1 [] [] [] [] [] tb_X11_round 68 = true := by decide +kernel
theorem gc_X11_round (hst : l.stackTraces = false) (hM : sl_Mem ad base NA ln rd VR cn wr al MI sn) (hMo : sl_Mo wr al cn sn) (h_X11_ticks : sl_CC ad base NA Hb D cA ln rd VR MI cn sn l 0 yX11_ticks cX11_ticks 2 (sl_rt 1 "") 4 104 1 0 (call 112)) (h_X11_moves : sl_CC ad base NA Hb D cA ln rd VR MI cn sn l 0 yX11_moves cX11_moves 10 (sl_rt 0 "") 6 157 0 0 (call 122)) (h_X11_leaves : sl_CC ad base NA Hb D cA ln rd VR MI cn sn l 0 yX11_leaves cX11_leaves 5 (sl_rt 1 "") 0 0 1 0 (call 123)) :
    sl_CC ad base NA Hb D cA ln rd VR MI cn sn l 0 yX11_round cX11_round 4 (sl_rt 1 "") 7 186 1 0 (fun as m => sl_B tb_X11_round fl_X11 pf_X11 cl_X11_round nw_X11 rd wr al ln 0 (fun _ => 0) call sp_X11_round mk_X11_round 100000 (0, sl_lo 4 as, []) m) :=
  sl_mk (NT := 68) (NC := 222) (LC := [(184, (112, 1, 1, 0, 0, 12)), (217, (123, 3, 1, 0, 0, 12)), (221, (122, 5, 0, 0, 0, 12))]) hst hM hMo (fun h => absurd rfl h) (plainFor_of_name (by decide +kernel)) (fun _ => by decide +kernel) (fun p h => by unfold tb_X11_round; rw [Nat.ble_eq.mpr h]; rfl) ok_X11_round os_X11_round
    (fun _ h => absurd h List.not_mem_nil)
    (fun _ h => absurd h List.not_mem_nil)
    (Or.inl rfl) (Or.inl rfl)
    (fun _ h => absurd h List.not_mem_nil)
    (Or.inl rfl)
    (fun _ h => absurd h List.not_mem_nil)
    (fun _ h => absurd h List.not_mem_nil)
    hfl_X11 hpf_X11 hnw_X11 (fun p h => by unfold cl_X11_round; rw [Nat.ble_eq.mpr h]; rfl) (by decide +kernel)
    (fun q h => by
    simp only [List.mem_cons, List.not_mem_nil, or_false] at h
    rcases h with rfl | rfl | rfl
    · exact ⟨yX11_ticks, cX11_ticks, 2, (sl_rt 1 ""), 4, 104, cy0_X11_ticks (sl_gw_at 1019 (by decide +kernel) (by decide +kernel)) ⟨by decide, by decide⟩, fun h => absurd rfl h, h_X11_ticks⟩
    · exact ⟨yX11_leaves, cX11_leaves, 5, (sl_rt 1 ""), 0, 0, cy0_X11_leaves (sl_gw_at 1039 (by decide +kernel) (by decide +kernel)) ⟨by decide, by decide⟩, fun h => absurd rfl h, h_X11_leaves⟩
    · exact ⟨yX11_moves, cX11_moves, 10, (sl_rt 0 ""), 6, 157, cy0_X11_moves (sl_gw_at 1083 (by decide +kernel) (by decide +kernel)) ⟨by decide, by decide⟩, fun h => absurd rfl h, h_X11_moves⟩
    )
theorem ok_X11_noise : sl_okT cX11_noise ck_X11 tb_X11_noise 57 = true := by decide +kernel
theorem os_X11_noise : sl_sT 5 1 0 1 [] [] [] [] [] tb_X11_noise 57 = true := by decide +kernel
theorem gc_X11_noise (hst : l.stackTraces = false) (hM : sl_Mem ad base NA ln rd VR cn wr al MI sn) (hMo : sl_Mo wr al cn sn) (h_X11_isOut : sl_CC ad base NA Hb D cA ln rd VR MI cn sn l 0 yX11_isOut cX11_isOut 2 (sl_rt 2 "") 0 0 1 0 (call 91)) (h_X11_hears : sl_CC ad base NA Hb D cA ln rd VR MI cn sn l 0 yX11_hears cX11_hears 8 (sl_rt 0 "") 5 130 0 0 (call 120)) :
    sl_CC ad base NA Hb D cA ln rd VR MI cn sn l 0 yX11_noise cX11_noise 5 (sl_rt 1 "") 6 157 1 0 (fun as m => sl_B tb_X11_noise fl_X11 pf_X11 cl_X11_noise nw_X11 rd wr al ln 0 (fun _ => 0) call sp_X11_noise mk_X11_noise 100000 (0, sl_lo 5 as, []) m) :=
  sl_mk (NT := 57) (NC := 215) (LC := [(165, (91, 2, 1, 0, 0, 12)), (214, (120, 4, 0, 0, 0, 12))]) hst hM hMo (fun h => absurd rfl h) (plainFor_of_name (by decide +kernel)) (fun _ => by decide +kernel) (fun p h => by unfold tb_X11_noise; rw [Nat.ble_eq.mpr h]; rfl) ok_X11_noise os_X11_noise
    (fun _ h => absurd h List.not_mem_nil)
    (fun _ h => absurd h List.not_mem_nil)
    (Or.inl rfl) (Or.inl rfl)
    (fun _ h => absurd h List.not_mem_nil)
    (Or.inl rfl)
    (fun _ h => absurd h List.not_mem_nil)
    (fun _ h => absurd h List.not_mem_nil)
    hfl_X11 hpf_X11 hnw_X11 (fun p h => by unfold cl_X11_noise; rw [Nat.ble_eq.mpr h]; rfl) (by decide +kernel)
    (fun q h => by
    simp only [List.mem_cons, List.not_mem_nil, or_false] at h
    rcases h with rfl | rfl
    · exact ⟨yX11_isOut, cX11_isOut, 2, (sl_rt 2 ""), 0, 0, cy0_X11_isOut (sl_gw_at 1011 (by decide +kernel) (by decide +kernel)) ⟨by decide, by decide⟩, fun h => absurd rfl h, h_X11_isOut⟩
    · exact ⟨yX11_hears, cX11_hears, 8, (sl_rt 0 ""), 5, 130, cy0_X11_hears (sl_gw_at 1043 (by decide +kernel) (by decide +kernel)) ⟨by decide, by decide⟩, fun h => absurd rfl h, h_X11_hears⟩
    )
theorem ok_X11_frameAt : sl_okT cX11_frameAt ck_X11 tb_X11_frameAt 35 = true := by decide +kernel
theorem os_X11_frameAt : sl_sT 3 1 0 1 [] [] [] [] [] tb_X11_frameAt 35 = true := by decide +kernel
theorem gc_X11_frameAt (hst : l.stackTraces = false) (hM : sl_Mem ad base NA ln rd VR cn wr al MI sn) (hMo : sl_Mo wr al cn sn)  :
    sl_CC ad base NA Hb D cA ln rd VR MI cn sn l 0 yX11_frameAt cX11_frameAt 3 (sl_rt 1 "") 0 0 1 0 (fun as m => sl_B tb_X11_frameAt fl_X11 pf_X11 cl_X11_frameAt nw_X11 rd wr al ln 0 (fun _ => 0) call sp_X11_frameAt mk_X11_frameAt 100000 (0, sl_lo 3 as, []) m) :=
  sl_mk (NT := 35) (NC := 0) (LC := []) hst hM hMo (fun h => absurd rfl h) (plainFor_of_name (by decide +kernel)) (fun _ => by decide +kernel) (fun p h => by unfold tb_X11_frameAt; rw [Nat.ble_eq.mpr h]; rfl) ok_X11_frameAt os_X11_frameAt
    (fun _ h => absurd h List.not_mem_nil)
    (fun _ h => absurd h List.not_mem_nil)
    (Or.inl rfl) (Or.inl rfl)
    (fun _ h => absurd h List.not_mem_nil)
    (Or.inl rfl)
    (fun _ h => absurd h List.not_mem_nil)
    (fun _ h => absurd h List.not_mem_nil)
    hfl_X11 hpf_X11 hnw_X11 (fun p _ => rfl) (by decide +kernel)
    (fun _ h => absurd h List.not_mem_nil)
theorem ok_X11_frame : sl_okT cX11_frame ck_X11 tb_X11_frame 110 = true := by decide +kernel
theorem os_X11_frame : sl_sT 5 1 0 1 [] [] [] [] [] tb_X11_frame 110 = true := by decide +kernel
theorem gc_X11_frame (hst : l.stackTraces = false) (hM : sl_Mem ad base NA ln rd VR cn wr al MI sn) (hMo : sl_Mo wr al cn sn) (h_X11_isOut : sl_CC ad base NA Hb D cA ln rd VR MI cn sn l 0 yX11_isOut cX11_isOut 2 (sl_rt 2 "") 0 0 1 0 (call 91)) (h_X11_frameAt : sl_CC ad base NA Hb D cA ln rd VR MI cn sn l 0 yX11_frameAt cX11_frameAt 3 (sl_rt 1 "") 0 0 1 0 (call 127)) :
    sl_CC ad base NA Hb D cA ln rd VR MI cn sn l 0 yX11_frame cX11_frame 5 (sl_rt 1 "") 1 22 1 0 (fun as m => sl_B tb_X11_frame fl_X11 pf_X11 cl_X11_frame nw_X11 rd wr al ln 0 (fun _ => 0) call sp_X11_frame mk_X11_frame 100000 (0, sl_lo 5 as, []) m) :=
  sl_mk (NT := 110) (NC := 226) (LC := [(165, (91, 2, 1, 0, 0, 12)), (225, (127, 3, 1, 0, 0, 12))]) hst hM hMo (fun h => absurd rfl h) (plainFor_of_name (by decide +kernel)) (fun _ => by decide +kernel) (fun p h => by unfold tb_X11_frame; rw [Nat.ble_eq.mpr h]; rfl) ok_X11_frame os_X11_frame
    (fun _ h => absurd h List.not_mem_nil)
    (fun _ h => absurd h List.not_mem_nil)
    (Or.inl rfl) (Or.inl rfl)
    (fun _ h => absurd h List.not_mem_nil)
    (Or.inl rfl)
    (fun _ h => absurd h List.not_mem_nil)
    (fun _ h => absurd h List.not_mem_nil)
    hfl_X11 hpf_X11 hnw_X11 (fun p h => by unfold cl_X11_frame; rw [Nat.ble_eq.mpr h]; rfl) (by decide +kernel)
    (fun q h => by
    simp only [List.mem_cons, List.not_mem_nil, or_false] at h
    rcases h with rfl | rfl
    · exact ⟨yX11_isOut, cX11_isOut, 2, (sl_rt 2 ""), 0, 0, cy0_X11_isOut (sl_gw_at 1011 (by decide +kernel) (by decide +kernel)) ⟨by decide, by decide⟩, fun h => absurd rfl h, h_X11_isOut⟩
    · exact ⟨yX11_frameAt, cX11_frameAt, 3, (sl_rt 1 ""), 0, 0, cy0_X11_frameAt (sl_gw_at 1099 (by decide +kernel) (by decide +kernel)) ⟨by decide, by decide⟩, fun h => absurd rfl h, h_X11_frameAt⟩
    )
theorem ok_X11_octet : sl_okT cX11_octet ck_X11 tb_X11_octet 59 = true := by decide +kernel
theorem os_X11_octet : sl_sT 5 1 0 1 [] [] [] [] [] tb_X11_octet 59 = true := by decide +kernel
theorem gc_X11_octet (hst : l.stackTraces = false) (hM : sl_Mem ad base NA ln rd VR cn wr al MI sn) (hMo : sl_Mo wr al cn sn) (h_X11_isOut : sl_CC ad base NA Hb D cA ln rd VR MI cn sn l 0 yX11_isOut cX11_isOut 2 (sl_rt 2 "") 0 0 1 0 (call 91)) (h_X11_frameAt : sl_CC ad base NA Hb D cA ln rd VR MI cn sn l 0 yX11_frameAt cX11_frameAt 3 (sl_rt 1 "") 0 0 1 0 (call 127)) :
    sl_CC ad base NA Hb D cA ln rd VR MI cn sn l 0 yX11_octet cX11_octet 5 (sl_rt 1 "") 1 22 1 0 (fun as m => sl_B tb_X11_octet fl_X11 pf_X11 cl_X11_octet nw_X11 rd wr al ln 0 (fun _ => 0) call sp_X11_octet mk_X11_octet 100000 (0, sl_lo 5 as, []) m) :=
  sl_mk (NT := 59) (NC := 226) (LC := [(165, (91, 2, 1, 0, 0, 12)), (225, (127, 3, 1, 0, 0, 12))]) hst hM hMo (fun h => absurd rfl h) (plainFor_of_name (by decide +kernel)) (fun _ => by decide +kernel) (fun p h => by unfold tb_X11_octet; rw [Nat.ble_eq.mpr h]; rfl) ok_X11_octet os_X11_octet
    (fun _ h => absurd h List.not_mem_nil)
    (fun _ h => absurd h List.not_mem_nil)
    (Or.inl rfl) (Or.inl rfl)
    (fun _ h => absurd h List.not_mem_nil)
    (Or.inl rfl)
    (fun _ h => absurd h List.not_mem_nil)
    (fun _ h => absurd h List.not_mem_nil)
    hfl_X11 hpf_X11 hnw_X11 (fun p h => by unfold cl_X11_octet; rw [Nat.ble_eq.mpr h]; rfl) (by decide +kernel)
    (fun q h => by
    simp only [List.mem_cons, List.not_mem_nil, or_false] at h
    rcases h with rfl | rfl
    · exact ⟨yX11_isOut, cX11_isOut, 2, (sl_rt 2 ""), 0, 0, cy0_X11_isOut (sl_gw_at 1011 (by decide +kernel) (by decide +kernel)) ⟨by decide, by decide⟩, fun h => absurd rfl h, h_X11_isOut⟩
    · exact ⟨yX11_frameAt, cX11_frameAt, 3, (sl_rt 1 ""), 0, 0, cy0_X11_frameAt (sl_gw_at 1099 (by decide +kernel) (by decide +kernel)) ⟨by decide, by decide⟩, fun h => absurd rfl h, h_X11_frameAt⟩
    )
theorem ok_X11_line : sl_okT cX11_line ck_X11 tb_X11_line 17 = true := by decide +kernel
theorem os_X11_line : sl_sT 2 1 0 1 [] [] [] [] [] tb_X11_line 17 = true := by decide +kernel
theorem gc_X11_line (hst : l.stackTraces = false) (hM : sl_Mem ad base NA ln rd VR cn wr al MI sn) (hMo : sl_Mo wr al cn sn) (h_X11_isOut : sl_CC ad base NA Hb D cA ln rd VR MI cn sn l 0 yX11_isOut cX11_isOut 2 (sl_rt 2 "") 0 0 1 0 (call 91)) :
    sl_CC ad base NA Hb D cA ln rd VR MI cn sn l 0 yX11_line cX11_line 2 (sl_rt 1 "") 1 21 1 0 (fun as m => sl_B tb_X11_line fl_X11 pf_X11 cl_X11_line nw_X11 rd wr al ln 0 (fun _ => 0) call sp_X11_line mk_X11_line 100000 (0, sl_lo 2 as, []) m) :=
  sl_mk (NT := 17) (NC := 166) (LC := [(165, (91, 2, 1, 0, 0, 12))]) hst hM hMo (fun h => absurd rfl h) (plainFor_of_name (by decide +kernel)) (fun _ => by decide +kernel) (fun p h => by unfold tb_X11_line; rw [Nat.ble_eq.mpr h]; rfl) ok_X11_line os_X11_line
    (fun _ h => absurd h List.not_mem_nil)
    (fun _ h => absurd h List.not_mem_nil)
    (Or.inl rfl) (Or.inl rfl)
    (fun _ h => absurd h List.not_mem_nil)
    (Or.inl rfl)
    (fun _ h => absurd h List.not_mem_nil)
    (fun _ h => absurd h List.not_mem_nil)
    hfl_X11 hpf_X11 hnw_X11 (fun p h => by unfold cl_X11_line; rw [Nat.ble_eq.mpr h]; rfl) (by decide +kernel)
    (fun q h => by
    simp only [List.mem_cons, List.not_mem_nil, or_false] at h
    rcases h with rfl
    · exact ⟨yX11_isOut, cX11_isOut, 2, (sl_rt 2 ""), 0, 0, cy0_X11_isOut (sl_gw_at 1011 (by decide +kernel) (by decide +kernel)) ⟨by decide, by decide⟩, fun h => absurd rfl h, h_X11_isOut⟩
    )
theorem ok_X11_state : sl_okT cX11_state ck_X11 tb_X11_state 245 = true := by decide +kernel
theorem os_X11_state : sl_sT 5 1 0 1 [] [] [] [] [] tb_X11_state 245 = true := by decide +kernel
theorem gc_X11_state (hst : l.stackTraces = false) (hM : sl_Mem ad base NA ln rd VR cn wr al MI sn) (hMo : sl_Mo wr al cn sn) (h_X11_isOut : sl_CC ad base NA Hb D cA ln rd VR MI cn sn l 0 yX11_isOut cX11_isOut 2 (sl_rt 2 "") 0 0 1 0 (call 91)) :
    sl_CC ad base NA Hb D cA ln rd VR MI cn sn l 0 yX11_state cX11_state 5 (sl_rt 1 "") 1 21 1 0 (fun as m => sl_B tb_X11_state fl_X11 pf_X11 cl_X11_state nw_X11 rd wr al ln 0 (fun _ => 0) call sp_X11_state mk_X11_state 100000 (0, sl_lo 5 as, []) m) :=
  sl_mk (NT := 245) (NC := 166) (LC := [(165, (91, 2, 1, 0, 0, 12))]) hst hM hMo (fun h => absurd rfl h) (plainFor_of_name (by decide +kernel)) (fun _ => by decide +kernel) (fun p h => by unfold tb_X11_state; rw [Nat.ble_eq.mpr h]; rfl) ok_X11_state os_X11_state
    (fun _ h => absurd h List.not_mem_nil)
    (fun _ h => absurd h List.not_mem_nil)
    (Or.inl rfl) (Or.inl rfl)
    (fun _ h => absurd h List.not_mem_nil)
    (Or.inl rfl)
    (fun _ h => absurd h List.not_mem_nil)
    (fun _ h => absurd h List.not_mem_nil)
    hfl_X11 hpf_X11 hnw_X11 (fun p h => by unfold cl_X11_state; rw [Nat.ble_eq.mpr h]; rfl) (by decide +kernel)
    (fun q h => by
    simp only [List.mem_cons, List.not_mem_nil, or_false] at h
    rcases h with rfl
    · exact ⟨yX11_isOut, cX11_isOut, 2, (sl_rt 2 ""), 0, 0, cy0_X11_isOut (sl_gw_at 1011 (by decide +kernel) (by decide +kernel)) ⟨by decide, by decide⟩, fun h => absurd rfl h, h_X11_isOut⟩
    )
theorem ok_X11_taken : sl_okT cX11_taken ck_X11 tb_X11_taken 45 = true := by decide +kernel
theorem os_X11_taken : sl_sT 3 1 0 1 [] [] [] [] [] tb_X11_taken 45 = true := by decide +kernel
theorem gc_X11_taken (hst : l.stackTraces = false) (hM : sl_Mem ad base NA ln rd VR cn wr al MI sn) (hMo : sl_Mo wr al cn sn) (h_X11_isOut : sl_CC ad base NA Hb D cA ln rd VR MI cn sn l 0 yX11_isOut cX11_isOut 2 (sl_rt 2 "") 0 0 1 0 (call 91)) :
    sl_CC ad base NA Hb D cA ln rd VR MI cn sn l 0 yX11_taken cX11_taken 3 (sl_rt 1 "") 1 21 1 0 (fun as m => sl_B tb_X11_taken fl_X11 pf_X11 cl_X11_taken nw_X11 rd wr al ln 0 (fun _ => 0) call sp_X11_taken mk_X11_taken 100000 (0, sl_lo 3 as, []) m) :=
  sl_mk (NT := 45) (NC := 166) (LC := [(165, (91, 2, 1, 0, 0, 12))]) hst hM hMo (fun h => absurd rfl h) (plainFor_of_name (by decide +kernel)) (fun _ => by decide +kernel) (fun p h => by unfold tb_X11_taken; rw [Nat.ble_eq.mpr h]; rfl) ok_X11_taken os_X11_taken
    (fun _ h => absurd h List.not_mem_nil)
    (fun _ h => absurd h List.not_mem_nil)
    (Or.inl rfl) (Or.inl rfl)
    (fun _ h => absurd h List.not_mem_nil)
    (Or.inl rfl)
    (fun _ h => absurd h List.not_mem_nil)
    (fun _ h => absurd h List.not_mem_nil)
    hfl_X11 hpf_X11 hnw_X11 (fun p h => by unfold cl_X11_taken; rw [Nat.ble_eq.mpr h]; rfl) (by decide +kernel)
    (fun q h => by
    simp only [List.mem_cons, List.not_mem_nil, or_false] at h
    rcases h with rfl
    · exact ⟨yX11_isOut, cX11_isOut, 2, (sl_rt 2 ""), 0, 0, cy0_X11_isOut (sl_gw_at 1011 (by decide +kernel) (by decide +kernel)) ⟨by decide, by decide⟩, fun h => absurd rfl h, h_X11_isOut⟩
    )
theorem ok_X11_count : sl_okT cX11_count ck_X11 tb_X11_count 32 = true := by decide +kernel
theorem os_X11_count : sl_sT 2 1 0 1 [] [] [] [] [] tb_X11_count 32 = true := by decide +kernel
theorem gc_X11_count (hst : l.stackTraces = false) (hM : sl_Mem ad base NA ln rd VR cn wr al MI sn) (hMo : sl_Mo wr al cn sn)  :
    sl_CC ad base NA Hb D cA ln rd VR MI cn sn l 0 yX11_count cX11_count 2 (sl_rt 1 "") 0 0 1 0 (fun as m => sl_B tb_X11_count fl_X11 pf_X11 cl_X11_count nw_X11 rd wr al ln 0 (fun _ => 0) call sp_X11_count mk_X11_count 100000 (0, sl_lo 2 as, []) m) :=
  sl_mk (NT := 32) (NC := 0) (LC := []) hst hM hMo (fun h => absurd rfl h) (plainFor_of_name (by decide +kernel)) (fun _ => by decide +kernel) (fun p h => by unfold tb_X11_count; rw [Nat.ble_eq.mpr h]; rfl) ok_X11_count os_X11_count
    (fun _ h => absurd h List.not_mem_nil)
    (fun _ h => absurd h List.not_mem_nil)
    (Or.inl rfl) (Or.inl rfl)
    (fun _ h => absurd h List.not_mem_nil)
    (Or.inl rfl)
    (fun _ h => absurd h List.not_mem_nil)
    (fun _ h => absurd h List.not_mem_nil)
    hfl_X11 hpf_X11 hnw_X11 (fun p _ => rfl) (by decide +kernel)
    (fun _ h => absurd h List.not_mem_nil)
theorem ok_X3_init : sl_okT cX3_init ck_X3 tb_X3_init 10 = true := by decide +kernel
theorem os_X3_init : sl_sT 1 0 0 0 [] [] [3] [] [] tb_X3_init 10 = true := by decide +kernel
theorem gc_X3_init (hst : l.stackTraces = false) (hM : sl_Mem ad base NA ln rd VR cn wr al MI sn) (hMo : sl_Mo wr al cn sn)  :
    sl_CC ad base NA Hb D cA ln rd VR MI cn sn l 0 yX3_init cX3_init 1 (sl_rt 0 "") 1 20 0 0 (fun as m => sl_B tb_X3_init fl_X3 pi_X3 cl_X3_init nw_X3 rd wr al ln 0 (fun _ => 0) call sp_X3_init mk_X3_init 100000 (0, sl_lo 1 as, []) m) :=
  sl_mk (NT := 10) (NC := 0) (LC := []) hst hM hMo (fun h => absurd rfl h) (plainFor_of_name (by decide +kernel)) (fun _ => by decide +kernel) (fun p h => by unfold tb_X3_init; rw [Nat.ble_eq.mpr h]; rfl) ok_X3_init os_X3_init
    (fun _ h => absurd h List.not_mem_nil)
    (fun _ h => absurd h List.not_mem_nil)
    (Or.inl rfl) (Or.inl rfl)
    (fun q h => by
    simp only [List.mem_cons, List.not_mem_nil, or_false] at h
    rcases h with rfl
    · exact ⟨sl_gw_at 198 (by decide +kernel) (by decide +kernel), sl_gw_at 69 (by decide +kernel) (by decide +kernel), sl_gw_at 70 (by decide +kernel) (by decide +kernel)⟩)
    (Or.inr ⟨by decide, by decide⟩)
    (fun _ h => absurd h List.not_mem_nil)
    (fun _ h => absurd h List.not_mem_nil)
    hfl_X3 hpi_X3 hnw_X3 (fun p _ => rfl) (by decide +kernel)
    (fun _ h => absurd h List.not_mem_nil)
theorem ok_X6_init : sl_okT cX6_init ck_X6 tb_X6_init 20 = true := by decide +kernel
theorem os_X6_init : sl_sT 2 0 0 0 [100] [] [3] [] [] tb_X6_init 20 = true := by decide +kernel
theorem gc_X6_init (hst : l.stackTraces = false) (hM : sl_Mem ad base NA ln rd VR cn wr al MI sn) (hMo : sl_Mo wr al cn sn)  :
    sl_CC ad base NA Hb D cA ln rd VR MI cn sn l 0 yX6_init cX6_init 2 (sl_rt 0 "") 1 20 0 0 (fun as m => sl_B tb_X6_init fl_X6 pi_X6 cl_X6_init nw_X6 rd wr al ln 0 (fun _ => 0) call sp_X6_init mk_X6_init 100000 (0, sl_lo 2 as, []) m) :=
  sl_mk (NT := 20) (NC := 0) (LC := []) hst hM hMo (fun h => absurd rfl h) (plainFor_of_name (by decide +kernel)) (fun _ => by decide +kernel) (fun p h => by unfold tb_X6_init; rw [Nat.ble_eq.mpr h]; rfl) ok_X6_init os_X6_init
    (fun q h => by
    simp only [List.mem_cons, List.not_mem_nil, or_false] at h
    rcases h with rfl
    · exact ⟨by decide, fun ty h => by cases ty <;> first | exact absurd h (by decide) | exact sl_gw_at 138 (by decide +kernel) (by decide +kernel)⟩)
    (fun _ h => absurd h List.not_mem_nil)
    (Or.inl rfl) (Or.inl rfl)
    (fun q h => by
    simp only [List.mem_cons, List.not_mem_nil, or_false] at h
    rcases h with rfl
    · exact ⟨sl_gw_at 123 (by decide +kernel) (by decide +kernel), sl_gw_at 69 (by decide +kernel) (by decide +kernel), sl_gw_at 70 (by decide +kernel) (by decide +kernel)⟩)
    (Or.inr ⟨by decide, by decide⟩)
    (fun _ h => absurd h List.not_mem_nil)
    (fun _ h => absurd h List.not_mem_nil)
    hfl_X6 hpi_X6 hnw_X6 (fun p _ => rfl) (by decide +kernel)
    (fun _ h => absurd h List.not_mem_nil)
theorem ok_X5_init : sl_okT cX5_init ck_X5 tb_X5_init 66 = true := by decide +kernel
theorem os_X5_init : sl_sT 4 0 0 0 [101] [] [3] [] [] tb_X5_init 66 = true := by decide +kernel
theorem gc_X5_init (hst : l.stackTraces = false) (hM : sl_Mem ad base NA ln rd VR cn wr al MI sn) (hMo : sl_Mo wr al cn sn) (h_X6_init : sl_CC ad base NA Hb D cA ln rd VR MI cn sn l 0 yX6_init cX6_init 2 (sl_rt 0 "") 1 20 0 0 (call 32)) :
    sl_CC ad base NA Hb D cA ln rd VR MI cn sn l 0 yX5_init cX5_init 4 (sl_rt 0 "") 2 41 0 0 (fun as m => sl_B tb_X5_init fl_X5 pi_X5 cl_X5_init nw_X5 rd wr al ln 0 (fun _ => 0) call sp_X5_init mk_X5_init 100000 (0, sl_lo 4 as, []) m) :=
  sl_mk (NT := 66) (NC := 12) (LC := [(11, (32, 2, 0, 0, 0, 7))]) hst hM hMo (fun h => absurd rfl h) (plainFor_of_name (by decide +kernel)) (fun _ => by decide +kernel) (fun p h => by unfold tb_X5_init; rw [Nat.ble_eq.mpr h]; rfl) ok_X5_init os_X5_init
    (fun q h => by
    simp only [List.mem_cons, List.not_mem_nil, or_false] at h
    rcases h with rfl
    · exact ⟨by decide, fun ty h => by cases ty <;> first | exact absurd h (by decide) | exact sl_gw_at 109 (by decide +kernel) (by decide +kernel)⟩)
    (fun _ h => absurd h List.not_mem_nil)
    (Or.inl rfl) (Or.inl rfl)
    (fun q h => by
    simp only [List.mem_cons, List.not_mem_nil, or_false] at h
    rcases h with rfl
    · exact ⟨sl_gw_at 267 (by decide +kernel) (by decide +kernel), sl_gw_at 69 (by decide +kernel) (by decide +kernel), sl_gw_at 70 (by decide +kernel) (by decide +kernel)⟩)
    (Or.inr ⟨by decide, by decide⟩)
    (fun _ h => absurd h List.not_mem_nil)
    (fun _ h => absurd h List.not_mem_nil)
    hfl_X5 hpi_X5 hnw_X5 (fun p h => by unfold cl_X5_init; rw [Nat.ble_eq.mpr h]; rfl) (by decide +kernel)
    (fun q h => by
    simp only [List.mem_cons, List.not_mem_nil, or_false] at h
    rcases h with rfl
    · exact ⟨yX6_init, cX6_init, 2, (sl_rt 0 ""), 1, 20, cy2_X6_init (sl_gw_at 269 (by decide +kernel) (by decide +kernel)) ⟨by decide, by decide⟩, fun h => absurd rfl h, h_X6_init⟩
    )
theorem ok_X7_init : sl_okT cX7_init ck_X7 tb_X7_init 66 = true := by decide +kernel
theorem os_X7_init : sl_sT 4 0 0 0 [101, 102] [] [3] [] [] tb_X7_init 66 = true := by decide +kernel
theorem gc_X7_init (hst : l.stackTraces = false) (hM : sl_Mem ad base NA ln rd VR cn wr al MI sn) (hMo : sl_Mo wr al cn sn) (h_X6_init : sl_CC ad base NA Hb D cA ln rd VR MI cn sn l 0 yX6_init cX6_init 2 (sl_rt 0 "") 1 20 0 0 (call 32)) :
    sl_CC ad base NA Hb D cA ln rd VR MI cn sn l 0 yX7_init cX7_init 4 (sl_rt 0 "") 2 41 0 0 (fun as m => sl_B tb_X7_init fl_X7 pi_X7 cl_X7_init nw_X7 rd wr al ln 0 (fun _ => 0) call sp_X7_init mk_X7_init 100000 (0, sl_lo 4 as, []) m) :=
  sl_mk (NT := 66) (NC := 12) (LC := [(11, (32, 2, 0, 0, 0, 7))]) hst hM hMo (fun h => absurd rfl h) (plainFor_of_name (by decide +kernel)) (fun _ => by decide +kernel) (fun p h => by unfold tb_X7_init; rw [Nat.ble_eq.mpr h]; rfl) ok_X7_init os_X7_init
    (fun q h => by
    simp only [List.mem_cons, List.not_mem_nil, or_false] at h
    rcases h with rfl | rfl
    · exact ⟨by decide, fun ty h => by cases ty <;> first | exact absurd h (by decide) | exact sl_gw_at 109 (by decide +kernel) (by decide +kernel)⟩
    · exact ⟨by decide, fun ty h => by cases ty <;> first | exact absurd h (by decide) | exact sl_gw_at 261 (by decide +kernel) (by decide +kernel)⟩)
    (fun _ h => absurd h List.not_mem_nil)
    (Or.inl rfl) (Or.inl rfl)
    (fun q h => by
    simp only [List.mem_cons, List.not_mem_nil, or_false] at h
    rcases h with rfl
    · exact ⟨sl_gw_at 213 (by decide +kernel) (by decide +kernel), sl_gw_at 69 (by decide +kernel) (by decide +kernel), sl_gw_at 70 (by decide +kernel) (by decide +kernel)⟩)
    (Or.inr ⟨by decide, by decide⟩)
    (fun _ h => absurd h List.not_mem_nil)
    (fun _ h => absurd h List.not_mem_nil)
    hfl_X7 hpi_X7 hnw_X7 (fun p h => by unfold cl_X7_init; rw [Nat.ble_eq.mpr h]; rfl) (by decide +kernel)
    (fun q h => by
    simp only [List.mem_cons, List.not_mem_nil, or_false] at h
    rcases h with rfl
    · exact ⟨yX6_init, cX6_init, 2, (sl_rt 0 ""), 1, 20, cy2_X6_init (sl_gw_at 215 (by decide +kernel) (by decide +kernel)) ⟨by decide, by decide⟩, fun h => absurd rfl h, h_X6_init⟩
    )
theorem ok_X1_init : sl_okT cX1_init ck_X1 tb_X1_init 80 = true := by decide +kernel
theorem os_X1_init : sl_sT 4 0 0 0 [] [] [3] [] [] tb_X1_init 80 = true := by decide +kernel
theorem gc_X1_init (hst : l.stackTraces = false) (hM : sl_Mem ad base NA ln rd VR cn wr al MI sn) (hMo : sl_Mo wr al cn sn) (h_X3_init : sl_CC ad base NA Hb D cA ln rd VR MI cn sn l 0 yX3_init cX3_init 1 (sl_rt 0 "") 1 20 0 0 (call 13)) (h_X5_init : sl_CC ad base NA Hb D cA ln rd VR MI cn sn l 0 yX5_init cX5_init 4 (sl_rt 0 "") 2 41 0 0 (call 24)) (h_X6_init : sl_CC ad base NA Hb D cA ln rd VR MI cn sn l 0 yX6_init cX6_init 2 (sl_rt 0 "") 1 20 0 0 (call 32)) (h_X7_init : sl_CC ad base NA Hb D cA ln rd VR MI cn sn l 0 yX7_init cX7_init 4 (sl_rt 0 "") 2 41 0 0 (call 40)) :
    sl_CC ad base NA Hb D cA ln rd VR MI cn sn l 0 yX1_init cX1_init 4 (sl_rt 0 "") 3 64 0 0 (fun as m => sl_B tb_X1_init fl_X1 pi_X1 cl_X1_init nw_X1 rd wr al ln 0 (fun _ => 0) call sp_X1_init mk_X1_init 100000 (0, sl_lo 4 as, []) m) :=
  sl_mk (NT := 80) (NC := 50) (LC := [(11, (32, 2, 0, 0, 0, 7)), (25, (13, 1, 0, 0, 0, 4)), (40, (40, 4, 0, 0, 0, 8)), (49, (24, 4, 0, 0, 0, 6))]) hst hM hMo (fun h => absurd rfl h) (plainFor_of_name (by decide +kernel)) (fun _ => by decide +kernel) (fun p h => by unfold tb_X1_init; rw [Nat.ble_eq.mpr h]; rfl) ok_X1_init os_X1_init
    (fun _ h => absurd h List.not_mem_nil)
    (fun _ h => absurd h List.not_mem_nil)
    (Or.inl rfl) (Or.inl rfl)
    (fun q h => by
    simp only [List.mem_cons, List.not_mem_nil, or_false] at h
    rcases h with rfl
    · exact ⟨sl_gw_at 190 (by decide +kernel) (by decide +kernel), sl_gw_at 69 (by decide +kernel) (by decide +kernel), sl_gw_at 70 (by decide +kernel) (by decide +kernel)⟩)
    (Or.inr ⟨by decide, by decide⟩)
    (fun _ h => absurd h List.not_mem_nil)
    (fun _ h => absurd h List.not_mem_nil)
    hfl_X1 hpi_X1 hnw_X1 (fun p h => by unfold cl_X1_init; rw [Nat.ble_eq.mpr h]; rfl) (by decide +kernel)
    (fun q h => by
    simp only [List.mem_cons, List.not_mem_nil, or_false] at h
    rcases h with rfl | rfl | rfl | rfl
    · exact ⟨yX6_init, cX6_init, 2, (sl_rt 0 ""), 1, 20, cy2_X6_init (sl_gw_at 192 (by decide +kernel) (by decide +kernel)) ⟨by decide, by decide⟩, fun h => absurd rfl h, h_X6_init⟩
    · exact ⟨yX3_init, cX3_init, 1, (sl_rt 0 ""), 1, 20, cy3_X3_init ⟨RX10, by decide +kernel⟩ ⟨by decide, by decide⟩, fun h => absurd rfl h, h_X3_init⟩
    · exact ⟨yX7_init, cX7_init, 4, (sl_rt 0 ""), 2, 41, cy2_X7_init (sl_gw_at 210 (by decide +kernel) (by decide +kernel)) ⟨by decide, by decide⟩, fun h => absurd rfl h, h_X7_init⟩
    · exact ⟨yX5_init, cX5_init, 4, (sl_rt 0 ""), 2, 41, cy2_X5_init (sl_gw_at 264 (by decide +kernel) (by decide +kernel)) ⟨by decide, by decide⟩, fun h => absurd rfl h, h_X5_init⟩
    )
theorem ok_X2_init : sl_okT cX2_init ck_X2 tb_X2_init 18 = true := by decide +kernel
theorem os_X2_init : sl_sT 1 0 0 0 [] [] [3] [] [] tb_X2_init 18 = true := by decide +kernel
theorem gc_X2_init (hst : l.stackTraces = false) (hM : sl_Mem ad base NA ln rd VR cn wr al MI sn) (hMo : sl_Mo wr al cn sn) (h_X6_init : sl_CC ad base NA Hb D cA ln rd VR MI cn sn l 0 yX6_init cX6_init 2 (sl_rt 0 "") 1 20 0 0 (call 32)) :
    sl_CC ad base NA Hb D cA ln rd VR MI cn sn l 0 yX2_init cX2_init 1 (sl_rt 0 "") 2 41 0 0 (fun as m => sl_B tb_X2_init fl_X2 pi_X2 cl_X2_init nw_X2 rd wr al ln 0 (fun _ => 0) call sp_X2_init mk_X2_init 100000 (0, sl_lo 1 as, []) m) :=
  sl_mk (NT := 18) (NC := 12) (LC := [(11, (32, 2, 0, 0, 0, 7))]) hst hM hMo (fun h => absurd rfl h) (plainFor_of_name (by decide +kernel)) (fun _ => by decide +kernel) (fun p h => by unfold tb_X2_init; rw [Nat.ble_eq.mpr h]; rfl) ok_X2_init os_X2_init
    (fun _ h => absurd h List.not_mem_nil)
    (fun _ h => absurd h List.not_mem_nil)
    (Or.inl rfl) (Or.inl rfl)
    (fun q h => by
    simp only [List.mem_cons, List.not_mem_nil, or_false] at h
    rcases h with rfl
    · exact ⟨sl_gw_at 143 (by decide +kernel) (by decide +kernel), sl_gw_at 69 (by decide +kernel) (by decide +kernel), sl_gw_at 70 (by decide +kernel) (by decide +kernel)⟩)
    (Or.inr ⟨by decide, by decide⟩)
    (fun _ h => absurd h List.not_mem_nil)
    (fun _ h => absurd h List.not_mem_nil)
    hfl_X2 hpi_X2 hnw_X2 (fun p h => by unfold cl_X2_init; rw [Nat.ble_eq.mpr h]; rfl) (by decide +kernel)
    (fun q h => by
    simp only [List.mem_cons, List.not_mem_nil, or_false] at h
    rcases h with rfl
    · exact ⟨yX6_init, cX6_init, 2, (sl_rt 0 ""), 1, 20, cy2_X6_init (sl_gw_at 145 (by decide +kernel) (by decide +kernel)) ⟨by decide, by decide⟩, fun h => absurd rfl h, h_X6_init⟩
    )
theorem ok_X4_init : sl_okT cX4_init ck_X4 tb_X4_init 62 = true := by decide +kernel
theorem os_X4_init : sl_sT 3 0 0 0 [] [] [3] [9] [] tb_X4_init 62 = true := by decide +kernel
theorem gc_X4_init (hst : l.stackTraces = false) (hM : sl_Mem ad base NA ln rd VR cn wr al MI sn) (hMo : sl_Mo wr al cn sn) (h_X2_init : sl_CC ad base NA Hb D cA ln rd VR MI cn sn l 0 yX2_init cX2_init 1 (sl_rt 0 "") 2 41 0 0 (call 12)) (h_X6_init : sl_CC ad base NA Hb D cA ln rd VR MI cn sn l 0 yX6_init cX6_init 2 (sl_rt 0 "") 1 20 0 0 (call 32)) :
    sl_CC ad base NA Hb D cA ln rd VR MI cn sn l 0 yX4_init cX4_init 3 (sl_rt 0 "") 3 61 0 0 (fun as m => sl_B tb_X4_init fl_X4 pi_X4 cl_X4_init nw_X4 rd wr al ln 0 (fun _ => 0) call sp_X4_init mk_X4_init 100000 (0, sl_lo 3 as, []) m) :=
  sl_mk (NT := 62) (NC := 31) (LC := [(19, (32, 2, 0, 0, 0, 7)), (30, (12, 1, 0, 0, 0, 3))]) hst hM hMo (fun h => absurd rfl h) (plainFor_of_name (by decide +kernel)) (fun _ => by decide +kernel) (fun p h => by unfold tb_X4_init; rw [Nat.ble_eq.mpr h]; rfl) ok_X4_init os_X4_init
    (fun _ h => absurd h List.not_mem_nil)
    (fun _ h => absurd h List.not_mem_nil)
    (Or.inl rfl) (Or.inl rfl)
    (fun q h => by
    simp only [List.mem_cons, List.not_mem_nil, or_false] at h
    rcases h with rfl
    · exact ⟨sl_gw_at 115 (by decide +kernel) (by decide +kernel), sl_gw_at 69 (by decide +kernel) (by decide +kernel), sl_gw_at 70 (by decide +kernel) (by decide +kernel)⟩)
    (Or.inr ⟨by decide, by decide⟩)
    (fun _ h => absurd h List.not_mem_nil)
    (fun q h => by
    simp only [List.mem_cons, List.not_mem_nil, or_false] at h
    rcases h with rfl
    · exact sl_gw_at 116 (by decide +kernel) (by decide +kernel))
    hfl_X4 hpi_X4 hnw_X4 (fun p h => by unfold cl_X4_init; rw [Nat.ble_eq.mpr h]; rfl) (by decide +kernel)
    (fun q h => by
    simp only [List.mem_cons, List.not_mem_nil, or_false] at h
    rcases h with rfl | rfl
    · exact ⟨yX6_init, cX6_init, 2, (sl_rt 0 ""), 1, 20, cy2_X6_init (sl_gw_at 120 (by decide +kernel) (by decide +kernel)) ⟨by decide, by decide⟩, fun h => absurd rfl h, h_X6_init⟩
    · exact ⟨yX2_init, cX2_init, 1, (sl_rt 0 ""), 2, 41, cy3_X2_init ⟨RX10, by decide +kernel⟩ ⟨by decide, by decide⟩, fun h => absurd rfl h, h_X2_init⟩
    )
theorem ok_X8_init : sl_okT cX8_init ck_X8 tb_X8_init 32 = true := by decide +kernel
theorem os_X8_init : sl_sT 1 0 0 0 [] [] [3] [] [] tb_X8_init 32 = true := by decide +kernel
theorem gc_X8_init (hst : l.stackTraces = false) (hM : sl_Mem ad base NA ln rd VR cn wr al MI sn) (hMo : sl_Mo wr al cn sn)  :
    sl_CC ad base NA Hb D cA ln rd VR MI cn sn l 0 yX8_init cX8_init 1 (sl_rt 0 "") 1 20 0 0 (fun as m => sl_B tb_X8_init fl_X8 pi_X8 cl_X8_init nw_X8 rd wr al ln 0 (fun _ => 0) call sp_X8_init mk_X8_init 100000 (0, sl_lo 1 as, []) m) :=
  sl_mk (NT := 32) (NC := 0) (LC := []) hst hM hMo (fun h => absurd rfl h) (plainFor_of_name (by decide +kernel)) (fun _ => by decide +kernel) (fun p h => by unfold tb_X8_init; rw [Nat.ble_eq.mpr h]; rfl) ok_X8_init os_X8_init
    (fun _ h => absurd h List.not_mem_nil)
    (fun _ h => absurd h List.not_mem_nil)
    (Or.inl rfl) (Or.inl rfl)
    (fun q h => by
    simp only [List.mem_cons, List.not_mem_nil, or_false] at h
    rcases h with rfl
    · exact ⟨sl_gw_at 76 (by decide +kernel) (by decide +kernel), sl_gw_at 69 (by decide +kernel) (by decide +kernel), sl_gw_at 70 (by decide +kernel) (by decide +kernel)⟩)
    (Or.inr ⟨by decide, by decide⟩)
    (fun _ h => absurd h List.not_mem_nil)
    (fun _ h => absurd h List.not_mem_nil)
    hfl_X8 hpi_X8 hnw_X8 (fun p _ => rfl) (by decide +kernel)
    (fun _ h => absurd h List.not_mem_nil)
theorem ok_X9_init : sl_okT cX9_init ck_X9 tb_X9_init 13 = true := by decide +kernel
theorem os_X9_init : sl_sT 1 0 0 0 [101] [] [3] [] [] tb_X9_init 13 = true := by decide +kernel
theorem gc_X9_init (hst : l.stackTraces = false) (hM : sl_Mem ad base NA ln rd VR cn wr al MI sn) (hMo : sl_Mo wr al cn sn)  :
    sl_CC ad base NA Hb D cA ln rd VR MI cn sn l 0 yX9_init cX9_init 1 (sl_rt 0 "") 1 20 0 0 (fun as m => sl_B tb_X9_init fl_X9 pi_X9 cl_X9_init nw_X9 rd wr al ln 0 (fun _ => 0) call sp_X9_init mk_X9_init 100000 (0, sl_lo 1 as, []) m) :=
  sl_mk (NT := 13) (NC := 0) (LC := []) hst hM hMo (fun h => absurd rfl h) (plainFor_of_name (by decide +kernel)) (fun _ => by decide +kernel) (fun p h => by unfold tb_X9_init; rw [Nat.ble_eq.mpr h]; rfl) ok_X9_init os_X9_init
    (fun q h => by
    simp only [List.mem_cons, List.not_mem_nil, or_false] at h
    rcases h with rfl
    · exact ⟨by decide, fun ty h => by cases ty <;> first | exact absurd h (by decide) | exact sl_gw_at 109 (by decide +kernel) (by decide +kernel)⟩)
    (fun _ h => absurd h List.not_mem_nil)
    (Or.inl rfl) (Or.inl rfl)
    (fun q h => by
    simp only [List.mem_cons, List.not_mem_nil, or_false] at h
    rcases h with rfl
    · exact ⟨sl_gw_at 104 (by decide +kernel) (by decide +kernel), sl_gw_at 69 (by decide +kernel) (by decide +kernel), sl_gw_at 70 (by decide +kernel) (by decide +kernel)⟩)
    (Or.inr ⟨by decide, by decide⟩)
    (fun _ h => absurd h List.not_mem_nil)
    (fun _ h => absurd h List.not_mem_nil)
    hfl_X9 hpi_X9 hnw_X9 (fun p _ => rfl) (by decide +kernel)
    (fun _ h => absurd h List.not_mem_nil)
theorem ok_X10_init : sl_okT cX10_init ck_X10 tb_X10_init 142 = true := by decide +kernel
theorem os_X10_init : sl_sT 1 0 0 0 [] [] [3] [] [] tb_X10_init 142 = true := by decide +kernel
theorem gc_X10_init (hst : l.stackTraces = false) (hM : sl_Mem ad base NA ln rd VR cn wr al MI sn) (hMo : sl_Mo wr al cn sn) (h_X1_init : sl_CC ad base NA Hb D cA ln rd VR MI cn sn l 0 yX1_init cX1_init 4 (sl_rt 0 "") 3 64 0 0 (call 3)) (h_X3_init : sl_CC ad base NA Hb D cA ln rd VR MI cn sn l 0 yX3_init cX3_init 1 (sl_rt 0 "") 1 20 0 0 (call 13)) (h_X4_init : sl_CC ad base NA Hb D cA ln rd VR MI cn sn l 0 yX4_init cX4_init 3 (sl_rt 0 "") 3 61 0 0 (call 17)) (h_X6_init : sl_CC ad base NA Hb D cA ln rd VR MI cn sn l 0 yX6_init cX6_init 2 (sl_rt 0 "") 1 20 0 0 (call 32)) (h_X8_init : sl_CC ad base NA Hb D cA ln rd VR MI cn sn l 0 yX8_init cX8_init 1 (sl_rt 0 "") 1 20 0 0 (call 50)) (h_X9_init : sl_CC ad base NA Hb D cA ln rd VR MI cn sn l 0 yX9_init cX9_init 1 (sl_rt 0 "") 1 20 0 0 (call 57)) :
    sl_CC ad base NA Hb D cA ln rd VR MI cn sn l 0 yX10_init cX10_init 1 (sl_rt 0 "") 4 87 0 0 (fun as m => sl_B tb_X10_init fl_X10 pi_X10 cl_X10_init nw_X10 rd wr al ln 0 (fun _ => 0) call sp_X10_init mk_X10_init 100000 (0, sl_lo 1 as, []) m) :=
  sl_mk (NT := 142) (NC := 62) (LC := [(11, (50, 1, 0, 0, 0, 9)), (18, (57, 1, 0, 0, 0, 10)), (25, (17, 2, 0, 0, 0, 5)), (37, (3, 4, 0, 0, 0, 2)), (49, (32, 2, 0, 0, 0, 7)), (61, (13, 1, 0, 0, 0, 4))]) hst hM hMo (fun h => absurd rfl h) (plainFor_of_name (by decide +kernel)) (fun _ => by decide +kernel) (fun p h => by unfold tb_X10_init; rw [Nat.ble_eq.mpr h]; rfl) ok_X10_init os_X10_init
    (fun _ h => absurd h List.not_mem_nil)
    (fun _ h => absurd h List.not_mem_nil)
    (Or.inl rfl) (Or.inl rfl)
    (fun q h => by
    simp only [List.mem_cons, List.not_mem_nil, or_false] at h
    rcases h with rfl
    · exact ⟨sl_gw_at 68 (by decide +kernel) (by decide +kernel), sl_gw_at 69 (by decide +kernel) (by decide +kernel), sl_gw_at 70 (by decide +kernel) (by decide +kernel)⟩)
    (Or.inr ⟨by decide, by decide⟩)
    (fun _ h => absurd h List.not_mem_nil)
    (fun _ h => absurd h List.not_mem_nil)
    hfl_X10 hpi_X10 hnw_X10 (fun p h => by unfold cl_X10_init; rw [Nat.ble_eq.mpr h]; rfl) (by decide +kernel)
    (fun q h => by
    simp only [List.mem_cons, List.not_mem_nil, or_false] at h
    rcases h with rfl | rfl | rfl | rfl | rfl | rfl
    · exact ⟨yX8_init, cX8_init, 1, (sl_rt 0 ""), 1, 20, cy3_X8_init ⟨RX10, by decide +kernel⟩ ⟨by decide, by decide⟩, fun h => absurd rfl h, h_X8_init⟩
    · exact ⟨yX9_init, cX9_init, 1, (sl_rt 0 ""), 1, 20, cy3_X9_init ⟨RX10, by decide +kernel⟩ ⟨by decide, by decide⟩, fun h => absurd rfl h, h_X9_init⟩
    · exact ⟨yX4_init, cX4_init, 3, (sl_rt 0 ""), 3, 61, cy2_X4_init (sl_gw_at 112 (by decide +kernel) (by decide +kernel)) ⟨by decide, by decide⟩, fun h => absurd rfl h, h_X4_init⟩
    · exact ⟨yX1_init, cX1_init, 4, (sl_rt 0 ""), 3, 64, cy2_X1_init (sl_gw_at 187 (by decide +kernel) (by decide +kernel)) ⟨by decide, by decide⟩, fun h => absurd rfl h, h_X1_init⟩
    · exact ⟨yX6_init, cX6_init, 2, (sl_rt 0 ""), 1, 20, cy2_X6_init (sl_gw_at 323 (by decide +kernel) (by decide +kernel)) ⟨by decide, by decide⟩, fun h => absurd rfl h, h_X6_init⟩
    · exact ⟨yX3_init, cX3_init, 1, (sl_rt 0 ""), 1, 20, cy3_X3_init ⟨RX10, by decide +kernel⟩ ⟨by decide, by decide⟩, fun h => absurd rfl h, h_X3_init⟩
    )
theorem ok_X11_init : sl_okT cX11_init ck_X11 tb_X11_init 393 = true := by decide +kernel
theorem os_X11_init : sl_sT 4 0 0 0 [100, 101, 102] [] [1] [] [(145, (-306674912))] tb_X11_init 393 = true := by decide +kernel
theorem gc_X11_init (hst : l.stackTraces = false) (hM : sl_Mem ad base NA ln rd VR cn wr al MI sn) (hMo : sl_Mo wr al cn sn) (h_X11_first : sl_CC ad base NA Hb D cA ln rd VR MI cn sn l 0 yX11_first cX11_first 3 (sl_rt 0 "") 0 0 0 0 (call 104)) :
    sl_CC ad base NA Hb D cA ln rd VR MI cn sn l 0 yX11_init cX11_init 4 (sl_rt 0 "") 1 22 0 0 (fun as m => sl_B tb_X11_init fl_X11 pi_X11 cl_X11_init nw_X11 rd wr al ln 0 (fun _ => 0) call sp_X11_init mk_X11_init 100000 (0, sl_lo 4 as, []) m) :=
  sl_mk (NT := 393) (NC := 147) (LC := [(146, (104, 1, 0, 0, 0, 12))]) hst hM hMo (fun h => absurd rfl h) (plainFor_of_name (by decide +kernel)) (fun _ => by decide +kernel) (fun p h => by unfold tb_X11_init; rw [Nat.ble_eq.mpr h]; rfl) ok_X11_init os_X11_init
    (fun q h => by
    simp only [List.mem_cons, List.not_mem_nil, or_false] at h
    rcases h with rfl | rfl | rfl
    · exact ⟨by decide, fun ty h => by cases ty <;> first | exact absurd h (by decide) | exact sl_gw_at 138 (by decide +kernel) (by decide +kernel)⟩
    · exact ⟨by decide, fun ty h => by cases ty <;> first | exact absurd h (by decide) | exact sl_gw_at 109 (by decide +kernel) (by decide +kernel)⟩
    · exact ⟨by decide, fun ty h => by cases ty <;> first | exact absurd h (by decide) | exact sl_gw_at 261 (by decide +kernel) (by decide +kernel)⟩)
    (fun _ h => absurd h List.not_mem_nil)
    (Or.inl rfl) (Or.inl rfl)
    (fun q h => by
    simp only [List.mem_cons, List.not_mem_nil, or_false] at h
    rcases h with rfl
    · exact ⟨sl_gw_at 813 (by decide +kernel) (by decide +kernel), sl_gw_at 69 (by decide +kernel) (by decide +kernel), sl_gw_at 70 (by decide +kernel) (by decide +kernel)⟩)
    (Or.inr ⟨by decide, by decide⟩)
    (fun q h => by
    simp only [List.mem_cons, List.not_mem_nil, or_false] at h
    rcases h with rfl
    · exact sl_gw_at 814 (by decide +kernel) (by decide +kernel))
    (fun _ h => absurd h List.not_mem_nil)
    hfl_X11 hpi_X11 hnw_X11 (fun p h => by unfold cl_X11_init; rw [Nat.ble_eq.mpr h]; rfl) (by decide +kernel)
    (fun q h => by
    simp only [List.mem_cons, List.not_mem_nil, or_false] at h
    rcases h with rfl
    · exact ⟨yX11_first, cX11_first, 3, (sl_rt 0 ""), 0, 0, cy0_X11_first (sl_gw_at 815 (by decide +kernel) (by decide +kernel)) ⟨by decide, by decide⟩, fun h => absurd rfl h, h_X11_first⟩
    )
end SLP6
