-- par
section SLP3
variable {M : Type} {ad : Nat → Nat → Nat} {base NA : Nat} {Hb : Heap} {D : va_G} {cA : Nat → ClassId} {ln : Nat → Nat → Nat} {rd : M → Nat → Nat → Nat → sl_V} {VR : M → Nat × Nat → Prop} {MI : M → Prop} {cn sn : M → Nat} {l : Launch}
variable {wr : M → Nat → Nat → Nat → sl_V → Option M} {al : M → Nat → Int32 → Option ((Nat × Nat) × M)} {call : Nat → List sl_V → M → Option (sl_PL × M)}
theorem ok_X6_at : sl_okT cX6_at ck_X6 tb_X6_at 36 = true := by decide +kernel
theorem os_X6_at : sl_sT 2 1 0 1 [] [] [] [] [] tb_X6_at 36 = true := by decide +kernel
theorem gc_X6_at (hst : l.stackTraces = false) (hM : sl_Mem ad base NA ln rd VR cn wr al MI sn) (hMo : sl_Mo wr al cn sn)  :
    sl_CC ad base NA Hb D cA ln rd VR MI cn sn l 0 yX6_at cX6_at 2 (sl_rt 1 "") 0 0 1 0 (fun as m => sl_B tb_X6_at fl_X6 pf_X6 cl_X6_at nw_X6 rd wr al ln 0 (fun _ => 0) call sp_X6_at mk_X6_at 100000 (0, sl_lo 2 as, []) m) :=
  sl_mk (NT := 36) (NC := 0) (LC := []) hst hM hMo (fun h => absurd rfl h) (plainFor_of_name (by decide +kernel)) (fun _ => by decide +kernel) (fun p h => by unfold tb_X6_at; rw [Nat.ble_eq.mpr h]; rfl) ok_X6_at os_X6_at
    (fun _ h => absurd h List.not_mem_nil)
    (fun _ h => absurd h List.not_mem_nil)
    (Or.inl rfl) (Or.inl rfl)
    (fun _ h => absurd h List.not_mem_nil)
    (Or.inl rfl)
    (fun _ h => absurd h List.not_mem_nil)
    (fun _ h => absurd h List.not_mem_nil)
    hfl_X6 hpf_X6 hnw_X6 (fun p _ => rfl) (by decide +kernel)
    (fun _ h => absurd h List.not_mem_nil)
theorem ok_X0_checkOf : sl_okT cX0_checkOf ck_X0 tb_X0_checkOf 62 = true := by decide +kernel
theorem os_X0_checkOf : sl_sT 5 1 0 1 [] [] [] [] [(15, (-306674912))] tb_X0_checkOf 62 = true := by decide +kernel
theorem gc_X0_checkOf (hst : l.stackTraces = false) (hM : sl_Mem ad base NA ln rd VR cn wr al MI sn) (hMo : sl_Mo wr al cn sn) (h_X6_at : sl_CC ad base NA Hb D cA ln rd VR MI cn sn l 0 yX6_at cX6_at 2 (sl_rt 1 "") 0 0 1 0 (call 36)) :
    sl_CC ad base NA Hb D cA ln rd VR MI cn sn l 0 yX0_checkOf cX0_checkOf 5 (sl_rt 1 "") 1 21 1 0 (fun as m => sl_B tb_X0_checkOf fl_X0 pf_X0 cl_X0_checkOf nw_X0 rd wr al ln 0 (fun _ => 0) call sp_X0_checkOf mk_X0_checkOf 100000 (0, sl_lo 5 as, []) m) :=
  sl_mk (NT := 62) (NC := 10) (LC := [(9, (36, 2, 1, 0, 0, 7))]) hst hM hMo (fun h => absurd rfl h) (plainFor_of_name (by decide +kernel)) (fun _ => by decide +kernel) (fun p h => by unfold tb_X0_checkOf; rw [Nat.ble_eq.mpr h]; rfl) ok_X0_checkOf os_X0_checkOf
    (fun _ h => absurd h List.not_mem_nil)
    (fun _ h => absurd h List.not_mem_nil)
    (Or.inl rfl) (Or.inl rfl)
    (fun _ h => absurd h List.not_mem_nil)
    (Or.inl rfl)
    (fun q h => by
    simp only [List.mem_cons, List.not_mem_nil, or_false] at h
    rcases h with rfl
    · exact sl_gw_at 508 (by decide +kernel) (by decide +kernel))
    (fun _ h => absurd h List.not_mem_nil)
    hfl_X0 hpf_X0 hnw_X0 (fun p h => by unfold cl_X0_checkOf; rw [Nat.ble_eq.mpr h]; rfl) (by decide +kernel)
    (fun q h => by
    simp only [List.mem_cons, List.not_mem_nil, or_false] at h
    rcases h with rfl
    · exact ⟨yX6_at, cX6_at, 2, (sl_rt 1 ""), 0, 0, cy0_X6_at (sl_gw_at 507 (by decide +kernel) (by decide +kernel)) ⟨by decide, by decide⟩, fun h => absurd rfl h, h_X6_at⟩
    )
theorem ok_X6_clear : sl_okT cX6_clear ck_X6 tb_X6_clear 6 = true := by decide +kernel
theorem os_X6_clear : sl_sT 1 0 0 0 [] [] [] [] [] tb_X6_clear 6 = true := by decide +kernel
theorem gc_X6_clear (hst : l.stackTraces = false) (hM : sl_Mem ad base NA ln rd VR cn wr al MI sn) (hMo : sl_Mo wr al cn sn)  :
    sl_CC ad base NA Hb D cA ln rd VR MI cn sn l 0 yX6_clear cX6_clear 1 (sl_rt 0 "") 0 0 0 0 (fun as m => sl_B tb_X6_clear fl_X6 pf_X6 cl_X6_clear nw_X6 rd wr al ln 0 (fun _ => 0) call sp_X6_clear mk_X6_clear 100000 (0, sl_lo 1 as, []) m) :=
  sl_mk (NT := 6) (NC := 0) (LC := []) hst hM hMo (fun h => absurd rfl h) (plainFor_of_name (by decide +kernel)) (fun _ => by decide +kernel) (fun p h => by unfold tb_X6_clear; rw [Nat.ble_eq.mpr h]; rfl) ok_X6_clear os_X6_clear
    (fun _ h => absurd h List.not_mem_nil)
    (fun _ h => absurd h List.not_mem_nil)
    (Or.inl rfl) (Or.inl rfl)
    (fun _ h => absurd h List.not_mem_nil)
    (Or.inl rfl)
    (fun _ h => absurd h List.not_mem_nil)
    (fun _ h => absurd h List.not_mem_nil)
    hfl_X6 hpf_X6 hnw_X6 (fun p _ => rfl) (by decide +kernel)
    (fun _ h => absurd h List.not_mem_nil)
theorem ok_X6_add : sl_okT cX6_add ck_X6 tb_X6_add 44 = true := by decide +kernel
theorem os_X6_add : sl_sT 2 1 0 2 [] [] [] [] [] tb_X6_add 44 = true := by decide +kernel
theorem gc_X6_add (hst : l.stackTraces = false) (hM : sl_Mem ad base NA ln rd VR cn wr al MI sn) (hMo : sl_Mo wr al cn sn)  :
    sl_CC ad base NA Hb D cA ln rd VR MI cn sn l 0 yX6_add cX6_add 2 (sl_rt 2 "") 0 0 1 0 (fun as m => sl_B tb_X6_add fl_X6 pf_X6 cl_X6_add nw_X6 rd wr al ln 0 (fun _ => 0) call sp_X6_add mk_X6_add 100000 (0, sl_lo 2 as, []) m) :=
  sl_mk (NT := 44) (NC := 0) (LC := []) hst hM hMo (fun h => absurd rfl h) (plainFor_of_name (by decide +kernel)) (fun _ => by decide +kernel) (fun p h => by unfold tb_X6_add; rw [Nat.ble_eq.mpr h]; rfl) ok_X6_add os_X6_add
    (fun _ h => absurd h List.not_mem_nil)
    (fun _ h => absurd h List.not_mem_nil)
    (Or.inl rfl) (Or.inl rfl)
    (fun _ h => absurd h List.not_mem_nil)
    (Or.inl rfl)
    (fun _ h => absurd h List.not_mem_nil)
    (fun _ h => absurd h List.not_mem_nil)
    hfl_X6 hpf_X6 hnw_X6 (fun p _ => rfl) (by decide +kernel)
    (fun _ h => absurd h List.not_mem_nil)
theorem ok_X6_put : sl_okT cX6_put ck_X6 tb_X6_put 22 = true := by decide +kernel
theorem os_X6_put : sl_sT 3 0 0 0 [] [] [] [] [] tb_X6_put 22 = true := by decide +kernel
theorem gc_X6_put (hst : l.stackTraces = false) (hM : sl_Mem ad base NA ln rd VR cn wr al MI sn) (hMo : sl_Mo wr al cn sn)  :
    sl_CC ad base NA Hb D cA ln rd VR MI cn sn l 0 yX6_put cX6_put 3 (sl_rt 0 "") 0 0 0 0 (fun as m => sl_B tb_X6_put fl_X6 pf_X6 cl_X6_put nw_X6 rd wr al ln 0 (fun _ => 0) call sp_X6_put mk_X6_put 100000 (0, sl_lo 3 as, []) m) :=
  sl_mk (NT := 22) (NC := 0) (LC := []) hst hM hMo (fun h => absurd rfl h) (plainFor_of_name (by decide +kernel)) (fun _ => by decide +kernel) (fun p h => by unfold tb_X6_put; rw [Nat.ble_eq.mpr h]; rfl) ok_X6_put os_X6_put
    (fun _ h => absurd h List.not_mem_nil)
    (fun _ h => absurd h List.not_mem_nil)
    (Or.inl rfl) (Or.inl rfl)
    (fun _ h => absurd h List.not_mem_nil)
    (Or.inl rfl)
    (fun _ h => absurd h List.not_mem_nil)
    (fun _ h => absurd h List.not_mem_nil)
    hfl_X6 hpf_X6 hnw_X6 (fun p _ => rfl) (by decide +kernel)
    (fun _ h => absurd h List.not_mem_nil)
theorem ok_X0_pack : sl_okT cX0_pack ck_X0 tb_X0_pack 93 = true := by decide +kernel
theorem os_X0_pack : sl_sT 6 0 0 0 [] [] [] [] [] tb_X0_pack 93 = true := by decide +kernel
theorem gc_X0_pack (hst : l.stackTraces = false) (hM : sl_Mem ad base NA ln rd VR cn wr al MI sn) (hMo : sl_Mo wr al cn sn) (h_X6_clear : sl_CC ad base NA Hb D cA ln rd VR MI cn sn l 0 yX6_clear cX6_clear 1 (sl_rt 0 "") 0 0 0 0 (call 33)) (h_X6_at : sl_CC ad base NA Hb D cA ln rd VR MI cn sn l 0 yX6_at cX6_at 2 (sl_rt 1 "") 0 0 1 0 (call 36)) (h_X6_add : sl_CC ad base NA Hb D cA ln rd VR MI cn sn l 0 yX6_add cX6_add 2 (sl_rt 2 "") 0 0 1 0 (call 37)) (h_X6_put : sl_CC ad base NA Hb D cA ln rd VR MI cn sn l 0 yX6_put cX6_put 3 (sl_rt 0 "") 0 0 0 0 (call 38)) :
    sl_CC ad base NA Hb D cA ln rd VR MI cn sn l 0 yX0_pack cX0_pack 6 (sl_rt 0 "") 1 22 0 0 (fun as m => sl_B tb_X0_pack fl_X0 pf_X0 cl_X0_pack nw_X0 rd wr al ln 0 (fun _ => 0) call sp_X0_pack mk_X0_pack 100000 (0, sl_lo 6 as, []) m) :=
  sl_mk (NT := 93) (NC := 28) (LC := [(9, (36, 2, 1, 0, 0, 7)), (16, (33, 1, 0, 0, 0, 7)), (19, (37, 2, 1, 0, 0, 7)), (27, (38, 3, 0, 0, 0, 7))]) hst hM hMo (fun h => absurd rfl h) (plainFor_of_name (by decide +kernel)) (fun _ => by decide +kernel) (fun p h => by unfold tb_X0_pack; rw [Nat.ble_eq.mpr h]; rfl) ok_X0_pack os_X0_pack
    (fun _ h => absurd h List.not_mem_nil)
    (fun _ h => absurd h List.not_mem_nil)
    (Or.inl rfl) (Or.inl rfl)
    (fun _ h => absurd h List.not_mem_nil)
    (Or.inl rfl)
    (fun _ h => absurd h List.not_mem_nil)
    (fun _ h => absurd h List.not_mem_nil)
    hfl_X0 hpf_X0 hnw_X0 (fun p h => by unfold cl_X0_pack; rw [Nat.ble_eq.mpr h]; rfl) (by decide +kernel)
    (fun q h => by
    simp only [List.mem_cons, List.not_mem_nil, or_false] at h
    rcases h with rfl | rfl | rfl | rfl
    · exact ⟨yX6_at, cX6_at, 2, (sl_rt 1 ""), 0, 0, cy0_X6_at (sl_gw_at 507 (by decide +kernel) (by decide +kernel)) ⟨by decide, by decide⟩, fun h => absurd rfl h, h_X6_at⟩
    · exact ⟨yX6_clear, cX6_clear, 1, (sl_rt 0 ""), 0, 0, cy0_X6_clear (sl_gw_at 512 (by decide +kernel) (by decide +kernel)) ⟨by decide, by decide⟩, fun h => absurd rfl h, h_X6_clear⟩
    · exact ⟨yX6_add, cX6_add, 2, (sl_rt 2 ""), 0, 0, cy0_X6_add (sl_gw_at 513 (by decide +kernel) (by decide +kernel)) ⟨by decide, by decide⟩, fun h => absurd rfl h, h_X6_add⟩
    · exact ⟨yX6_put, cX6_put, 3, (sl_rt 0 ""), 0, 0, cy0_X6_put (sl_gw_at 514 (by decide +kernel) (by decide +kernel)) ⟨by decide, by decide⟩, fun h => absurd rfl h, h_X6_put⟩
    )
theorem ok_X0_unpack : sl_okT cX0_unpack ck_X0 tb_X0_unpack 75 = true := by decide +kernel
theorem os_X0_unpack : sl_sT 6 0 0 0 [] [] [] [] [] tb_X0_unpack 75 = true := by decide +kernel
theorem gc_X0_unpack (hst : l.stackTraces = false) (hM : sl_Mem ad base NA ln rd VR cn wr al MI sn) (hMo : sl_Mo wr al cn sn) (h_X6_clear : sl_CC ad base NA Hb D cA ln rd VR MI cn sn l 0 yX6_clear cX6_clear 1 (sl_rt 0 "") 0 0 0 0 (call 33)) (h_X6_at : sl_CC ad base NA Hb D cA ln rd VR MI cn sn l 0 yX6_at cX6_at 2 (sl_rt 1 "") 0 0 1 0 (call 36)) (h_X6_add : sl_CC ad base NA Hb D cA ln rd VR MI cn sn l 0 yX6_add cX6_add 2 (sl_rt 2 "") 0 0 1 0 (call 37)) :
    sl_CC ad base NA Hb D cA ln rd VR MI cn sn l 0 yX0_unpack cX0_unpack 6 (sl_rt 0 "") 1 21 0 0 (fun as m => sl_B tb_X0_unpack fl_X0 pf_X0 cl_X0_unpack nw_X0 rd wr al ln 0 (fun _ => 0) call sp_X0_unpack mk_X0_unpack 100000 (0, sl_lo 6 as, []) m) :=
  sl_mk (NT := 75) (NC := 20) (LC := [(9, (36, 2, 1, 0, 0, 7)), (16, (33, 1, 0, 0, 0, 7)), (19, (37, 2, 1, 0, 0, 7))]) hst hM hMo (fun h => absurd rfl h) (plainFor_of_name (by decide +kernel)) (fun _ => by decide +kernel) (fun p h => by unfold tb_X0_unpack; rw [Nat.ble_eq.mpr h]; rfl) ok_X0_unpack os_X0_unpack
    (fun _ h => absurd h List.not_mem_nil)
    (fun _ h => absurd h List.not_mem_nil)
    (Or.inl rfl) (Or.inl rfl)
    (fun _ h => absurd h List.not_mem_nil)
    (Or.inl rfl)
    (fun _ h => absurd h List.not_mem_nil)
    (fun _ h => absurd h List.not_mem_nil)
    hfl_X0 hpf_X0 hnw_X0 (fun p h => by unfold cl_X0_unpack; rw [Nat.ble_eq.mpr h]; rfl) (by decide +kernel)
    (fun q h => by
    simp only [List.mem_cons, List.not_mem_nil, or_false] at h
    rcases h with rfl | rfl | rfl
    · exact ⟨yX6_at, cX6_at, 2, (sl_rt 1 ""), 0, 0, cy0_X6_at (sl_gw_at 507 (by decide +kernel) (by decide +kernel)) ⟨by decide, by decide⟩, fun h => absurd rfl h, h_X6_at⟩
    · exact ⟨yX6_clear, cX6_clear, 1, (sl_rt 0 ""), 0, 0, cy0_X6_clear (sl_gw_at 512 (by decide +kernel) (by decide +kernel)) ⟨by decide, by decide⟩, fun h => absurd rfl h, h_X6_clear⟩
    · exact ⟨yX6_add, cX6_add, 2, (sl_rt 2 ""), 0, 0, cy0_X6_add (sl_gw_at 513 (by decide +kernel) (by decide +kernel)) ⟨by decide, by decide⟩, fun h => absurd rfl h, h_X6_add⟩
    )
theorem ok_X1_forgetHeard : sl_okT cX1_forgetHeard ck_X1 tb_X1_forgetHeard 13 = true := by decide +kernel
theorem os_X1_forgetHeard : sl_sT 1 0 0 0 [] [] [] [] [] tb_X1_forgetHeard 13 = true := by decide +kernel
theorem gc_X1_forgetHeard (hst : l.stackTraces = false) (hM : sl_Mem ad base NA ln rd VR cn wr al MI sn) (hMo : sl_Mo wr al cn sn) (h_X6_clear : sl_CC ad base NA Hb D cA ln rd VR MI cn sn l 0 yX6_clear cX6_clear 1 (sl_rt 0 "") 0 0 0 0 (call 33)) :
    sl_CC ad base NA Hb D cA ln rd VR MI cn sn l 0 yX1_forgetHeard cX1_forgetHeard 1 (sl_rt 0 "") 1 20 0 0 (fun as m => sl_B tb_X1_forgetHeard fl_X1 pf_X1 cl_X1_forgetHeard nw_X1 rd wr al ln 0 (fun _ => 0) call sp_X1_forgetHeard mk_X1_forgetHeard 100000 (0, sl_lo 1 as, []) m) :=
  sl_mk (NT := 13) (NC := 62) (LC := [(61, (33, 1, 0, 0, 0, 7))]) hst hM hMo (fun h => absurd rfl h) (plainFor_of_name (by decide +kernel)) (fun _ => by decide +kernel) (fun p h => by unfold tb_X1_forgetHeard; rw [Nat.ble_eq.mpr h]; rfl) ok_X1_forgetHeard os_X1_forgetHeard
    (fun _ h => absurd h List.not_mem_nil)
    (fun _ h => absurd h List.not_mem_nil)
    (Or.inl rfl) (Or.inl rfl)
    (fun _ h => absurd h List.not_mem_nil)
    (Or.inl rfl)
    (fun _ h => absurd h List.not_mem_nil)
    (fun _ h => absurd h List.not_mem_nil)
    hfl_X1 hpf_X1 hnw_X1 (fun p h => by unfold cl_X1_forgetHeard; rw [Nat.ble_eq.mpr h]; rfl) (by decide +kernel)
    (fun q h => by
    simp only [List.mem_cons, List.not_mem_nil, or_false] at h
    rcases h with rfl
    · exact ⟨yX6_clear, cX6_clear, 1, (sl_rt 0 ""), 0, 0, cy0_X6_clear (sl_gw_at 401 (by decide +kernel) (by decide +kernel)) ⟨by decide, by decide⟩, fun h => absurd rfl h, h_X6_clear⟩
    )
theorem ok_J7_fill_53178 : sl_okT cJ7_fill_53178 ck_J7 tb_J7_fill_53178 21 = true := by decide +kernel
theorem os_J7_fill_53178 : sl_sT 4 0 0 0 [] [] [] [] [] tb_J7_fill_53178 21 = true := by decide +kernel
theorem gc_J7_fill_53178 (hst : l.stackTraces = false) (hM : sl_Mem ad base NA ln rd VR cn wr al MI sn) (hMo : sl_Mo wr al cn sn)  :
    sl_CC ad base NA Hb D cA ln rd VR MI cn sn l 0 yJ7_fill_53178 cJ7_fill_53178 4 (sl_rt 0 "") 0 0 0 0 (fun as m => sl_B tb_J7_fill_53178 fl_J7 pf_J7 cl_J7_fill_53178 nw_J7 rd wr al ln 0 (fun _ => 0) call sp_J7_fill_53178 mk_J7_fill_53178 100000 (0, sl_lo 4 as, []) m) :=
  sl_mk (NT := 21) (NC := 0) (LC := []) hst hM hMo (fun h => absurd rfl h) (plainFor_of_name (by decide +kernel)) (fun _ => by decide +kernel) (fun p h => by unfold tb_J7_fill_53178; rw [Nat.ble_eq.mpr h]; rfl) ok_J7_fill_53178 os_J7_fill_53178
    (fun _ h => absurd h List.not_mem_nil)
    (fun _ h => absurd h List.not_mem_nil)
    (Or.inl rfl) (Or.inl rfl)
    (fun _ h => absurd h List.not_mem_nil)
    (Or.inl rfl)
    (fun _ h => absurd h List.not_mem_nil)
    (fun _ h => absurd h List.not_mem_nil)
    hfl_J7 hpf_J7 hnw_J7 (fun p _ => rfl) (by decide +kernel)
    (fun _ h => absurd h List.not_mem_nil)
theorem ok_X5_clear : sl_okT cX5_clear ck_X5 tb_X5_clear 21 = true := by decide +kernel
theorem os_X5_clear : sl_sT 1 0 0 0 [] [] [] [] [] tb_X5_clear 21 = true := by decide +kernel
theorem gc_X5_clear (hst : l.stackTraces = false) (hM : sl_Mem ad base NA ln rd VR cn wr al MI sn) (hMo : sl_Mo wr al cn sn) (h_X6_clear : sl_CC ad base NA Hb D cA ln rd VR MI cn sn l 0 yX6_clear cX6_clear 1 (sl_rt 0 "") 0 0 0 0 (call 33)) (h_J7_fill_53178 : sl_CC ad base NA Hb D cA ln rd VR MI cn sn l 0 yJ7_fill_53178 cJ7_fill_53178 4 (sl_rt 0 "") 0 0 0 0 (call 137)) :
    sl_CC ad base NA Hb D cA ln rd VR MI cn sn l 0 yX5_clear cX5_clear 1 (sl_rt 0 "") 1 23 0 0 (fun as m => sl_B tb_X5_clear fl_X5 pf_X5 cl_X5_clear nw_X5 rd wr al ln 0 (fun _ => 0) call sp_X5_clear mk_X5_clear 100000 (0, sl_lo 1 as, []) m) :=
  sl_mk (NT := 21) (NC := 50) (LC := [(43, (33, 1, 0, 0, 0, 7)), (49, (137, 2, 0, 0, 0, 0))]) hst hM hMo (fun h => absurd rfl h) (plainFor_of_name (by decide +kernel)) (fun _ => by decide +kernel) (fun p h => by unfold tb_X5_clear; rw [Nat.ble_eq.mpr h]; rfl) ok_X5_clear os_X5_clear
    (fun _ h => absurd h List.not_mem_nil)
    (fun _ h => absurd h List.not_mem_nil)
    (Or.inl rfl) (Or.inl rfl)
    (fun _ h => absurd h List.not_mem_nil)
    (Or.inl rfl)
    (fun _ h => absurd h List.not_mem_nil)
    (fun _ h => absurd h List.not_mem_nil)
    hfl_X5 hpf_X5 hnw_X5 (fun p h => by unfold cl_X5_clear; rw [Nat.ble_eq.mpr h]; rfl) (by decide +kernel)
    (fun q h => by
    simp only [List.mem_cons, List.not_mem_nil, or_false] at h
    rcases h with rfl | rfl
    · exact ⟨yX6_clear, cX6_clear, 1, (sl_rt 0 ""), 0, 0, cy0_X6_clear (sl_gw_at 395 (by decide +kernel) (by decide +kernel)) ⟨by decide, by decide⟩, fun h => absurd rfl h, h_X6_clear⟩
    · exact ⟨yJ7_fill_53178, cJ7_fill_53178, 4, (sl_rt 0 ""), 0, 0, cy1_J7_fill_53178 (sl_gw_at 396 (by decide +kernel) (by decide +kernel)) ⟨by decide, by decide⟩, fun h => absurd rfl h, h_J7_fill_53178⟩
    )
theorem ok_X7_clear : sl_okT cX7_clear ck_X7 tb_X7_clear 33 = true := by decide +kernel
theorem os_X7_clear : sl_sT 1 0 0 0 [] [] [] [] [] tb_X7_clear 33 = true := by decide +kernel
theorem gc_X7_clear (hst : l.stackTraces = false) (hM : sl_Mem ad base NA ln rd VR cn wr al MI sn) (hMo : sl_Mo wr al cn sn) (h_X6_clear : sl_CC ad base NA Hb D cA ln rd VR MI cn sn l 0 yX6_clear cX6_clear 1 (sl_rt 0 "") 0 0 0 0 (call 33)) :
    sl_CC ad base NA Hb D cA ln rd VR MI cn sn l 0 yX7_clear cX7_clear 1 (sl_rt 0 "") 1 20 0 0 (fun as m => sl_B tb_X7_clear fl_X7 pf_X7 cl_X7_clear nw_X7 rd wr al ln 0 (fun _ => 0) call sp_X7_clear mk_X7_clear 100000 (0, sl_lo 1 as, []) m) :=
  sl_mk (NT := 33) (NC := 47) (LC := [(46, (33, 1, 0, 0, 0, 7))]) hst hM hMo (fun h => absurd rfl h) (plainFor_of_name (by decide +kernel)) (fun _ => by decide +kernel) (fun p h => by unfold tb_X7_clear; rw [Nat.ble_eq.mpr h]; rfl) ok_X7_clear os_X7_clear
    (fun _ h => absurd h List.not_mem_nil)
    (fun _ h => absurd h List.not_mem_nil)
    (Or.inl rfl) (Or.inl rfl)
    (fun _ h => absurd h List.not_mem_nil)
    (Or.inl rfl)
    (fun _ h => absurd h List.not_mem_nil)
    (fun _ h => absurd h List.not_mem_nil)
    hfl_X7 hpf_X7 hnw_X7 (fun p h => by unfold cl_X7_clear; rw [Nat.ble_eq.mpr h]; rfl) (by decide +kernel)
    (fun q h => by
    simp only [List.mem_cons, List.not_mem_nil, or_false] at h
    rcases h with rfl
    · exact ⟨yX6_clear, cX6_clear, 1, (sl_rt 0 ""), 0, 0, cy0_X6_clear (sl_gw_at 387 (by decide +kernel) (by decide +kernel)) ⟨by decide, by decide⟩, fun h => absurd rfl h, h_X6_clear⟩
    )
theorem ok_X1_clear : sl_okT cX1_clear ck_X1 tb_X1_clear 19 = true := by decide +kernel
theorem os_X1_clear : sl_sT 1 0 0 0 [] [] [] [] [] tb_X1_clear 19 = true := by decide +kernel
theorem gc_X1_clear (hst : l.stackTraces = false) (hM : sl_Mem ad base NA ln rd VR cn wr al MI sn) (hMo : sl_Mo wr al cn sn) (h_X1_forgetHeard : sl_CC ad base NA Hb D cA ln rd VR MI cn sn l 0 yX1_forgetHeard cX1_forgetHeard 1 (sl_rt 0 "") 1 20 0 0 (call 5)) (h_X5_clear : sl_CC ad base NA Hb D cA ln rd VR MI cn sn l 0 yX5_clear cX5_clear 1 (sl_rt 0 "") 1 23 0 0 (call 25)) (h_X7_clear : sl_CC ad base NA Hb D cA ln rd VR MI cn sn l 0 yX7_clear cX7_clear 1 (sl_rt 0 "") 1 20 0 0 (call 41)) :
    sl_CC ad base NA Hb D cA ln rd VR MI cn sn l 0 yX1_clear cX1_clear 1 (sl_rt 0 "") 2 43 0 0 (fun as m => sl_B tb_X1_clear fl_X1 pf_X1 cl_X1_clear nw_X1 rd wr al ln 0 (fun _ => 0) call sp_X1_clear mk_X1_clear 100000 (0, sl_lo 1 as, []) m) :=
  sl_mk (NT := 19) (NC := 59) (LC := [(54, (41, 1, 0, 0, 0, 8)), (57, (25, 1, 0, 0, 0, 6)), (58, (5, 1, 0, 0, 0, 2))]) hst hM hMo (fun h => absurd rfl h) (plainFor_of_name (by decide +kernel)) (fun _ => by decide +kernel) (fun p h => by unfold tb_X1_clear; rw [Nat.ble_eq.mpr h]; rfl) ok_X1_clear os_X1_clear
    (fun _ h => absurd h List.not_mem_nil)
    (fun _ h => absurd h List.not_mem_nil)
    (Or.inl rfl) (Or.inl rfl)
    (fun _ h => absurd h List.not_mem_nil)
    (Or.inl rfl)
    (fun _ h => absurd h List.not_mem_nil)
    (fun _ h => absurd h List.not_mem_nil)
    hfl_X1 hpf_X1 hnw_X1 (fun p h => by unfold cl_X1_clear; rw [Nat.ble_eq.mpr h]; rfl) (by decide +kernel)
    (fun q h => by
    simp only [List.mem_cons, List.not_mem_nil, or_false] at h
    rcases h with rfl | rfl | rfl
    · exact ⟨yX7_clear, cX7_clear, 1, (sl_rt 0 ""), 1, 20, cy0_X7_clear (sl_gw_at 383 (by decide +kernel) (by decide +kernel)) ⟨by decide, by decide⟩, fun h => absurd rfl h, h_X7_clear⟩
    · exact ⟨yX5_clear, cX5_clear, 1, (sl_rt 0 ""), 1, 23, cy0_X5_clear (sl_gw_at 391 (by decide +kernel) (by decide +kernel)) ⟨by decide, by decide⟩, fun h => absurd rfl h, h_X5_clear⟩
    · exact ⟨yX1_forgetHeard, cX1_forgetHeard, 1, (sl_rt 0 ""), 1, 20, cy0_X1_forgetHeard (sl_gw_at 397 (by decide +kernel) (by decide +kernel)) ⟨by decide, by decide⟩, fun h => absurd rfl h, h_X1_forgetHeard⟩
    )
theorem ok_X1_loadOfBody : sl_okT cX1_loadOfBody ck_X1 tb_X1_loadOfBody 12 = true := by decide +kernel
theorem os_X1_loadOfBody : sl_sT 1 1 0 1 [] [] [] [] [] tb_X1_loadOfBody 12 = true := by decide +kernel
theorem gc_X1_loadOfBody (hst : l.stackTraces = false) (hM : sl_Mem ad base NA ln rd VR cn wr al MI sn) (hMo : sl_Mo wr al cn sn)  :
    sl_CC ad base NA Hb D cA ln rd VR MI cn sn l 0 yX1_loadOfBody cX1_loadOfBody 1 (sl_rt 1 "") 0 0 1 0 (fun as m => sl_B tb_X1_loadOfBody fl_X1 pf_X1 cl_X1_loadOfBody nw_X1 rd wr al ln 0 (fun _ => 0) call sp_X1_loadOfBody mk_X1_loadOfBody 100000 (0, sl_lo 1 as, []) m) :=
  sl_mk (NT := 12) (NC := 0) (LC := []) hst hM hMo (fun h => absurd rfl h) (plainFor_of_name (by decide +kernel)) (fun _ => by decide +kernel) (fun p h => by unfold tb_X1_loadOfBody; rw [Nat.ble_eq.mpr h]; rfl) ok_X1_loadOfBody os_X1_loadOfBody
    (fun _ h => absurd h List.not_mem_nil)
    (fun _ h => absurd h List.not_mem_nil)
    (Or.inl rfl) (Or.inl rfl)
    (fun _ h => absurd h List.not_mem_nil)
    (Or.inl rfl)
    (fun _ h => absurd h List.not_mem_nil)
    (fun _ h => absurd h List.not_mem_nil)
    hfl_X1 hpf_X1 hnw_X1 (fun p _ => rfl) (by decide +kernel)
    (fun _ h => absurd h List.not_mem_nil)
theorem ok_X1_checkHolds : sl_okT cX1_checkHolds ck_X1 tb_X1_checkHolds 59 = true := by decide +kernel
theorem os_X1_checkHolds : sl_sT 4 1 0 2 [] [] [] [] [] tb_X1_checkHolds 59 = true := by decide +kernel
theorem gc_X1_checkHolds (hst : l.stackTraces = false) (hM : sl_Mem ad base NA ln rd VR cn wr al MI sn) (hMo : sl_Mo wr al cn sn) (h_X0_checkOf : sl_CC ad base NA Hb D cA ln rd VR MI cn sn l 0 yX0_checkOf cX0_checkOf 5 (sl_rt 1 "") 1 21 1 0 (call 0)) (h_X6_at : sl_CC ad base NA Hb D cA ln rd VR MI cn sn l 0 yX6_at cX6_at 2 (sl_rt 1 "") 0 0 1 0 (call 36)) :
    sl_CC ad base NA Hb D cA ln rd VR MI cn sn l 0 yX1_checkHolds cX1_checkHolds 4 (sl_rt 2 "") 2 45 1 0 (fun as m => sl_B tb_X1_checkHolds fl_X1 pf_X1 cl_X1_checkHolds nw_X1 rd wr al ln 0 (fun _ => 0) call sp_X1_checkHolds mk_X1_checkHolds 100000 (0, sl_lo 4 as, []) m) :=
  sl_mk (NT := 59) (NC := 122) (LC := [(86, (36, 2, 1, 0, 0, 7)), (121, (0, 2, 1, 0, 0, 0))]) hst hM hMo (fun h => absurd rfl h) (plainFor_of_name (by decide +kernel)) (fun _ => by decide +kernel) (fun p h => by unfold tb_X1_checkHolds; rw [Nat.ble_eq.mpr h]; rfl) ok_X1_checkHolds os_X1_checkHolds
    (fun _ h => absurd h List.not_mem_nil)
    (fun _ h => absurd h List.not_mem_nil)
    (Or.inl rfl) (Or.inl rfl)
    (fun _ h => absurd h List.not_mem_nil)
    (Or.inl rfl)
    (fun _ h => absurd h List.not_mem_nil)
    (fun _ h => absurd h List.not_mem_nil)
    hfl_X1 hpf_X1 hnw_X1 (fun p h => by unfold cl_X1_checkHolds; rw [Nat.ble_eq.mpr h]; rfl) (by decide +kernel)
    (fun q h => by
    simp only [List.mem_cons, List.not_mem_nil, or_false] at h
    rcases h with rfl | rfl
    · exact ⟨yX6_at, cX6_at, 2, (sl_rt 1 ""), 0, 0, cy0_X6_at (sl_gw_at 643 (by decide +kernel) (by decide +kernel)) ⟨by decide, by decide⟩, fun h => absurd rfl h, h_X6_at⟩
    · exact ⟨yX0_checkOf, cX0_checkOf, 5, (sl_rt 1 ""), 1, 21, cy1_X0_checkOf (sl_gw_at 642 (by decide +kernel) (by decide +kernel)) ⟨by decide, by decide⟩, fun h => absurd rfl h, h_X0_checkOf⟩
    )
theorem ok_X8_eachByItself : sl_okT cX8_eachByItself ck_X8 tb_X8_eachByItself 14 = true := by decide +kernel
theorem os_X8_eachByItself : sl_sT 1 1 0 2 [] [] [] [] [] tb_X8_eachByItself 14 = true := by decide +kernel
theorem gc_X8_eachByItself (hst : l.stackTraces = false) (hM : sl_Mem ad base NA ln rd VR cn wr al MI sn) (hMo : sl_Mo wr al cn sn)  :
    sl_CC ad base NA Hb D cA ln rd VR MI cn sn l 0 yX8_eachByItself cX8_eachByItself 1 (sl_rt 2 "") 0 0 1 0 (fun as m => sl_B tb_X8_eachByItself fl_X8 pf_X8 cl_X8_eachByItself nw_X8 rd wr al ln 0 (fun _ => 0) call sp_X8_eachByItself mk_X8_eachByItself 100000 (0, sl_lo 1 as, []) m) :=
  sl_mk (NT := 14) (NC := 0) (LC := []) hst hM hMo (fun h => absurd rfl h) (plainFor_of_name (by decide +kernel)) (fun _ => by decide +kernel) (fun p h => by unfold tb_X8_eachByItself; rw [Nat.ble_eq.mpr h]; rfl) ok_X8_eachByItself os_X8_eachByItself
    (fun _ h => absurd h List.not_mem_nil)
    (fun _ h => absurd h List.not_mem_nil)
    (Or.inl rfl) (Or.inl rfl)
    (fun _ h => absurd h List.not_mem_nil)
    (Or.inl rfl)
    (fun _ h => absurd h List.not_mem_nil)
    (fun _ h => absurd h List.not_mem_nil)
    hfl_X8 hpf_X8 hnw_X8 (fun p _ => rfl) (by decide +kernel)
    (fun _ h => absurd h List.not_mem_nil)
theorem ok_X8_knownLoad : sl_okT cX8_knownLoad ck_X8 tb_X8_knownLoad 24 = true := by decide +kernel
theorem os_X8_knownLoad : sl_sT 1 1 0 1 [] [] [] [] [] tb_X8_knownLoad 24 = true := by decide +kernel
theorem gc_X8_knownLoad (hst : l.stackTraces = false) (hM : sl_Mem ad base NA ln rd VR cn wr al MI sn) (hMo : sl_Mo wr al cn sn) (h_X8_eachByItself : sl_CC ad base NA Hb D cA ln rd VR MI cn sn l 0 yX8_eachByItself cX8_eachByItself 1 (sl_rt 2 "") 0 0 1 0 (call 54)) :
    sl_CC ad base NA Hb D cA ln rd VR MI cn sn l 0 yX8_knownLoad cX8_knownLoad 1 (sl_rt 1 "") 1 20 1 0 (fun as m => sl_B tb_X8_knownLoad fl_X8 pf_X8 cl_X8_knownLoad nw_X8 rd wr al ln 0 (fun _ => 0) call sp_X8_knownLoad mk_X8_knownLoad 100000 (0, sl_lo 1 as, []) m) :=
  sl_mk (NT := 24) (NC := 37) (LC := [(36, (54, 1, 1, 0, 0, 9))]) hst hM hMo (fun h => absurd rfl h) (plainFor_of_name (by decide +kernel)) (fun _ => by decide +kernel) (fun p h => by unfold tb_X8_knownLoad; rw [Nat.ble_eq.mpr h]; rfl) ok_X8_knownLoad os_X8_knownLoad
    (fun _ h => absurd h List.not_mem_nil)
    (fun _ h => absurd h List.not_mem_nil)
    (Or.inl rfl) (Or.inl rfl)
    (fun _ h => absurd h List.not_mem_nil)
    (Or.inl rfl)
    (fun _ h => absurd h List.not_mem_nil)
    (fun _ h => absurd h List.not_mem_nil)
    hfl_X8 hpf_X8 hnw_X8 (fun p h => by unfold cl_X8_knownLoad; rw [Nat.ble_eq.mpr h]; rfl) (by decide +kernel)
    (fun q h => by
    simp only [List.mem_cons, List.not_mem_nil, or_false] at h
    rcases h with rfl
    · exact ⟨yX8_eachByItself, cX8_eachByItself, 1, (sl_rt 2 ""), 0, 0, cy0_X8_eachByItself (sl_gw_at 656 (by decide +kernel) (by decide +kernel)) ⟨by decide, by decide⟩, fun h => absurd rfl h, h_X8_eachByItself⟩
    )
theorem ok_X1_headHolds : sl_okT cX1_headHolds ck_X1 tb_X1_headHolds 88 = true := by decide +kernel
theorem os_X1_headHolds : sl_sT 3 1 0 2 [] [] [] [] [] tb_X1_headHolds 88 = true := by decide +kernel
theorem gc_X1_headHolds (hst : l.stackTraces = false) (hM : sl_Mem ad base NA ln rd VR cn wr al MI sn) (hMo : sl_Mo wr al cn sn) (h_X1_loadOfBody : sl_CC ad base NA Hb D cA ln rd VR MI cn sn l 0 yX1_loadOfBody cX1_loadOfBody 1 (sl_rt 1 "") 0 0 1 0 (call 8)) (h_X6_at : sl_CC ad base NA Hb D cA ln rd VR MI cn sn l 0 yX6_at cX6_at 2 (sl_rt 1 "") 0 0 1 0 (call 36)) (h_X8_knownLoad : sl_CC ad base NA Hb D cA ln rd VR MI cn sn l 0 yX8_knownLoad cX8_knownLoad 1 (sl_rt 1 "") 1 20 1 0 (call 56)) :
    sl_CC ad base NA Hb D cA ln rd VR MI cn sn l 0 yX1_headHolds cX1_headHolds 3 (sl_rt 2 "") 2 40 1 0 (fun as m => sl_B tb_X1_headHolds fl_X1 pf_X1 cl_X1_headHolds nw_X1 rd wr al ln 0 (fun _ => 0) call sp_X1_headHolds mk_X1_headHolds 100000 (0, sl_lo 3 as, []) m) :=
  sl_mk (NT := 88) (NC := 134) (LC := [(86, (36, 2, 1, 0, 0, 7)), (94, (8, 1, 1, 0, 0, 2)), (133, (56, 1, 1, 0, 0, 9))]) hst hM hMo (fun h => absurd rfl h) (plainFor_of_name (by decide +kernel)) (fun _ => by decide +kernel) (fun p h => by unfold tb_X1_headHolds; rw [Nat.ble_eq.mpr h]; rfl) ok_X1_headHolds os_X1_headHolds
    (fun _ h => absurd h List.not_mem_nil)
    (fun _ h => absurd h List.not_mem_nil)
    (Or.inl rfl) (Or.inl rfl)
    (fun _ h => absurd h List.not_mem_nil)
    (Or.inl rfl)
    (fun _ h => absurd h List.not_mem_nil)
    (fun _ h => absurd h List.not_mem_nil)
    hfl_X1 hpf_X1 hnw_X1 (fun p h => by unfold cl_X1_headHolds; rw [Nat.ble_eq.mpr h]; rfl) (by decide +kernel)
    (fun q h => by
    simp only [List.mem_cons, List.not_mem_nil, or_false] at h
    rcases h with rfl | rfl | rfl
    · exact ⟨yX6_at, cX6_at, 2, (sl_rt 1 ""), 0, 0, cy0_X6_at (sl_gw_at 643 (by decide +kernel) (by decide +kernel)) ⟨by decide, by decide⟩, fun h => absurd rfl h, h_X6_at⟩
    · exact ⟨yX1_loadOfBody, cX1_loadOfBody, 1, (sl_rt 1 ""), 0, 0, cy0_X1_loadOfBody (sl_gw_at 648 (by decide +kernel) (by decide +kernel)) ⟨by decide, by decide⟩, fun h => absurd rfl h, h_X1_loadOfBody⟩
    · exact ⟨yX8_knownLoad, cX8_knownLoad, 1, (sl_rt 1 ""), 1, 20, cy0_X8_knownLoad (sl_gw_at 652 (by decide +kernel) (by decide +kernel)) ⟨by decide, by decide⟩, fun h => absurd rfl h, h_X8_knownLoad⟩
    )
theorem ok_X3_clear : sl_okT cX3_clear ck_X3 tb_X3_clear 11 = true := by decide +kernel
theorem os_X3_clear : sl_sT 1 0 0 0 [] [] [] [] [] tb_X3_clear 11 = true := by decide +kernel
theorem gc_X3_clear (hst : l.stackTraces = false) (hM : sl_Mem ad base NA ln rd VR cn wr al MI sn) (hMo : sl_Mo wr al cn sn)  :
    sl_CC ad base NA Hb D cA ln rd VR MI cn sn l 0 yX3_clear cX3_clear 1 (sl_rt 0 "") 0 0 0 0 (fun as m => sl_B tb_X3_clear fl_X3 pf_X3 cl_X3_clear nw_X3 rd wr al ln 0 (fun _ => 0) call sp_X3_clear mk_X3_clear 100000 (0, sl_lo 1 as, []) m) :=
  sl_mk (NT := 11) (NC := 0) (LC := []) hst hM hMo (fun h => absurd rfl h) (plainFor_of_name (by decide +kernel)) (fun _ => by decide +kernel) (fun p h => by unfold tb_X3_clear; rw [Nat.ble_eq.mpr h]; rfl) ok_X3_clear os_X3_clear
    (fun _ h => absurd h List.not_mem_nil)
    (fun _ h => absurd h List.not_mem_nil)
    (Or.inl rfl) (Or.inl rfl)
    (fun _ h => absurd h List.not_mem_nil)
    (Or.inl rfl)
    (fun _ h => absurd h List.not_mem_nil)
    (fun _ h => absurd h List.not_mem_nil)
    hfl_X3 hpf_X3 hnw_X3 (fun p _ => rfl) (by decide +kernel)
    (fun _ h => absurd h List.not_mem_nil)
theorem ok_X3_found : sl_okT cX3_found ck_X3 tb_X3_found 12 = true := by decide +kernel
theorem os_X3_found : sl_sT 3 1 0 2 [] [] [] [] [] tb_X3_found 12 = true := by decide +kernel
theorem gc_X3_found (hst : l.stackTraces = false) (hM : sl_Mem ad base NA ln rd VR cn wr al MI sn) (hMo : sl_Mo wr al cn sn)  :
    sl_CC ad base NA Hb D cA ln rd VR MI cn sn l 0 yX3_found cX3_found 3 (sl_rt 2 "") 0 0 1 0 (fun as m => sl_B tb_X3_found fl_X3 pf_X3 cl_X3_found nw_X3 rd wr al ln 0 (fun _ => 0) call sp_X3_found mk_X3_found 100000 (0, sl_lo 3 as, []) m) :=
  sl_mk (NT := 12) (NC := 0) (LC := []) hst hM hMo (fun h => absurd rfl h) (plainFor_of_name (by decide +kernel)) (fun _ => by decide +kernel) (fun p h => by unfold tb_X3_found; rw [Nat.ble_eq.mpr h]; rfl) ok_X3_found os_X3_found
    (fun _ h => absurd h List.not_mem_nil)
    (fun _ h => absurd h List.not_mem_nil)
    (Or.inl rfl) (Or.inl rfl)
    (fun _ h => absurd h List.not_mem_nil)
    (Or.inl rfl)
    (fun _ h => absurd h List.not_mem_nil)
    (fun _ h => absurd h List.not_mem_nil)
    hfl_X3 hpf_X3 hnw_X3 (fun p _ => rfl) (by decide +kernel)
    (fun _ h => absurd h List.not_mem_nil)
theorem ok_X3_isSound : sl_okT cX3_isSound ck_X3 tb_X3_isSound 128 = true := by decide +kernel
theorem os_X3_isSound : sl_sT 7 1 0 2 [] [] [] [] [] tb_X3_isSound 128 = true := by decide +kernel
theorem gc_X3_isSound (hst : l.stackTraces = false) (hM : sl_Mem ad base NA ln rd VR cn wr al MI sn) (hMo : sl_Mo wr al cn sn) (h_X3_clear : sl_CC ad base NA Hb D cA ln rd VR MI cn sn l 0 yX3_clear cX3_clear 1 (sl_rt 0 "") 0 0 0 0 (call 14)) (h_X3_found : sl_CC ad base NA Hb D cA ln rd VR MI cn sn l 0 yX3_found cX3_found 3 (sl_rt 2 "") 0 0 1 0 (call 16)) (h_X6_at : sl_CC ad base NA Hb D cA ln rd VR MI cn sn l 0 yX6_at cX6_at 2 (sl_rt 1 "") 0 0 1 0 (call 36)) :
    sl_CC ad base NA Hb D cA ln rd VR MI cn sn l 0 yX3_isSound cX3_isSound 7 (sl_rt 2 "") 1 22 1 0 (fun as m => sl_B tb_X3_isSound fl_X3 pf_X3 cl_X3_isSound nw_X3 rd wr al ln 0 (fun _ => 0) call sp_X3_isSound mk_X3_isSound 100000 (0, sl_lo 7 as, []) m) :=
  sl_mk (NT := 128) (NC := 31) (LC := [(18, (14, 1, 0, 0, 0, 4)), (26, (36, 2, 1, 0, 0, 7)), (30, (16, 3, 1, 0, 0, 4))]) hst hM hMo (fun h => absurd rfl h) (plainFor_of_name (by decide +kernel)) (fun _ => by decide +kernel) (fun p h => by unfold tb_X3_isSound; rw [Nat.ble_eq.mpr h]; rfl) ok_X3_isSound os_X3_isSound
    (fun _ h => absurd h List.not_mem_nil)
    (fun _ h => absurd h List.not_mem_nil)
    (Or.inl rfl) (Or.inl rfl)
    (fun _ h => absurd h List.not_mem_nil)
    (Or.inl rfl)
    (fun _ h => absurd h List.not_mem_nil)
    (fun _ h => absurd h List.not_mem_nil)
    hfl_X3 hpf_X3 hnw_X3 (fun p h => by unfold cl_X3_isSound; rw [Nat.ble_eq.mpr h]; rfl) (by decide +kernel)
    (fun q h => by
    simp only [List.mem_cons, List.not_mem_nil, or_false] at h
    rcases h with rfl | rfl | rfl
    · exact ⟨yX3_clear, cX3_clear, 1, (sl_rt 0 ""), 0, 0, cy0_X3_clear (sl_gw_at 629 (by decide +kernel) (by decide +kernel)) ⟨by decide, by decide⟩, fun h => absurd rfl h, h_X3_clear⟩
    · exact ⟨yX6_at, cX6_at, 2, (sl_rt 1 ""), 0, 0, cy0_X6_at (sl_gw_at 630 (by decide +kernel) (by decide +kernel)) ⟨by decide, by decide⟩, fun h => absurd rfl h, h_X6_at⟩
    · exact ⟨yX3_found, cX3_found, 3, (sl_rt 2 ""), 0, 0, cy0_X3_found (sl_gw_at 631 (by decide +kernel) (by decide +kernel)) ⟨by decide, by decide⟩, fun h => absurd rfl h, h_X3_found⟩
    )
theorem ok_X1_kindOfWrong : sl_okT cX1_kindOfWrong ck_X1 tb_X1_kindOfWrong 71 = true := by decide +kernel
theorem os_X1_kindOfWrong : sl_sT 1 1 0 1 [] [] [] [] [] tb_X1_kindOfWrong 71 = true := by decide +kernel
theorem gc_X1_kindOfWrong (hst : l.stackTraces = false) (hM : sl_Mem ad base NA ln rd VR cn wr al MI sn) (hMo : sl_Mo wr al cn sn) (h_X0_unpack : sl_CC ad base NA Hb D cA ln rd VR MI cn sn l 0 yX0_unpack cX0_unpack 6 (sl_rt 0 "") 1 21 0 0 (call 2)) (h_X1_checkHolds : sl_CC ad base NA Hb D cA ln rd VR MI cn sn l 0 yX1_checkHolds cX1_checkHolds 4 (sl_rt 2 "") 2 45 1 0 (call 10)) (h_X1_headHolds : sl_CC ad base NA Hb D cA ln rd VR MI cn sn l 0 yX1_headHolds cX1_headHolds 3 (sl_rt 2 "") 2 40 1 0 (call 11)) (h_X3_isSound : sl_CC ad base NA Hb D cA ln rd VR MI cn sn l 0 yX3_isSound cX3_isSound 7 (sl_rt 2 "") 1 22 1 0 (call 15)) :
    sl_CC ad base NA Hb D cA ln rd VR MI cn sn l 0 yX1_kindOfWrong cX1_kindOfWrong 1 (sl_rt 1 "") 3 68 1 0 (fun as m => sl_B tb_X1_kindOfWrong fl_X1 pf_X1 cl_X1_kindOfWrong nw_X1 rd wr al ln 0 (fun _ => 0) call sp_X1_kindOfWrong mk_X1_kindOfWrong 100000 (0, sl_lo 1 as, []) m) :=
  sl_mk (NT := 71) (NC := 119) (LC := [(104, (15, 2, 1, 0, 0, 4)), (108, (2, 2, 0, 0, 0, 0)), (114, (10, 1, 1, 0, 0, 2)), (118, (11, 1, 1, 0, 0, 2))]) hst hM hMo (fun h => absurd rfl h) (plainFor_of_name (by decide +kernel)) (fun _ => by decide +kernel) (fun p h => by unfold tb_X1_kindOfWrong; rw [Nat.ble_eq.mpr h]; rfl) ok_X1_kindOfWrong os_X1_kindOfWrong
    (fun _ h => absurd h List.not_mem_nil)
    (fun _ h => absurd h List.not_mem_nil)
    (Or.inl rfl) (Or.inl rfl)
    (fun _ h => absurd h List.not_mem_nil)
    (Or.inl rfl)
    (fun _ h => absurd h List.not_mem_nil)
    (fun _ h => absurd h List.not_mem_nil)
    hfl_X1 hpf_X1 hnw_X1 (fun p h => by unfold cl_X1_kindOfWrong; rw [Nat.ble_eq.mpr h]; rfl) (by decide +kernel)
    (fun q h => by
    simp only [List.mem_cons, List.not_mem_nil, or_false] at h
    rcases h with rfl | rfl | rfl | rfl
    · exact ⟨yX3_isSound, cX3_isSound, 7, (sl_rt 2 ""), 1, 22, cy0_X3_isSound (sl_gw_at 625 (by decide +kernel) (by decide +kernel)) ⟨by decide, by decide⟩, fun h => absurd rfl h, h_X3_isSound⟩
    · exact ⟨yX0_unpack, cX0_unpack, 6, (sl_rt 0 ""), 1, 21, cy1_X0_unpack (sl_gw_at 635 (by decide +kernel) (by decide +kernel)) ⟨by decide, by decide⟩, fun h => absurd rfl h, h_X0_unpack⟩
    · exact ⟨yX1_checkHolds, cX1_checkHolds, 4, (sl_rt 2 ""), 2, 45, cy0_X1_checkHolds (sl_gw_at 638 (by decide +kernel) (by decide +kernel)) ⟨by decide, by decide⟩, fun h => absurd rfl h, h_X1_checkHolds⟩
    · exact ⟨yX1_headHolds, cX1_headHolds, 3, (sl_rt 2 ""), 2, 40, cy0_X1_headHolds (sl_gw_at 644 (by decide +kernel) (by decide +kernel)) ⟨by decide, by decide⟩, fun h => absurd rfl h, h_X1_headHolds⟩
    )
theorem ok_X9_add : sl_okT cX9_add ck_X9 tb_X9_add 24 = true := by decide +kernel
theorem os_X9_add : sl_sT 2 0 0 0 [] [] [] [] [] tb_X9_add 24 = true := by decide +kernel
theorem gc_X9_add (hst : l.stackTraces = false) (hM : sl_Mem ad base NA ln rd VR cn wr al MI sn) (hMo : sl_Mo wr al cn sn)  :
    sl_CC ad base NA Hb D cA ln rd VR MI cn sn l 0 yX9_add cX9_add 2 (sl_rt 0 "") 0 0 0 0 (fun as m => sl_B tb_X9_add fl_X9 pf_X9 cl_X9_add nw_X9 rd wr al ln 0 (fun _ => 0) call sp_X9_add mk_X9_add 100000 (0, sl_lo 2 as, []) m) :=
  sl_mk (NT := 24) (NC := 0) (LC := []) hst hM hMo (fun h => absurd rfl h) (plainFor_of_name (by decide +kernel)) (fun _ => by decide +kernel) (fun p h => by unfold tb_X9_add; rw [Nat.ble_eq.mpr h]; rfl) ok_X9_add os_X9_add
    (fun _ h => absurd h List.not_mem_nil)
    (fun _ h => absurd h List.not_mem_nil)
    (Or.inl rfl) (Or.inl rfl)
    (fun _ h => absurd h List.not_mem_nil)
    (Or.inl rfl)
    (fun _ h => absurd h List.not_mem_nil)
    (fun _ h => absurd h List.not_mem_nil)
    hfl_X9 hpf_X9 hnw_X9 (fun p _ => rfl) (by decide +kernel)
    (fun _ h => absurd h List.not_mem_nil)
theorem ok_X5_hold : sl_okT cX5_hold ck_X5 tb_X5_hold 88 = true := by decide +kernel
theorem os_X5_hold : sl_sT 6 0 0 0 [] [] [] [] [] tb_X5_hold 88 = true := by decide +kernel
theorem gc_X5_hold (hst : l.stackTraces = false) (hM : sl_Mem ad base NA ln rd VR cn wr al MI sn) (hMo : sl_Mo wr al cn sn) (h_X6_at : sl_CC ad base NA Hb D cA ln rd VR MI cn sn l 0 yX6_at cX6_at 2 (sl_rt 1 "") 0 0 1 0 (call 36)) (h_X6_put : sl_CC ad base NA Hb D cA ln rd VR MI cn sn l 0 yX6_put cX6_put 3 (sl_rt 0 "") 0 0 0 0 (call 38)) (h_X9_add : sl_CC ad base NA Hb D cA ln rd VR MI cn sn l 0 yX9_add cX9_add 2 (sl_rt 0 "") 0 0 0 0 (call 59)) :
    sl_CC ad base NA Hb D cA ln rd VR MI cn sn l 0 yX5_hold cX5_hold 6 (sl_rt 0 "") 1 22 0 0 (fun as m => sl_B tb_X5_hold fl_X5 pf_X5 cl_X5_hold nw_X5 rd wr al ln 0 (fun _ => 0) call sp_X5_hold mk_X5_hold 100000 (0, sl_lo 6 as, []) m) :=
  sl_mk (NT := 88) (NC := 92) (LC := [(76, (59, 2, 0, 0, 0, 10)), (88, (36, 2, 1, 0, 0, 7)), (91, (38, 3, 0, 0, 0, 7))]) hst hM hMo (fun h => absurd rfl h) (plainFor_of_name (by decide +kernel)) (fun _ => by decide +kernel) (fun p h => by unfold tb_X5_hold; rw [Nat.ble_eq.mpr h]; rfl) ok_X5_hold os_X5_hold
    (fun _ h => absurd h List.not_mem_nil)
    (fun _ h => absurd h List.not_mem_nil)
    (Or.inl rfl) (Or.inl rfl)
    (fun _ h => absurd h List.not_mem_nil)
    (Or.inl rfl)
    (fun _ h => absurd h List.not_mem_nil)
    (fun _ h => absurd h List.not_mem_nil)
    hfl_X5 hpf_X5 hnw_X5 (fun p h => by unfold cl_X5_hold; rw [Nat.ble_eq.mpr h]; rfl) (by decide +kernel)
    (fun q h => by
    simp only [List.mem_cons, List.not_mem_nil, or_false] at h
    rcases h with rfl | rfl | rfl
    · exact ⟨yX9_add, cX9_add, 2, (sl_rt 0 ""), 0, 0, cy0_X9_add (sl_gw_at 678 (by decide +kernel) (by decide +kernel)) ⟨by decide, by decide⟩, fun h => absurd rfl h, h_X9_add⟩
    · exact ⟨yX6_at, cX6_at, 2, (sl_rt 1 ""), 0, 0, cy0_X6_at (sl_gw_at 679 (by decide +kernel) (by decide +kernel)) ⟨by decide, by decide⟩, fun h => absurd rfl h, h_X6_at⟩
    · exact ⟨yX6_put, cX6_put, 3, (sl_rt 0 ""), 0, 0, cy0_X6_put (sl_gw_at 680 (by decide +kernel) (by decide +kernel)) ⟨by decide, by decide⟩, fun h => absurd rfl h, h_X6_put⟩
    )
theorem ok_X6_hasRoom : sl_okT cX6_hasRoom ck_X6 tb_X6_hasRoom 20 = true := by decide +kernel
theorem os_X6_hasRoom : sl_sT 2 1 0 2 [] [] [] [] [] tb_X6_hasRoom 20 = true := by decide +kernel
theorem gc_X6_hasRoom (hst : l.stackTraces = false) (hM : sl_Mem ad base NA ln rd VR cn wr al MI sn) (hMo : sl_Mo wr al cn sn)  :
    sl_CC ad base NA Hb D cA ln rd VR MI cn sn l 0 yX6_hasRoom cX6_hasRoom 2 (sl_rt 2 "") 0 0 1 0 (fun as m => sl_B tb_X6_hasRoom fl_X6 pf_X6 cl_X6_hasRoom nw_X6 rd wr al ln 0 (fun _ => 0) call sp_X6_hasRoom mk_X6_hasRoom 100000 (0, sl_lo 2 as, []) m) :=
  sl_mk (NT := 20) (NC := 0) (LC := []) hst hM hMo (fun h => absurd rfl h) (plainFor_of_name (by decide +kernel)) (fun _ => by decide +kernel) (fun p h => by unfold tb_X6_hasRoom; rw [Nat.ble_eq.mpr h]; rfl) ok_X6_hasRoom os_X6_hasRoom
    (fun _ h => absurd h List.not_mem_nil)
    (fun _ h => absurd h List.not_mem_nil)
    (Or.inl rfl) (Or.inl rfl)
    (fun _ h => absurd h List.not_mem_nil)
    (Or.inl rfl)
    (fun _ h => absurd h List.not_mem_nil)
    (fun _ h => absurd h List.not_mem_nil)
    hfl_X6 hpf_X6 hnw_X6 (fun p _ => rfl) (by decide +kernel)
    (fun _ h => absurd h List.not_mem_nil)
theorem ok_X6_addPart : sl_okT cX6_addPart ck_X6 tb_X6_addPart 29 = true := by decide +kernel
theorem os_X6_addPart : sl_sT 5 0 0 0 [] [] [] [] [] tb_X6_addPart 29 = true := by decide +kernel
theorem gc_X6_addPart (hst : l.stackTraces = false) (hM : sl_Mem ad base NA ln rd VR cn wr al MI sn) (hMo : sl_Mo wr al cn sn) (h_X6_at : sl_CC ad base NA Hb D cA ln rd VR MI cn sn l 0 yX6_at cX6_at 2 (sl_rt 1 "") 0 0 1 0 (call 36)) (h_X6_add : sl_CC ad base NA Hb D cA ln rd VR MI cn sn l 0 yX6_add cX6_add 2 (sl_rt 2 "") 0 0 1 0 (call 37)) :
    sl_CC ad base NA Hb D cA ln rd VR MI cn sn l 0 yX6_addPart cX6_addPart 5 (sl_rt 0 "") 1 21 0 0 (fun as m => sl_B tb_X6_addPart fl_X6 pf_X6 cl_X6_addPart nw_X6 rd wr al ln 0 (fun _ => 0) call sp_X6_addPart mk_X6_addPart 100000 (0, sl_lo 5 as, []) m) :=
  sl_mk (NT := 29) (NC := 33) (LC := [(28, (36, 2, 1, 0, 0, 7)), (32, (37, 2, 1, 0, 0, 7))]) hst hM hMo (fun h => absurd rfl h) (plainFor_of_name (by decide +kernel)) (fun _ => by decide +kernel) (fun p h => by unfold tb_X6_addPart; rw [Nat.ble_eq.mpr h]; rfl) ok_X6_addPart os_X6_addPart
    (fun _ h => absurd h List.not_mem_nil)
    (fun _ h => absurd h List.not_mem_nil)
    (Or.inl rfl) (Or.inl rfl)
    (fun _ h => absurd h List.not_mem_nil)
    (Or.inl rfl)
    (fun _ h => absurd h List.not_mem_nil)
    (fun _ h => absurd h List.not_mem_nil)
    hfl_X6 hpf_X6 hnw_X6 (fun p h => by unfold cl_X6_addPart; rw [Nat.ble_eq.mpr h]; rfl) (by decide +kernel)
    (fun q h => by
    simp only [List.mem_cons, List.not_mem_nil, or_false] at h
    rcases h with rfl | rfl
    · exact ⟨yX6_at, cX6_at, 2, (sl_rt 1 ""), 0, 0, cy0_X6_at (sl_gw_at 446 (by decide +kernel) (by decide +kernel)) ⟨by decide, by decide⟩, fun h => absurd rfl h, h_X6_at⟩
    · exact ⟨yX6_add, cX6_add, 2, (sl_rt 2 ""), 0, 0, cy0_X6_add (sl_gw_at 450 (by decide +kernel) (by decide +kernel)) ⟨by decide, by decide⟩, fun h => absurd rfl h, h_X6_add⟩
    )
theorem ok_X5_takeHeld : sl_okT cX5_takeHeld ck_X5 tb_X5_takeHeld 89 = true := by decide +kernel
theorem os_X5_takeHeld : sl_sT 3 0 0 0 [] [] [] [] [] tb_X5_takeHeld 89 = true := by decide +kernel
theorem gc_X5_takeHeld (hst : l.stackTraces = false) (hM : sl_Mem ad base NA ln rd VR cn wr al MI sn) (hMo : sl_Mo wr al cn sn) (h_X6_hasRoom : sl_CC ad base NA Hb D cA ln rd VR MI cn sn l 0 yX6_hasRoom cX6_hasRoom 2 (sl_rt 2 "") 0 0 1 0 (call 35)) (h_X6_addPart : sl_CC ad base NA Hb D cA ln rd VR MI cn sn l 0 yX6_addPart cX6_addPart 5 (sl_rt 0 "") 1 21 0 0 (call 39)) :
    sl_CC ad base NA Hb D cA ln rd VR MI cn sn l 0 yX5_takeHeld cX5_takeHeld 3 (sl_rt 0 "") 2 45 0 0 (fun as m => sl_B tb_X5_takeHeld fl_X5 pf_X5 cl_X5_takeHeld nw_X5 rd wr al ln 0 (fun _ => 0) call sp_X5_takeHeld mk_X5_takeHeld 100000 (0, sl_lo 3 as, []) m) :=
  sl_mk (NT := 89) (NC := 82) (LC := [(72, (35, 2, 1, 0, 0, 7)), (81, (39, 4, 0, 0, 0, 7))]) hst hM hMo (fun h => absurd rfl h) (plainFor_of_name (by decide +kernel)) (fun _ => by decide +kernel) (fun p h => by unfold tb_X5_takeHeld; rw [Nat.ble_eq.mpr h]; rfl) ok_X5_takeHeld os_X5_takeHeld
    (fun _ h => absurd h List.not_mem_nil)
    (fun _ h => absurd h List.not_mem_nil)
    (Or.inl rfl) (Or.inl rfl)
    (fun _ h => absurd h List.not_mem_nil)
    (Or.inl rfl)
    (fun _ h => absurd h List.not_mem_nil)
    (fun _ h => absurd h List.not_mem_nil)
    hfl_X5 hpf_X5 hnw_X5 (fun p h => by unfold cl_X5_takeHeld; rw [Nat.ble_eq.mpr h]; rfl) (by decide +kernel)
    (fun q h => by
    simp only [List.mem_cons, List.not_mem_nil, or_false] at h
    rcases h with rfl | rfl
    · exact ⟨yX6_hasRoom, cX6_hasRoom, 2, (sl_rt 2 ""), 0, 0, cy0_X6_hasRoom (sl_gw_at 685 (by decide +kernel) (by decide +kernel)) ⟨by decide, by decide⟩, fun h => absurd rfl h, h_X6_hasRoom⟩
    · exact ⟨yX6_addPart, cX6_addPart, 5, (sl_rt 0 ""), 1, 21, cy0_X6_addPart (sl_gw_at 686 (by decide +kernel) (by decide +kernel)) ⟨by decide, by decide⟩, fun h => absurd rfl h, h_X6_addPart⟩
    )
theorem ok_J9_floorMod_7cf53 : sl_okT cJ9_floorMod_7cf53 ck_J9 tb_J9_floorMod_7cf53 20 = true := by decide +kernel
theorem os_J9_floorMod_7cf53 : sl_sT 3 1 0 1 [] [] [] [] [] tb_J9_floorMod_7cf53 20 = true := by decide +kernel
theorem gc_J9_floorMod_7cf53 (hst : l.stackTraces = false) (hM : sl_Mem ad base NA ln rd VR cn wr al MI sn) (hMo : sl_Mo wr al cn sn)  :
    sl_CC ad base NA Hb D cA ln rd VR MI cn sn l 0 yJ9_floorMod_7cf53 cJ9_floorMod_7cf53 3 (sl_rt 1 "") 0 0 1 0 (fun as m => sl_B tb_J9_floorMod_7cf53 fl_J9 pf_J9 cl_J9_floorMod_7cf53 nw_J9 rd wr al ln 0 (fun _ => 0) call sp_J9_floorMod_7cf53 mk_J9_floorMod_7cf53 100000 (0, sl_lo 3 as, []) m) :=
  sl_mk (NT := 20) (NC := 0) (LC := []) hst hM hMo (fun h => absurd rfl h) (by decide +kernel) (fun h => absurd rfl h) (fun p h => by unfold tb_J9_floorMod_7cf53; rw [Nat.ble_eq.mpr h]; rfl) ok_J9_floorMod_7cf53 os_J9_floorMod_7cf53
    (fun _ h => absurd h List.not_mem_nil)
    (fun _ h => absurd h List.not_mem_nil)
    (Or.inl rfl) (Or.inl rfl)
    (fun _ h => absurd h List.not_mem_nil)
    (Or.inl rfl)
    (fun _ h => absurd h List.not_mem_nil)
    (fun _ h => absurd h List.not_mem_nil)
    hfl_J9 hpf_J9 hnw_J9 (fun p _ => rfl) (by decide +kernel)
    (fun _ h => absurd h List.not_mem_nil)
theorem ok_X8_inRing : sl_okT cX8_inRing ck_X8 tb_X8_inRing 20 = true := by decide +kernel
theorem os_X8_inRing : sl_sT 2 1 0 1 [] [] [] [] [] tb_X8_inRing 20 = true := by decide +kernel
theorem gc_X8_inRing (hst : l.stackTraces = false) (hM : sl_Mem ad base NA ln rd VR cn wr al MI sn) (hMo : sl_Mo wr al cn sn) (h_J9_floorMod_7cf53 : sl_CC ad base NA Hb D cA ln rd VR MI cn sn l 0 yJ9_floorMod_7cf53 cJ9_floorMod_7cf53 3 (sl_rt 1 "") 0 0 1 0 (call 134)) :
    sl_CC ad base NA Hb D cA ln rd VR MI cn sn l 0 yX8_inRing cX8_inRing 2 (sl_rt 1 "") 1 22 1 0 (fun as m => sl_B tb_X8_inRing fl_X8 pf_X8 cl_X8_inRing nw_X8 rd wr al ln 0 (fun _ => 0) call sp_X8_inRing mk_X8_inRing 100000 (0, sl_lo 2 as, []) m) :=
  sl_mk (NT := 20) (NC := 32) (LC := [(31, (134, 2, 1, 0, 0, 0))]) hst hM hMo (fun h => absurd rfl h) (plainFor_of_name (by decide +kernel)) (fun _ => by decide +kernel) (fun p h => by unfold tb_X8_inRing; rw [Nat.ble_eq.mpr h]; rfl) ok_X8_inRing os_X8_inRing
    (fun _ h => absurd h List.not_mem_nil)
    (fun _ h => absurd h List.not_mem_nil)
    (Or.inl rfl) (Or.inl rfl)
    (fun _ h => absurd h List.not_mem_nil)
    (Or.inl rfl)
    (fun _ h => absurd h List.not_mem_nil)
    (fun _ h => absurd h List.not_mem_nil)
    hfl_X8 hpf_X8 hnw_X8 (fun p h => by unfold cl_X8_inRing; rw [Nat.ble_eq.mpr h]; rfl) (by decide +kernel)
    (fun q h => by
    simp only [List.mem_cons, List.not_mem_nil, or_false] at h
    rcases h with rfl
    · exact ⟨yJ9_floorMod_7cf53, cJ9_floorMod_7cf53, 3, (sl_rt 1 ""), 0, 0, cy1_J9_floorMod_7cf53 (sl_gw_at 483 (by decide +kernel) (by decide +kernel)) ⟨by decide, by decide⟩, fun h => absurd rfl h, h_J9_floorMod_7cf53⟩
    )
theorem ok_X5_hearData : sl_okT cX5_hearData ck_X5 tb_X5_hearData 100 = true := by decide +kernel
theorem os_X5_hearData : sl_sT 6 1 0 2 [] [] [] [] [] tb_X5_hearData 100 = true := by decide +kernel
theorem gc_X5_hearData (hst : l.stackTraces = false) (hM : sl_Mem ad base NA ln rd VR cn wr al MI sn) (hMo : sl_Mo wr al cn sn) (h_X5_hold : sl_CC ad base NA Hb D cA ln rd VR MI cn sn l 0 yX5_hold cX5_hold 6 (sl_rt 0 "") 1 22 0 0 (call 27)) (h_X5_takeHeld : sl_CC ad base NA Hb D cA ln rd VR MI cn sn l 0 yX5_takeHeld cX5_takeHeld 3 (sl_rt 0 "") 2 45 0 0 (call 28)) (h_X6_hasRoom : sl_CC ad base NA Hb D cA ln rd VR MI cn sn l 0 yX6_hasRoom cX6_hasRoom 2 (sl_rt 2 "") 0 0 1 0 (call 35)) (h_X6_addPart : sl_CC ad base NA Hb D cA ln rd VR MI cn sn l 0 yX6_addPart cX6_addPart 5 (sl_rt 0 "") 1 21 0 0 (call 39)) (h_X8_eachByItself : sl_CC ad base NA Hb D cA ln rd VR MI cn sn l 0 yX8_eachByItself cX8_eachByItself 1 (sl_rt 2 "") 0 0 1 0 (call 54)) (h_X8_inRing : sl_CC ad base NA Hb D cA ln rd VR MI cn sn l 0 yX8_inRing cX8_inRing 2 (sl_rt 1 "") 1 22 1 0 (call 55)) (h_X9_add : sl_CC ad base NA Hb D cA ln rd VR MI cn sn l 0 yX9_add cX9_add 2 (sl_rt 0 "") 0 0 0 0 (call 59)) :
    sl_CC ad base NA Hb D cA ln rd VR MI cn sn l 0 yX5_hearData cX5_hearData 6 (sl_rt 2 "") 3 67 1 0 (fun as m => sl_B tb_X5_hearData fl_X5 pf_X5 cl_X5_hearData nw_X5 rd wr al ln 0 (fun _ => 0) call sp_X5_hearData mk_X5_hearData 100000 (0, sl_lo 6 as, []) m) :=
  sl_mk (NT := 100) (NC := 82) (LC := [(55, (55, 2, 1, 0, 0, 9)), (61, (54, 1, 1, 0, 0, 9)), (65, (27, 4, 0, 0, 0, 6)), (69, (28, 1, 0, 0, 0, 6)), (72, (35, 2, 1, 0, 0, 7)), (76, (59, 2, 0, 0, 0, 10)), (81, (39, 4, 0, 0, 0, 7))]) hst hM hMo (fun h => absurd rfl h) (plainFor_of_name (by decide +kernel)) (fun _ => by decide +kernel) (fun p h => by unfold tb_X5_hearData; rw [Nat.ble_eq.mpr h]; rfl) ok_X5_hearData os_X5_hearData
    (fun _ h => absurd h List.not_mem_nil)
    (fun _ h => absurd h List.not_mem_nil)
    (Or.inl rfl) (Or.inl rfl)
    (fun _ h => absurd h List.not_mem_nil)
    (Or.inl rfl)
    (fun _ h => absurd h List.not_mem_nil)
    (fun _ h => absurd h List.not_mem_nil)
    hfl_X5 hpf_X5 hnw_X5 (fun p h => by unfold cl_X5_hearData; rw [Nat.ble_eq.mpr h]; rfl) (by decide +kernel)
    (fun q h => by
    simp only [List.mem_cons, List.not_mem_nil, or_false] at h
    rcases h with rfl | rfl | rfl | rfl | rfl | rfl | rfl
    · exact ⟨yX8_inRing, cX8_inRing, 2, (sl_rt 1 ""), 1, 22, cy0_X8_inRing (sl_gw_at 672 (by decide +kernel) (by decide +kernel)) ⟨by decide, by decide⟩, fun h => absurd rfl h, h_X8_inRing⟩
    · exact ⟨yX8_eachByItself, cX8_eachByItself, 1, (sl_rt 2 ""), 0, 0, cy0_X8_eachByItself (sl_gw_at 673 (by decide +kernel) (by decide +kernel)) ⟨by decide, by decide⟩, fun h => absurd rfl h, h_X8_eachByItself⟩
    · exact ⟨yX5_hold, cX5_hold, 6, (sl_rt 0 ""), 1, 22, cy0_X5_hold (sl_gw_at 674 (by decide +kernel) (by decide +kernel)) ⟨by decide, by decide⟩, fun h => absurd rfl h, h_X5_hold⟩
    · exact ⟨yX5_takeHeld, cX5_takeHeld, 3, (sl_rt 0 ""), 2, 45, cy0_X5_takeHeld (sl_gw_at 681 (by decide +kernel) (by decide +kernel)) ⟨by decide, by decide⟩, fun h => absurd rfl h, h_X5_takeHeld⟩
    · exact ⟨yX6_hasRoom, cX6_hasRoom, 2, (sl_rt 2 ""), 0, 0, cy0_X6_hasRoom (sl_gw_at 685 (by decide +kernel) (by decide +kernel)) ⟨by decide, by decide⟩, fun h => absurd rfl h, h_X6_hasRoom⟩
    · exact ⟨yX9_add, cX9_add, 2, (sl_rt 0 ""), 0, 0, cy0_X9_add (sl_gw_at 678 (by decide +kernel) (by decide +kernel)) ⟨by decide, by decide⟩, fun h => absurd rfl h, h_X9_add⟩
    · exact ⟨yX6_addPart, cX6_addPart, 5, (sl_rt 0 ""), 1, 21, cy0_X6_addPart (sl_gw_at 686 (by decide +kernel) (by decide +kernel)) ⟨by decide, by decide⟩, fun h => absurd rfl h, h_X6_addPart⟩
    )
theorem ok_X4_startBody : sl_okT cX4_startBody ck_X4 tb_X4_startBody 26 = true := by decide +kernel
theorem os_X4_startBody : sl_sT 3 2 6 3 [] [] [] [] [] tb_X4_startBody 26 = true := by decide +kernel
theorem gc_X4_startBody (hst : l.stackTraces = false) (hM : sl_Mem ad base NA ln rd VR cn wr al MI sn) (hMo : sl_Mo wr al cn sn) (h_X6_clear : sl_CC ad base NA Hb D cA ln rd VR MI cn sn l 0 yX6_clear cX6_clear 1 (sl_rt 0 "") 0 0 0 0 (call 33)) (h_X6_add : sl_CC ad base NA Hb D cA ln rd VR MI cn sn l 0 yX6_add cX6_add 2 (sl_rt 2 "") 0 0 1 0 (call 37)) :
    sl_CC ad base NA Hb D cA ln rd VR MI cn sn l 0 yX4_startBody cX4_startBody 3 (sl_rt 3 "SerialLink$Row") 1 21 2 6 (fun as m => sl_B tb_X4_startBody fl_X4 pf_X4 cl_X4_startBody nw_X4 rd wr al ln 0 (fun _ => 0) call sp_X4_startBody mk_X4_startBody 100000 (0, sl_lo 3 as, []) m) :=
  sl_mk (NT := 26) (NC := 52) (LC := [(48, (33, 1, 0, 0, 0, 7)), (51, (37, 2, 1, 0, 0, 7))]) hst hM hMo (fun h => absurd rfl h) (plainFor_of_name (by decide +kernel)) (fun _ => by decide +kernel) (fun p h => by unfold tb_X4_startBody; rw [Nat.ble_eq.mpr h]; rfl) ok_X4_startBody os_X4_startBody
    (fun _ h => absurd h List.not_mem_nil)
    (fun _ h => absurd h List.not_mem_nil)
    (Or.inl rfl) (Or.inl rfl)
    (fun _ h => absurd h List.not_mem_nil)
    (Or.inl rfl)
    (fun _ h => absurd h List.not_mem_nil)
    (fun _ h => absurd h List.not_mem_nil)
    hfl_X4 hpf_X4 hnw_X4 (fun p h => by unfold cl_X4_startBody; rw [Nat.ble_eq.mpr h]; rfl) (by decide +kernel)
    (fun q h => by
    simp only [List.mem_cons, List.not_mem_nil, or_false] at h
    rcases h with rfl | rfl
    · exact ⟨yX6_clear, cX6_clear, 1, (sl_rt 0 ""), 0, 0, cy0_X6_clear (sl_gw_at 490 (by decide +kernel) (by decide +kernel)) ⟨by decide, by decide⟩, fun h => absurd rfl h, h_X6_clear⟩
    · exact ⟨yX6_add, cX6_add, 2, (sl_rt 2 ""), 0, 0, cy0_X6_add (sl_gw_at 491 (by decide +kernel) (by decide +kernel)) ⟨by decide, by decide⟩, fun h => absurd rfl h, h_X6_add⟩
    )
theorem ok_X4_slot : sl_okT cX4_slot ck_X4 tb_X4_slot 36 = true := by decide +kernel
theorem os_X4_slot : sl_sT 3 3 2 3 [] [] [] [] [] tb_X4_slot 36 = true := by decide +kernel
theorem gc_X4_slot (hst : l.stackTraces = false) (hM : sl_Mem ad base NA ln rd VR cn wr al MI sn) (hMo : sl_Mo wr al cn sn) (h_J9_floorMod_7cf53 : sl_CC ad base NA Hb D cA ln rd VR MI cn sn l 0 yJ9_floorMod_7cf53 cJ9_floorMod_7cf53 3 (sl_rt 1 "") 0 0 1 0 (call 134)) :
    sl_CC ad base NA Hb D cA ln rd VR MI cn sn l 0 yX4_slot cX4_slot 3 (sl_rt 3 "SerialLink$Frame") 1 22 3 2 (fun as m => sl_B tb_X4_slot fl_X4 pf_X4 cl_X4_slot nw_X4 rd wr al ln 0 (fun _ => 0) call sp_X4_slot mk_X4_slot 100000 (0, sl_lo 3 as, []) m) :=
  sl_mk (NT := 36) (NC := 43) (LC := [(42, (134, 2, 1, 0, 0, 0))]) hst hM hMo (fun h => absurd rfl h) (plainFor_of_name (by decide +kernel)) (fun _ => by decide +kernel) (fun p h => by unfold tb_X4_slot; rw [Nat.ble_eq.mpr h]; rfl) ok_X4_slot os_X4_slot
    (fun _ h => absurd h List.not_mem_nil)
    (fun _ h => absurd h List.not_mem_nil)
    (Or.inl rfl) (Or.inl rfl)
    (fun _ h => absurd h List.not_mem_nil)
    (Or.inl rfl)
    (fun _ h => absurd h List.not_mem_nil)
    (fun _ h => absurd h List.not_mem_nil)
    hfl_X4 hpf_X4 hnw_X4 (fun p h => by unfold cl_X4_slot; rw [Nat.ble_eq.mpr h]; rfl) (by decide +kernel)
    (fun q h => by
    simp only [List.mem_cons, List.not_mem_nil, or_false] at h
    rcases h with rfl
    · exact ⟨yJ9_floorMod_7cf53, cJ9_floorMod_7cf53, 3, (sl_rt 1 ""), 0, 0, cy1_J9_floorMod_7cf53 (sl_gw_at 502 (by decide +kernel) (by decide +kernel)) ⟨by decide, by decide⟩, fun h => absurd rfl h, h_J9_floorMod_7cf53⟩
    )
theorem ok_X4_lay : sl_okT cX4_lay ck_X4 tb_X4_lay 176 = true := by decide +kernel
theorem os_X4_lay : sl_sT 6 0 0 0 [] [] [] [] [] tb_X4_lay 176 = true := by decide +kernel
theorem gc_X4_lay (hst : l.stackTraces = false) (hM : sl_Mem ad base NA ln rd VR cn wr al MI sn) (hMo : sl_Mo wr al cn sn) (h_X0_checkOf : sl_CC ad base NA Hb D cA ln rd VR MI cn sn l 0 yX0_checkOf cX0_checkOf 5 (sl_rt 1 "") 1 21 1 0 (call 0)) (h_X0_pack : sl_CC ad base NA Hb D cA ln rd VR MI cn sn l 0 yX0_pack cX0_pack 6 (sl_rt 0 "") 1 22 0 0 (call 1)) (h_X4_slot : sl_CC ad base NA Hb D cA ln rd VR MI cn sn l 0 yX4_slot cX4_slot 3 (sl_rt 3 "SerialLink$Frame") 1 22 3 2 (call 20)) (h_X6_at : sl_CC ad base NA Hb D cA ln rd VR MI cn sn l 0 yX6_at cX6_at 2 (sl_rt 1 "") 0 0 1 0 (call 36)) (h_X6_add : sl_CC ad base NA Hb D cA ln rd VR MI cn sn l 0 yX6_add cX6_add 2 (sl_rt 2 "") 0 0 1 0 (call 37)) (h_X9_add : sl_CC ad base NA Hb D cA ln rd VR MI cn sn l 0 yX9_add cX9_add 2 (sl_rt 0 "") 0 0 0 0 (call 59)) :
    sl_CC ad base NA Hb D cA ln rd VR MI cn sn l 0 yX4_lay cX4_lay 6 (sl_rt 0 "") 2 47 0 0 (fun as m => sl_B tb_X4_lay fl_X4 pf_X4 cl_X4_lay nw_X4 rd wr al ln 0 (fun _ => 0) call sp_X4_lay mk_X4_lay 100000 (0, sl_lo 6 as, []) m) :=
  sl_mk (NT := 176) (NC := 89) (LC := [(38, (20, 2, 3, 2, 0, 5)), (51, (37, 2, 1, 0, 0, 7)), (55, (59, 2, 0, 0, 0, 10)), (59, (36, 2, 1, 0, 0, 7)), (79, (0, 2, 1, 0, 0, 0)), (88, (1, 2, 0, 0, 0, 0))]) hst hM hMo (fun h => absurd rfl h) (plainFor_of_name (by decide +kernel)) (fun _ => by decide +kernel) (fun p h => by unfold tb_X4_lay; rw [Nat.ble_eq.mpr h]; rfl) ok_X4_lay os_X4_lay
    (fun _ h => absurd h List.not_mem_nil)
    (fun _ h => absurd h List.not_mem_nil)
    (Or.inl rfl) (Or.inl rfl)
    (fun _ h => absurd h List.not_mem_nil)
    (Or.inl rfl)
    (fun _ h => absurd h List.not_mem_nil)
    (fun _ h => absurd h List.not_mem_nil)
    hfl_X4 hpf_X4 hnw_X4 (fun p h => by unfold cl_X4_lay; rw [Nat.ble_eq.mpr h]; rfl) (by decide +kernel)
    (fun q h => by
    simp only [List.mem_cons, List.not_mem_nil, or_false] at h
    rcases h with rfl | rfl | rfl | rfl | rfl | rfl
    · exact ⟨yX4_slot, cX4_slot, 3, (sl_rt 3 "SerialLink$Frame"), 1, 22, cy0_X4_slot (sl_gw_at 498 (by decide +kernel) (by decide +kernel)) ⟨by decide, by decide⟩, fun h => absurd rfl h, h_X4_slot⟩
    · exact ⟨yX6_add, cX6_add, 2, (sl_rt 2 ""), 0, 0, cy0_X6_add (sl_gw_at 491 (by decide +kernel) (by decide +kernel)) ⟨by decide, by decide⟩, fun h => absurd rfl h, h_X6_add⟩
    · exact ⟨yX9_add, cX9_add, 2, (sl_rt 0 ""), 0, 0, cy0_X9_add (sl_gw_at 497 (by decide +kernel) (by decide +kernel)) ⟨by decide, by decide⟩, fun h => absurd rfl h, h_X9_add⟩
    · exact ⟨yX6_at, cX6_at, 2, (sl_rt 1 ""), 0, 0, cy0_X6_at (sl_gw_at 503 (by decide +kernel) (by decide +kernel)) ⟨by decide, by decide⟩, fun h => absurd rfl h, h_X6_at⟩
    · exact ⟨yX0_checkOf, cX0_checkOf, 5, (sl_rt 1 ""), 1, 21, cy1_X0_checkOf (sl_gw_at 504 (by decide +kernel) (by decide +kernel)) ⟨by decide, by decide⟩, fun h => absurd rfl h, h_X0_checkOf⟩
    · exact ⟨yX0_pack, cX0_pack, 6, (sl_rt 0 ""), 1, 22, cy1_X0_pack (sl_gw_at 509 (by decide +kernel) (by decide +kernel)) ⟨by decide, by decide⟩, fun h => absurd rfl h, h_X0_pack⟩
    )
theorem ok_X5_heldBits : sl_okT cX5_heldBits ck_X5 tb_X5_heldBits 49 = true := by decide +kernel
theorem os_X5_heldBits : sl_sT 5 1 0 1 [] [] [] [] [] tb_X5_heldBits 49 = true := by decide +kernel
theorem gc_X5_heldBits (hst : l.stackTraces = false) (hM : sl_Mem ad base NA ln rd VR cn wr al MI sn) (hMo : sl_Mo wr al cn sn)  :
    sl_CC ad base NA Hb D cA ln rd VR MI cn sn l 0 yX5_heldBits cX5_heldBits 5 (sl_rt 1 "") 0 0 1 0 (fun as m => sl_B tb_X5_heldBits fl_X5 pf_X5 cl_X5_heldBits nw_X5 rd wr al ln 0 (fun _ => 0) call sp_X5_heldBits mk_X5_heldBits 100000 (0, sl_lo 5 as, []) m) :=
  sl_mk (NT := 49) (NC := 0) (LC := []) hst hM hMo (fun h => absurd rfl h) (plainFor_of_name (by decide +kernel)) (fun _ => by decide +kernel) (fun p h => by unfold tb_X5_heldBits; rw [Nat.ble_eq.mpr h]; rfl) ok_X5_heldBits os_X5_heldBits
    (fun _ h => absurd h List.not_mem_nil)
    (fun _ h => absurd h List.not_mem_nil)
    (Or.inl rfl) (Or.inl rfl)
    (fun _ h => absurd h List.not_mem_nil)
    (Or.inl rfl)
    (fun _ h => absurd h List.not_mem_nil)
    (fun _ h => absurd h List.not_mem_nil)
    hfl_X5 hpf_X5 hnw_X5 (fun p _ => rfl) (by decide +kernel)
    (fun _ h => absurd h List.not_mem_nil)
theorem ok_X5_layKnown : sl_okT cX5_layKnown ck_X5 tb_X5_layKnown 63 = true := by decide +kernel
theorem os_X5_layKnown : sl_sT 4 0 0 0 [] [] [] [] [] tb_X5_layKnown 63 = true := by decide +kernel
theorem gc_X5_layKnown (hst : l.stackTraces = false) (hM : sl_Mem ad base NA ln rd VR cn wr al MI sn) (hMo : sl_Mo wr al cn sn) (h_X4_startBody : sl_CC ad base NA Hb D cA ln rd VR MI cn sn l 0 yX4_startBody cX4_startBody 3 (sl_rt 3 "SerialLink$Row") 1 21 2 6 (call 22)) (h_X4_lay : sl_CC ad base NA Hb D cA ln rd VR MI cn sn l 0 yX4_lay cX4_lay 6 (sl_rt 0 "") 2 47 0 0 (call 23)) (h_X5_heldBits : sl_CC ad base NA Hb D cA ln rd VR MI cn sn l 0 yX5_heldBits cX5_heldBits 5 (sl_rt 1 "") 0 0 1 0 (call 30)) (h_X6_add : sl_CC ad base NA Hb D cA ln rd VR MI cn sn l 0 yX6_add cX6_add 2 (sl_rt 2 "") 0 0 1 0 (call 37)) (h_X8_inRing : sl_CC ad base NA Hb D cA ln rd VR MI cn sn l 0 yX8_inRing cX8_inRing 2 (sl_rt 1 "") 1 22 1 0 (call 55)) (h_X8_knownLoad : sl_CC ad base NA Hb D cA ln rd VR MI cn sn l 0 yX8_knownLoad cX8_knownLoad 1 (sl_rt 1 "") 1 20 1 0 (call 56)) :
    sl_CC ad base NA Hb D cA ln rd VR MI cn sn l 0 yX5_layKnown cX5_layKnown 4 (sl_rt 0 "") 3 72 0 0 (fun as m => sl_B tb_X5_layKnown fl_X5 pf_X5 cl_X5_layKnown nw_X5 rd wr al ln 0 (fun _ => 0) call sp_X5_layKnown mk_X5_layKnown 100000 (0, sl_lo 4 as, []) m) :=
  sl_mk (NT := 63) (NC := 111) (LC := [(55, (55, 2, 1, 0, 0, 9)), (95, (22, 3, 2, 6, 0, 5)), (101, (56, 1, 1, 0, 0, 9)), (105, (30, 2, 1, 0, 0, 6)), (108, (37, 2, 1, 0, 0, 7)), (110, (23, 2, 0, 0, 0, 5))]) hst hM hMo (fun h => absurd rfl h) (plainFor_of_name (by decide +kernel)) (fun _ => by decide +kernel) (fun p h => by unfold tb_X5_layKnown; rw [Nat.ble_eq.mpr h]; rfl) ok_X5_layKnown os_X5_layKnown
    (fun _ h => absurd h List.not_mem_nil)
    (fun _ h => absurd h List.not_mem_nil)
    (Or.inl rfl) (Or.inl rfl)
    (fun _ h => absurd h List.not_mem_nil)
    (Or.inl rfl)
    (fun _ h => absurd h List.not_mem_nil)
    (fun _ h => absurd h List.not_mem_nil)
    hfl_X5 hpf_X5 hnw_X5 (fun p h => by unfold cl_X5_layKnown; rw [Nat.ble_eq.mpr h]; rfl) (by decide +kernel)
    (fun q h => by
    simp only [List.mem_cons, List.not_mem_nil, or_false] at h
    rcases h with rfl | rfl | rfl | rfl | rfl | rfl
    · exact ⟨yX8_inRing, cX8_inRing, 2, (sl_rt 1 ""), 1, 22, cy0_X8_inRing (sl_gw_at 672 (by decide +kernel) (by decide +kernel)) ⟨by decide, by decide⟩, fun h => absurd rfl h, h_X8_inRing⟩
    · exact ⟨yX4_startBody, cX4_startBody, 3, (sl_rt 3 "SerialLink$Row"), 1, 21, cy0_X4_startBody (sl_gw_at 691 (by decide +kernel) (by decide +kernel)) ⟨by decide, by decide⟩, fun h => absurd rfl h, h_X4_startBody⟩
    · exact ⟨yX8_knownLoad, cX8_knownLoad, 1, (sl_rt 1 ""), 1, 20, cy0_X8_knownLoad (sl_gw_at 692 (by decide +kernel) (by decide +kernel)) ⟨by decide, by decide⟩, fun h => absurd rfl h, h_X8_knownLoad⟩
    · exact ⟨yX5_heldBits, cX5_heldBits, 5, (sl_rt 1 ""), 0, 0, cy0_X5_heldBits (sl_gw_at 693 (by decide +kernel) (by decide +kernel)) ⟨by decide, by decide⟩, fun h => absurd rfl h, h_X5_heldBits⟩
    · exact ⟨yX6_add, cX6_add, 2, (sl_rt 2 ""), 0, 0, cy0_X6_add (sl_gw_at 697 (by decide +kernel) (by decide +kernel)) ⟨by decide, by decide⟩, fun h => absurd rfl h, h_X6_add⟩
    · exact ⟨yX4_lay, cX4_lay, 6, (sl_rt 0 ""), 2, 47, cy0_X4_lay (sl_gw_at 698 (by decide +kernel) (by decide +kernel)) ⟨by decide, by decide⟩, fun h => absurd rfl h, h_X4_lay⟩
    )
theorem ok_X7_keepKnown : sl_okT cX7_keepKnown ck_X7 tb_X7_keepKnown 61 = true := by decide +kernel
theorem os_X7_keepKnown : sl_sT 4 0 0 0 [] [] [] [] [] tb_X7_keepKnown 61 = true := by decide +kernel
theorem gc_X7_keepKnown (hst : l.stackTraces = false) (hM : sl_Mem ad base NA ln rd VR cn wr al MI sn) (hMo : sl_Mo wr al cn sn) (h_X6_at : sl_CC ad base NA Hb D cA ln rd VR MI cn sn l 0 yX6_at cX6_at 2 (sl_rt 1 "") 0 0 1 0 (call 36)) :
    sl_CC ad base NA Hb D cA ln rd VR MI cn sn l 0 yX7_keepKnown cX7_keepKnown 4 (sl_rt 0 "") 1 21 0 0 (fun as m => sl_B tb_X7_keepKnown fl_X7 pf_X7 cl_X7_keepKnown nw_X7 rd wr al ln 0 (fun _ => 0) call sp_X7_keepKnown mk_X7_keepKnown 100000 (0, sl_lo 4 as, []) m) :=
  sl_mk (NT := 61) (NC := 131) (LC := [(130, (36, 2, 1, 0, 0, 7))]) hst hM hMo (fun h => absurd rfl h) (plainFor_of_name (by decide +kernel)) (fun _ => by decide +kernel) (fun p h => by unfold tb_X7_keepKnown; rw [Nat.ble_eq.mpr h]; rfl) ok_X7_keepKnown os_X7_keepKnown
    (fun _ h => absurd h List.not_mem_nil)
    (fun _ h => absurd h List.not_mem_nil)
    (Or.inl rfl) (Or.inl rfl)
    (fun _ h => absurd h List.not_mem_nil)
    (Or.inl rfl)
    (fun _ h => absurd h List.not_mem_nil)
    (fun _ h => absurd h List.not_mem_nil)
    hfl_X7 hpf_X7 hnw_X7 (fun p h => by unfold cl_X7_keepKnown; rw [Nat.ble_eq.mpr h]; rfl) (by decide +kernel)
    (fun q h => by
    simp only [List.mem_cons, List.not_mem_nil, or_false] at h
    rcases h with rfl
    · exact ⟨yX6_at, cX6_at, 2, (sl_rt 1 ""), 0, 0, cy0_X6_at (sl_gw_at 667 (by decide +kernel) (by decide +kernel)) ⟨by decide, by decide⟩, fun h => absurd rfl h, h_X6_at⟩
    )
end SLP3
