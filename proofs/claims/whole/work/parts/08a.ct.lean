theorem sc_X6_at {b base : Nat} {Hb : Heap} {D : va_G} {cA : Nat → ClassId} {l : Launch} (hst : l.stackTraces = false) (hb : b < base) : sl_CC (sl_ad base b) base 331 Hb D cA sl_ln sl_rd sl_VS sl_MS sl_cS sl_sS l 0 yX6_at cX6_at 2 (sl_rt 1 "") 0 0 1 0 F_X6_at :=
  gc_X6_at (call := ca_X6_at) hst (sl_memS hb) sl_moS 
theorem cf_X0_checkOf_X6_at : ca_X0_checkOf 36 = F_X6_at := by
  funext as m
  unfold ca_X0_checkOf
  rw [show Nat.beq 36 36 = true from rfl, cond_true]
theorem sc_X0_checkOf {b base : Nat} {Hb : Heap} {D : va_G} {cA : Nat → ClassId} {l : Launch} (hst : l.stackTraces = false) (hb : b < base) : sl_CC (sl_ad base b) base 331 Hb D cA sl_ln sl_rd sl_VS sl_MS sl_cS sl_sS l 0 yX0_checkOf cX0_checkOf 5 (sl_rt 1 "") 1 21 1 0 F_X0_checkOf :=
  gc_X0_checkOf (call := ca_X0_checkOf) hst (sl_memS hb) sl_moS (by rw [cf_X0_checkOf_X6_at]; exact sc_X6_at hst hb)
theorem sc_X6_clear {b base : Nat} {Hb : Heap} {D : va_G} {cA : Nat → ClassId} {l : Launch} (hst : l.stackTraces = false) (hb : b < base) : sl_CC (sl_ad base b) base 331 Hb D cA sl_ln sl_rd sl_VS sl_MS sl_cS sl_sS l 0 yX6_clear cX6_clear 1 (sl_rt 0 "") 0 0 0 0 F_X6_clear :=
  gc_X6_clear (call := ca_X6_clear) hst (sl_memS hb) sl_moS 
theorem sc_X6_add {b base : Nat} {Hb : Heap} {D : va_G} {cA : Nat → ClassId} {l : Launch} (hst : l.stackTraces = false) (hb : b < base) : sl_CC (sl_ad base b) base 331 Hb D cA sl_ln sl_rd sl_VS sl_MS sl_cS sl_sS l 0 yX6_add cX6_add 2 (sl_rt 2 "") 0 0 1 0 F_X6_add :=
  gc_X6_add (call := ca_X6_add) hst (sl_memS hb) sl_moS 
theorem sc_X6_put {b base : Nat} {Hb : Heap} {D : va_G} {cA : Nat → ClassId} {l : Launch} (hst : l.stackTraces = false) (hb : b < base) : sl_CC (sl_ad base b) base 331 Hb D cA sl_ln sl_rd sl_VS sl_MS sl_cS sl_sS l 0 yX6_put cX6_put 3 (sl_rt 0 "") 0 0 0 0 F_X6_put :=
  gc_X6_put (call := ca_X6_put) hst (sl_memS hb) sl_moS 
theorem cf_X0_pack_X6_clear : ca_X0_pack 33 = F_X6_clear := by
  funext as m
  unfold ca_X0_pack
  rw [show Nat.ble 37 33 = false from rfl, cond_false, show Nat.ble 36 33 = false from rfl, cond_false, show Nat.beq 33 33 = true from rfl, cond_true]
theorem cf_X0_pack_X6_at : ca_X0_pack 36 = F_X6_at := by
  funext as m
  unfold ca_X0_pack
  rw [show Nat.ble 37 36 = false from rfl, cond_false, show Nat.ble 36 36 = true from rfl, cond_true, show Nat.beq 36 36 = true from rfl, cond_true]
theorem cf_X0_pack_X6_add : ca_X0_pack 37 = F_X6_add := by
  funext as m
  unfold ca_X0_pack
  rw [show Nat.ble 37 37 = true from rfl, cond_true, show Nat.ble 38 37 = false from rfl, cond_false, show Nat.beq 37 37 = true from rfl, cond_true]
theorem cf_X0_pack_X6_put : ca_X0_pack 38 = F_X6_put := by
  funext as m
  unfold ca_X0_pack
  rw [show Nat.ble 37 38 = true from rfl, cond_true, show Nat.ble 38 38 = true from rfl, cond_true, show Nat.beq 38 38 = true from rfl, cond_true]
theorem sc_X0_pack {b base : Nat} {Hb : Heap} {D : va_G} {cA : Nat → ClassId} {l : Launch} (hst : l.stackTraces = false) (hb : b < base) : sl_CC (sl_ad base b) base 331 Hb D cA sl_ln sl_rd sl_VS sl_MS sl_cS sl_sS l 0 yX0_pack cX0_pack 6 (sl_rt 0 "") 1 22 0 0 F_X0_pack :=
  gc_X0_pack (call := ca_X0_pack) hst (sl_memS hb) sl_moS (by rw [cf_X0_pack_X6_clear]; exact sc_X6_clear hst hb) (by rw [cf_X0_pack_X6_at]; exact sc_X6_at hst hb) (by rw [cf_X0_pack_X6_add]; exact sc_X6_add hst hb) (by rw [cf_X0_pack_X6_put]; exact sc_X6_put hst hb)
theorem cf_X0_unpack_X6_clear : ca_X0_unpack 33 = F_X6_clear := by
  funext as m
  unfold ca_X0_unpack
  rw [show Nat.ble 36 33 = false from rfl, cond_false, show Nat.beq 33 33 = true from rfl, cond_true]
theorem cf_X0_unpack_X6_at : ca_X0_unpack 36 = F_X6_at := by
  funext as m
  unfold ca_X0_unpack
  rw [show Nat.ble 36 36 = true from rfl, cond_true, show Nat.ble 37 36 = false from rfl, cond_false, show Nat.beq 36 36 = true from rfl, cond_true]
theorem cf_X0_unpack_X6_add : ca_X0_unpack 37 = F_X6_add := by
  funext as m
  unfold ca_X0_unpack
  rw [show Nat.ble 36 37 = true from rfl, cond_true, show Nat.ble 37 37 = true from rfl, cond_true, show Nat.beq 37 37 = true from rfl, cond_true]
theorem sc_X0_unpack {b base : Nat} {Hb : Heap} {D : va_G} {cA : Nat → ClassId} {l : Launch} (hst : l.stackTraces = false) (hb : b < base) : sl_CC (sl_ad base b) base 331 Hb D cA sl_ln sl_rd sl_VS sl_MS sl_cS sl_sS l 0 yX0_unpack cX0_unpack 6 (sl_rt 0 "") 1 21 0 0 F_X0_unpack :=
  gc_X0_unpack (call := ca_X0_unpack) hst (sl_memS hb) sl_moS (by rw [cf_X0_unpack_X6_clear]; exact sc_X6_clear hst hb) (by rw [cf_X0_unpack_X6_at]; exact sc_X6_at hst hb) (by rw [cf_X0_unpack_X6_add]; exact sc_X6_add hst hb)
theorem cf_X1_forgetHeard_X6_clear : ca_X1_forgetHeard 33 = F_X6_clear := by
  funext as m
  unfold ca_X1_forgetHeard
  rw [show Nat.beq 33 33 = true from rfl, cond_true]
theorem sc_X1_forgetHeard {b base : Nat} {Hb : Heap} {D : va_G} {cA : Nat → ClassId} {l : Launch} (hst : l.stackTraces = false) (hb : b < base) : sl_CC (sl_ad base b) base 331 Hb D cA sl_ln sl_rd sl_VS sl_MS sl_cS sl_sS l 0 yX1_forgetHeard cX1_forgetHeard 1 (sl_rt 0 "") 1 20 0 0 F_X1_forgetHeard :=
  gc_X1_forgetHeard (call := ca_X1_forgetHeard) hst (sl_memS hb) sl_moS (by rw [cf_X1_forgetHeard_X6_clear]; exact sc_X6_clear hst hb)
theorem sc_J7_fill_53178 {b base : Nat} {Hb : Heap} {D : va_G} {cA : Nat → ClassId} {l : Launch} (hst : l.stackTraces = false) (hb : b < base) : sl_CC (sl_ad base b) base 331 Hb D cA sl_ln sl_rd sl_VS sl_MS sl_cS sl_sS l 0 yJ7_fill_53178 cJ7_fill_53178 4 (sl_rt 0 "") 0 0 0 0 F_J7_fill_53178 :=
  gc_J7_fill_53178 (call := ca_J7_fill_53178) hst (sl_memS hb) sl_moS 
theorem cf_X5_clear_X6_clear : ca_X5_clear 33 = F_X6_clear := by
  funext as m
  unfold ca_X5_clear
  rw [show Nat.ble 137 33 = false from rfl, cond_false, show Nat.beq 33 33 = true from rfl, cond_true]
theorem cf_X5_clear_J7_fill_53178 : ca_X5_clear 137 = F_J7_fill_53178 := by
  funext as m
  unfold ca_X5_clear
  rw [show Nat.ble 137 137 = true from rfl, cond_true, show Nat.beq 137 137 = true from rfl, cond_true]
theorem sc_X5_clear {b base : Nat} {Hb : Heap} {D : va_G} {cA : Nat → ClassId} {l : Launch} (hst : l.stackTraces = false) (hb : b < base) : sl_CC (sl_ad base b) base 331 Hb D cA sl_ln sl_rd sl_VS sl_MS sl_cS sl_sS l 0 yX5_clear cX5_clear 1 (sl_rt 0 "") 1 23 0 0 F_X5_clear :=
  gc_X5_clear (call := ca_X5_clear) hst (sl_memS hb) sl_moS (by rw [cf_X5_clear_X6_clear]; exact sc_X6_clear hst hb) (by rw [cf_X5_clear_J7_fill_53178]; exact sc_J7_fill_53178 hst hb)
theorem cf_X7_clear_X6_clear : ca_X7_clear 33 = F_X6_clear := by
  funext as m
  unfold ca_X7_clear
  rw [show Nat.beq 33 33 = true from rfl, cond_true]
theorem sc_X7_clear {b base : Nat} {Hb : Heap} {D : va_G} {cA : Nat → ClassId} {l : Launch} (hst : l.stackTraces = false) (hb : b < base) : sl_CC (sl_ad base b) base 331 Hb D cA sl_ln sl_rd sl_VS sl_MS sl_cS sl_sS l 0 yX7_clear cX7_clear 1 (sl_rt 0 "") 1 20 0 0 F_X7_clear :=
  gc_X7_clear (call := ca_X7_clear) hst (sl_memS hb) sl_moS (by rw [cf_X7_clear_X6_clear]; exact sc_X6_clear hst hb)
theorem cf_X1_clear_X1_forgetHeard : ca_X1_clear 5 = F_X1_forgetHeard := by
  funext as m
  unfold ca_X1_clear
  rw [show Nat.ble 25 5 = false from rfl, cond_false, show Nat.beq 5 5 = true from rfl, cond_true]
theorem cf_X1_clear_X5_clear : ca_X1_clear 25 = F_X5_clear := by
  funext as m
  unfold ca_X1_clear
  rw [show Nat.ble 25 25 = true from rfl, cond_true, show Nat.ble 41 25 = false from rfl, cond_false, show Nat.beq 25 25 = true from rfl, cond_true]
theorem cf_X1_clear_X7_clear : ca_X1_clear 41 = F_X7_clear := by
  funext as m
  unfold ca_X1_clear
  rw [show Nat.ble 25 41 = true from rfl, cond_true, show Nat.ble 41 41 = true from rfl, cond_true, show Nat.beq 41 41 = true from rfl, cond_true]
theorem sc_X1_clear {b base : Nat} {Hb : Heap} {D : va_G} {cA : Nat → ClassId} {l : Launch} (hst : l.stackTraces = false) (hb : b < base) : sl_CC (sl_ad base b) base 331 Hb D cA sl_ln sl_rd sl_VS sl_MS sl_cS sl_sS l 0 yX1_clear cX1_clear 1 (sl_rt 0 "") 2 43 0 0 F_X1_clear :=
  gc_X1_clear (call := ca_X1_clear) hst (sl_memS hb) sl_moS (by rw [cf_X1_clear_X1_forgetHeard]; exact sc_X1_forgetHeard hst hb) (by rw [cf_X1_clear_X5_clear]; exact sc_X5_clear hst hb) (by rw [cf_X1_clear_X7_clear]; exact sc_X7_clear hst hb)
theorem sc_X1_loadOfBody {b base : Nat} {Hb : Heap} {D : va_G} {cA : Nat → ClassId} {l : Launch} (hst : l.stackTraces = false) (hb : b < base) : sl_CC (sl_ad base b) base 331 Hb D cA sl_ln sl_rd sl_VS sl_MS sl_cS sl_sS l 0 yX1_loadOfBody cX1_loadOfBody 1 (sl_rt 1 "") 0 0 1 0 F_X1_loadOfBody :=
  gc_X1_loadOfBody (call := ca_X1_loadOfBody) hst (sl_memS hb) sl_moS 
theorem cf_X1_checkHolds_X0_checkOf : ca_X1_checkHolds 0 = F_X0_checkOf := by
  funext as m
  unfold ca_X1_checkHolds
  rw [show Nat.ble 36 0 = false from rfl, cond_false, show Nat.beq 0 0 = true from rfl, cond_true]
theorem cf_X1_checkHolds_X6_at : ca_X1_checkHolds 36 = F_X6_at := by
  funext as m
  unfold ca_X1_checkHolds
  rw [show Nat.ble 36 36 = true from rfl, cond_true, show Nat.beq 36 36 = true from rfl, cond_true]
theorem sc_X1_checkHolds {b base : Nat} {Hb : Heap} {D : va_G} {cA : Nat → ClassId} {l : Launch} (hst : l.stackTraces = false) (hb : b < base) : sl_CC (sl_ad base b) base 331 Hb D cA sl_ln sl_rd sl_VS sl_MS sl_cS sl_sS l 0 yX1_checkHolds cX1_checkHolds 4 (sl_rt 2 "") 2 45 1 0 F_X1_checkHolds :=
  gc_X1_checkHolds (call := ca_X1_checkHolds) hst (sl_memS hb) sl_moS (by rw [cf_X1_checkHolds_X0_checkOf]; exact sc_X0_checkOf hst hb) (by rw [cf_X1_checkHolds_X6_at]; exact sc_X6_at hst hb)
theorem sc_X8_eachByItself {b base : Nat} {Hb : Heap} {D : va_G} {cA : Nat → ClassId} {l : Launch} (hst : l.stackTraces = false) (hb : b < base) : sl_CC (sl_ad base b) base 331 Hb D cA sl_ln sl_rd sl_VS sl_MS sl_cS sl_sS l 0 yX8_eachByItself cX8_eachByItself 1 (sl_rt 2 "") 0 0 1 0 F_X8_eachByItself :=
  gc_X8_eachByItself (call := ca_X8_eachByItself) hst (sl_memS hb) sl_moS 
theorem cf_X8_knownLoad_X8_eachByItself : ca_X8_knownLoad 54 = F_X8_eachByItself := by
  funext as m
  unfold ca_X8_knownLoad
  rw [show Nat.beq 54 54 = true from rfl, cond_true]
theorem sc_X8_knownLoad {b base : Nat} {Hb : Heap} {D : va_G} {cA : Nat → ClassId} {l : Launch} (hst : l.stackTraces = false) (hb : b < base) : sl_CC (sl_ad base b) base 331 Hb D cA sl_ln sl_rd sl_VS sl_MS sl_cS sl_sS l 0 yX8_knownLoad cX8_knownLoad 1 (sl_rt 1 "") 1 20 1 0 F_X8_knownLoad :=
  gc_X8_knownLoad (call := ca_X8_knownLoad) hst (sl_memS hb) sl_moS (by rw [cf_X8_knownLoad_X8_eachByItself]; exact sc_X8_eachByItself hst hb)
theorem cf_X1_headHolds_X1_loadOfBody : ca_X1_headHolds 8 = F_X1_loadOfBody := by
  funext as m
  unfold ca_X1_headHolds
  rw [show Nat.ble 36 8 = false from rfl, cond_false, show Nat.beq 8 8 = true from rfl, cond_true]
theorem cf_X1_headHolds_X6_at : ca_X1_headHolds 36 = F_X6_at := by
  funext as m
  unfold ca_X1_headHolds
  rw [show Nat.ble 36 36 = true from rfl, cond_true, show Nat.ble 56 36 = false from rfl, cond_false, show Nat.beq 36 36 = true from rfl, cond_true]
theorem cf_X1_headHolds_X8_knownLoad : ca_X1_headHolds 56 = F_X8_knownLoad := by
  funext as m
  unfold ca_X1_headHolds
  rw [show Nat.ble 36 56 = true from rfl, cond_true, show Nat.ble 56 56 = true from rfl, cond_true, show Nat.beq 56 56 = true from rfl, cond_true]
theorem sc_X1_headHolds {b base : Nat} {Hb : Heap} {D : va_G} {cA : Nat → ClassId} {l : Launch} (hst : l.stackTraces = false) (hb : b < base) : sl_CC (sl_ad base b) base 331 Hb D cA sl_ln sl_rd sl_VS sl_MS sl_cS sl_sS l 0 yX1_headHolds cX1_headHolds 3 (sl_rt 2 "") 2 40 1 0 F_X1_headHolds :=
  gc_X1_headHolds (call := ca_X1_headHolds) hst (sl_memS hb) sl_moS (by rw [cf_X1_headHolds_X1_loadOfBody]; exact sc_X1_loadOfBody hst hb) (by rw [cf_X1_headHolds_X6_at]; exact sc_X6_at hst hb) (by rw [cf_X1_headHolds_X8_knownLoad]; exact sc_X8_knownLoad hst hb)
theorem sc_X3_clear {b base : Nat} {Hb : Heap} {D : va_G} {cA : Nat → ClassId} {l : Launch} (hst : l.stackTraces = false) (hb : b < base) : sl_CC (sl_ad base b) base 331 Hb D cA sl_ln sl_rd sl_VS sl_MS sl_cS sl_sS l 0 yX3_clear cX3_clear 1 (sl_rt 0 "") 0 0 0 0 F_X3_clear :=
  gc_X3_clear (call := ca_X3_clear) hst (sl_memS hb) sl_moS 
theorem sc_X3_found {b base : Nat} {Hb : Heap} {D : va_G} {cA : Nat → ClassId} {l : Launch} (hst : l.stackTraces = false) (hb : b < base) : sl_CC (sl_ad base b) base 331 Hb D cA sl_ln sl_rd sl_VS sl_MS sl_cS sl_sS l 0 yX3_found cX3_found 3 (sl_rt 2 "") 0 0 1 0 F_X3_found :=
  gc_X3_found (call := ca_X3_found) hst (sl_memS hb) sl_moS 
theorem cf_X3_isSound_X3_clear : ca_X3_isSound 14 = F_X3_clear := by
  funext as m
  unfold ca_X3_isSound
  rw [show Nat.ble 16 14 = false from rfl, cond_false, show Nat.beq 14 14 = true from rfl, cond_true]
theorem cf_X3_isSound_X3_found : ca_X3_isSound 16 = F_X3_found := by
  funext as m
  unfold ca_X3_isSound
  rw [show Nat.ble 16 16 = true from rfl, cond_true, show Nat.ble 36 16 = false from rfl, cond_false, show Nat.beq 16 16 = true from rfl, cond_true]
theorem cf_X3_isSound_X6_at : ca_X3_isSound 36 = F_X6_at := by
  funext as m
  unfold ca_X3_isSound
  rw [show Nat.ble 16 36 = true from rfl, cond_true, show Nat.ble 36 36 = true from rfl, cond_true, show Nat.beq 36 36 = true from rfl, cond_true]
theorem sc_X3_isSound {b base : Nat} {Hb : Heap} {D : va_G} {cA : Nat → ClassId} {l : Launch} (hst : l.stackTraces = false) (hb : b < base) : sl_CC (sl_ad base b) base 331 Hb D cA sl_ln sl_rd sl_VS sl_MS sl_cS sl_sS l 0 yX3_isSound cX3_isSound 7 (sl_rt 2 "") 1 22 1 0 F_X3_isSound :=
  gc_X3_isSound (call := ca_X3_isSound) hst (sl_memS hb) sl_moS (by rw [cf_X3_isSound_X3_clear]; exact sc_X3_clear hst hb) (by rw [cf_X3_isSound_X3_found]; exact sc_X3_found hst hb) (by rw [cf_X3_isSound_X6_at]; exact sc_X6_at hst hb)
theorem cf_X1_kindOfWrong_X0_unpack : ca_X1_kindOfWrong 2 = F_X0_unpack := by
  funext as m
  unfold ca_X1_kindOfWrong
  rw [show Nat.ble 11 2 = false from rfl, cond_false, show Nat.ble 10 2 = false from rfl, cond_false, show Nat.beq 2 2 = true from rfl, cond_true]
theorem cf_X1_kindOfWrong_X1_checkHolds : ca_X1_kindOfWrong 10 = F_X1_checkHolds := by
  funext as m
  unfold ca_X1_kindOfWrong
  rw [show Nat.ble 11 10 = false from rfl, cond_false, show Nat.ble 10 10 = true from rfl, cond_true, show Nat.beq 10 10 = true from rfl, cond_true]
theorem cf_X1_kindOfWrong_X1_headHolds : ca_X1_kindOfWrong 11 = F_X1_headHolds := by
  funext as m
  unfold ca_X1_kindOfWrong
  rw [show Nat.ble 11 11 = true from rfl, cond_true, show Nat.ble 15 11 = false from rfl, cond_false, show Nat.beq 11 11 = true from rfl, cond_true]
theorem cf_X1_kindOfWrong_X3_isSound : ca_X1_kindOfWrong 15 = F_X3_isSound := by
  funext as m
  unfold ca_X1_kindOfWrong
  rw [show Nat.ble 11 15 = true from rfl, cond_true, show Nat.ble 15 15 = true from rfl, cond_true, show Nat.beq 15 15 = true from rfl, cond_true]
theorem sc_X1_kindOfWrong {b base : Nat} {Hb : Heap} {D : va_G} {cA : Nat → ClassId} {l : Launch} (hst : l.stackTraces = false) (hb : b < base) : sl_CC (sl_ad base b) base 331 Hb D cA sl_ln sl_rd sl_VS sl_MS sl_cS sl_sS l 0 yX1_kindOfWrong cX1_kindOfWrong 1 (sl_rt 1 "") 3 68 1 0 F_X1_kindOfWrong :=
  gc_X1_kindOfWrong (call := ca_X1_kindOfWrong) hst (sl_memS hb) sl_moS (by rw [cf_X1_kindOfWrong_X0_unpack]; exact sc_X0_unpack hst hb) (by rw [cf_X1_kindOfWrong_X1_checkHolds]; exact sc_X1_checkHolds hst hb) (by rw [cf_X1_kindOfWrong_X1_headHolds]; exact sc_X1_headHolds hst hb) (by rw [cf_X1_kindOfWrong_X3_isSound]; exact sc_X3_isSound hst hb)
theorem sc_X9_add {b base : Nat} {Hb : Heap} {D : va_G} {cA : Nat → ClassId} {l : Launch} (hst : l.stackTraces = false) (hb : b < base) : sl_CC (sl_ad base b) base 331 Hb D cA sl_ln sl_rd sl_VS sl_MS sl_cS sl_sS l 0 yX9_add cX9_add 2 (sl_rt 0 "") 0 0 0 0 F_X9_add :=
  gc_X9_add (call := ca_X9_add) hst (sl_memS hb) sl_moS 
theorem cf_X5_hold_X6_at : ca_X5_hold 36 = F_X6_at := by
  funext as m
  unfold ca_X5_hold
  rw [show Nat.ble 38 36 = false from rfl, cond_false, show Nat.beq 36 36 = true from rfl, cond_true]
theorem cf_X5_hold_X6_put : ca_X5_hold 38 = F_X6_put := by
  funext as m
  unfold ca_X5_hold
  rw [show Nat.ble 38 38 = true from rfl, cond_true, show Nat.ble 59 38 = false from rfl, cond_false, show Nat.beq 38 38 = true from rfl, cond_true]
theorem cf_X5_hold_X9_add : ca_X5_hold 59 = F_X9_add := by
  funext as m
  unfold ca_X5_hold
  rw [show Nat.ble 38 59 = true from rfl, cond_true, show Nat.ble 59 59 = true from rfl, cond_true, show Nat.beq 59 59 = true from rfl, cond_true]
theorem sc_X5_hold {b base : Nat} {Hb : Heap} {D : va_G} {cA : Nat → ClassId} {l : Launch} (hst : l.stackTraces = false) (hb : b < base) : sl_CC (sl_ad base b) base 331 Hb D cA sl_ln sl_rd sl_VS sl_MS sl_cS sl_sS l 0 yX5_hold cX5_hold 6 (sl_rt 0 "") 1 22 0 0 F_X5_hold :=
  gc_X5_hold (call := ca_X5_hold) hst (sl_memS hb) sl_moS (by rw [cf_X5_hold_X6_at]; exact sc_X6_at hst hb) (by rw [cf_X5_hold_X6_put]; exact sc_X6_put hst hb) (by rw [cf_X5_hold_X9_add]; exact sc_X9_add hst hb)
theorem sc_X6_hasRoom {b base : Nat} {Hb : Heap} {D : va_G} {cA : Nat → ClassId} {l : Launch} (hst : l.stackTraces = false) (hb : b < base) : sl_CC (sl_ad base b) base 331 Hb D cA sl_ln sl_rd sl_VS sl_MS sl_cS sl_sS l 0 yX6_hasRoom cX6_hasRoom 2 (sl_rt 2 "") 0 0 1 0 F_X6_hasRoom :=
  gc_X6_hasRoom (call := ca_X6_hasRoom) hst (sl_memS hb) sl_moS 
theorem cf_X6_addPart_X6_at : ca_X6_addPart 36 = F_X6_at := by
  funext as m
  unfold ca_X6_addPart
  rw [show Nat.ble 37 36 = false from rfl, cond_false, show Nat.beq 36 36 = true from rfl, cond_true]
theorem cf_X6_addPart_X6_add : ca_X6_addPart 37 = F_X6_add := by
  funext as m
  unfold ca_X6_addPart
  rw [show Nat.ble 37 37 = true from rfl, cond_true, show Nat.beq 37 37 = true from rfl, cond_true]
theorem sc_X6_addPart {b base : Nat} {Hb : Heap} {D : va_G} {cA : Nat → ClassId} {l : Launch} (hst : l.stackTraces = false) (hb : b < base) : sl_CC (sl_ad base b) base 331 Hb D cA sl_ln sl_rd sl_VS sl_MS sl_cS sl_sS l 0 yX6_addPart cX6_addPart 5 (sl_rt 0 "") 1 21 0 0 F_X6_addPart :=
  gc_X6_addPart (call := ca_X6_addPart) hst (sl_memS hb) sl_moS (by rw [cf_X6_addPart_X6_at]; exact sc_X6_at hst hb) (by rw [cf_X6_addPart_X6_add]; exact sc_X6_add hst hb)
theorem cf_X5_takeHeld_X6_hasRoom : ca_X5_takeHeld 35 = F_X6_hasRoom := by
  funext as m
  unfold ca_X5_takeHeld
  rw [show Nat.ble 39 35 = false from rfl, cond_false, show Nat.beq 35 35 = true from rfl, cond_true]
theorem cf_X5_takeHeld_X6_addPart : ca_X5_takeHeld 39 = F_X6_addPart := by
  funext as m
  unfold ca_X5_takeHeld
  rw [show Nat.ble 39 39 = true from rfl, cond_true, show Nat.beq 39 39 = true from rfl, cond_true]
theorem sc_X5_takeHeld {b base : Nat} {Hb : Heap} {D : va_G} {cA : Nat → ClassId} {l : Launch} (hst : l.stackTraces = false) (hb : b < base) : sl_CC (sl_ad base b) base 331 Hb D cA sl_ln sl_rd sl_VS sl_MS sl_cS sl_sS l 0 yX5_takeHeld cX5_takeHeld 3 (sl_rt 0 "") 2 45 0 0 F_X5_takeHeld :=
  gc_X5_takeHeld (call := ca_X5_takeHeld) hst (sl_memS hb) sl_moS (by rw [cf_X5_takeHeld_X6_hasRoom]; exact sc_X6_hasRoom hst hb) (by rw [cf_X5_takeHeld_X6_addPart]; exact sc_X6_addPart hst hb)
theorem sc_J9_floorMod_7cf53 {b base : Nat} {Hb : Heap} {D : va_G} {cA : Nat → ClassId} {l : Launch} (hst : l.stackTraces = false) (hb : b < base) : sl_CC (sl_ad base b) base 331 Hb D cA sl_ln sl_rd sl_VS sl_MS sl_cS sl_sS l 0 yJ9_floorMod_7cf53 cJ9_floorMod_7cf53 3 (sl_rt 1 "") 0 0 1 0 F_J9_floorMod_7cf53 :=
  gc_J9_floorMod_7cf53 (call := ca_J9_floorMod_7cf53) hst (sl_memS hb) sl_moS 
theorem cf_X8_inRing_J9_floorMod_7cf53 : ca_X8_inRing 134 = F_J9_floorMod_7cf53 := by
  funext as m
  unfold ca_X8_inRing
  rw [show Nat.beq 134 134 = true from rfl, cond_true]
theorem sc_X8_inRing {b base : Nat} {Hb : Heap} {D : va_G} {cA : Nat → ClassId} {l : Launch} (hst : l.stackTraces = false) (hb : b < base) : sl_CC (sl_ad base b) base 331 Hb D cA sl_ln sl_rd sl_VS sl_MS sl_cS sl_sS l 0 yX8_inRing cX8_inRing 2 (sl_rt 1 "") 1 22 1 0 F_X8_inRing :=
  gc_X8_inRing (call := ca_X8_inRing) hst (sl_memS hb) sl_moS (by rw [cf_X8_inRing_J9_floorMod_7cf53]; exact sc_J9_floorMod_7cf53 hst hb)
theorem cf_X5_hearData_X5_hold : ca_X5_hearData 27 = F_X5_hold := by
  funext as m
  unfold ca_X5_hearData
  rw [show Nat.ble 39 27 = false from rfl, cond_false, show Nat.ble 28 27 = false from rfl, cond_false, show Nat.beq 27 27 = true from rfl, cond_true]
theorem cf_X5_hearData_X5_takeHeld : ca_X5_hearData 28 = F_X5_takeHeld := by
  funext as m
  unfold ca_X5_hearData
  rw [show Nat.ble 39 28 = false from rfl, cond_false, show Nat.ble 28 28 = true from rfl, cond_true, show Nat.ble 35 28 = false from rfl, cond_false, show Nat.beq 28 28 = true from rfl, cond_true]
theorem cf_X5_hearData_X6_hasRoom : ca_X5_hearData 35 = F_X6_hasRoom := by
  funext as m
  unfold ca_X5_hearData
  rw [show Nat.ble 39 35 = false from rfl, cond_false, show Nat.ble 28 35 = true from rfl, cond_true, show Nat.ble 35 35 = true from rfl, cond_true, show Nat.beq 35 35 = true from rfl, cond_true]
theorem cf_X5_hearData_X6_addPart : ca_X5_hearData 39 = F_X6_addPart := by
  funext as m
  unfold ca_X5_hearData
  rw [show Nat.ble 39 39 = true from rfl, cond_true, show Nat.ble 55 39 = false from rfl, cond_false, show Nat.ble 54 39 = false from rfl, cond_false, show Nat.beq 39 39 = true from rfl, cond_true]
theorem cf_X5_hearData_X8_eachByItself : ca_X5_hearData 54 = F_X8_eachByItself := by
  funext as m
  unfold ca_X5_hearData
  rw [show Nat.ble 39 54 = true from rfl, cond_true, show Nat.ble 55 54 = false from rfl, cond_false, show Nat.ble 54 54 = true from rfl, cond_true, show Nat.beq 54 54 = true from rfl, cond_true]
theorem cf_X5_hearData_X8_inRing : ca_X5_hearData 55 = F_X8_inRing := by
  funext as m
  unfold ca_X5_hearData
  rw [show Nat.ble 39 55 = true from rfl, cond_true, show Nat.ble 55 55 = true from rfl, cond_true, show Nat.ble 59 55 = false from rfl, cond_false, show Nat.beq 55 55 = true from rfl, cond_true]
theorem cf_X5_hearData_X9_add : ca_X5_hearData 59 = F_X9_add := by
  funext as m
  unfold ca_X5_hearData
  rw [show Nat.ble 39 59 = true from rfl, cond_true, show Nat.ble 55 59 = true from rfl, cond_true, show Nat.ble 59 59 = true from rfl, cond_true, show Nat.beq 59 59 = true from rfl, cond_true]
theorem sc_X5_hearData {b base : Nat} {Hb : Heap} {D : va_G} {cA : Nat → ClassId} {l : Launch} (hst : l.stackTraces = false) (hb : b < base) : sl_CC (sl_ad base b) base 331 Hb D cA sl_ln sl_rd sl_VS sl_MS sl_cS sl_sS l 0 yX5_hearData cX5_hearData 6 (sl_rt 2 "") 3 67 1 0 F_X5_hearData :=
  gc_X5_hearData (call := ca_X5_hearData) hst (sl_memS hb) sl_moS (by rw [cf_X5_hearData_X5_hold]; exact sc_X5_hold hst hb) (by rw [cf_X5_hearData_X5_takeHeld]; exact sc_X5_takeHeld hst hb) (by rw [cf_X5_hearData_X6_hasRoom]; exact sc_X6_hasRoom hst hb) (by rw [cf_X5_hearData_X6_addPart]; exact sc_X6_addPart hst hb) (by rw [cf_X5_hearData_X8_eachByItself]; exact sc_X8_eachByItself hst hb) (by rw [cf_X5_hearData_X8_inRing]; exact sc_X8_inRing hst hb) (by rw [cf_X5_hearData_X9_add]; exact sc_X9_add hst hb)
theorem cf_X4_startBody_X6_clear : ca_X4_startBody 33 = F_X6_clear := by
  funext as m
  unfold ca_X4_startBody
  rw [show Nat.ble 37 33 = false from rfl, cond_false, show Nat.beq 33 33 = true from rfl, cond_true]
theorem cf_X4_startBody_X6_add : ca_X4_startBody 37 = F_X6_add := by
  funext as m
  unfold ca_X4_startBody
  rw [show Nat.ble 37 37 = true from rfl, cond_true, show Nat.beq 37 37 = true from rfl, cond_true]
theorem sc_X4_startBody {b base : Nat} {Hb : Heap} {D : va_G} {cA : Nat → ClassId} {l : Launch} (hst : l.stackTraces = false) (hb : b < base) : sl_CC (sl_ad base b) base 331 Hb D cA sl_ln sl_rd sl_VS sl_MS sl_cS sl_sS l 0 yX4_startBody cX4_startBody 3 (sl_rt 3 "SerialLink$Row") 1 21 2 6 F_X4_startBody :=
  gc_X4_startBody (call := ca_X4_startBody) hst (sl_memS hb) sl_moS (by rw [cf_X4_startBody_X6_clear]; exact sc_X6_clear hst hb) (by rw [cf_X4_startBody_X6_add]; exact sc_X6_add hst hb)
theorem cf_X4_slot_J9_floorMod_7cf53 : ca_X4_slot 134 = F_J9_floorMod_7cf53 := by
  funext as m
  unfold ca_X4_slot
  rw [show Nat.beq 134 134 = true from rfl, cond_true]
theorem sc_X4_slot {b base : Nat} {Hb : Heap} {D : va_G} {cA : Nat → ClassId} {l : Launch} (hst : l.stackTraces = false) (hb : b < base) : sl_CC (sl_ad base b) base 331 Hb D cA sl_ln sl_rd sl_VS sl_MS sl_cS sl_sS l 0 yX4_slot cX4_slot 3 (sl_rt 3 "SerialLink$Frame") 1 22 3 2 F_X4_slot :=
  gc_X4_slot (call := ca_X4_slot) hst (sl_memS hb) sl_moS (by rw [cf_X4_slot_J9_floorMod_7cf53]; exact sc_J9_floorMod_7cf53 hst hb)
theorem cf_X4_lay_X0_checkOf : ca_X4_lay 0 = F_X0_checkOf := by
  funext as m
  unfold ca_X4_lay
  rw [show Nat.ble 36 0 = false from rfl, cond_false, show Nat.ble 1 0 = false from rfl, cond_false, show Nat.beq 0 0 = true from rfl, cond_true]
theorem cf_X4_lay_X0_pack : ca_X4_lay 1 = F_X0_pack := by
  funext as m
  unfold ca_X4_lay
  rw [show Nat.ble 36 1 = false from rfl, cond_false, show Nat.ble 1 1 = true from rfl, cond_true, show Nat.ble 20 1 = false from rfl, cond_false, show Nat.beq 1 1 = true from rfl, cond_true]
theorem cf_X4_lay_X4_slot : ca_X4_lay 20 = F_X4_slot := by
  funext as m
  unfold ca_X4_lay
  rw [show Nat.ble 36 20 = false from rfl, cond_false, show Nat.ble 1 20 = true from rfl, cond_true, show Nat.ble 20 20 = true from rfl, cond_true, show Nat.beq 20 20 = true from rfl, cond_true]
theorem cf_X4_lay_X6_at : ca_X4_lay 36 = F_X6_at := by
  funext as m
  unfold ca_X4_lay
  rw [show Nat.ble 36 36 = true from rfl, cond_true, show Nat.ble 37 36 = false from rfl, cond_false, show Nat.beq 36 36 = true from rfl, cond_true]
theorem cf_X4_lay_X6_add : ca_X4_lay 37 = F_X6_add := by
  funext as m
  unfold ca_X4_lay
  rw [show Nat.ble 36 37 = true from rfl, cond_true, show Nat.ble 37 37 = true from rfl, cond_true, show Nat.ble 59 37 = false from rfl, cond_false, show Nat.beq 37 37 = true from rfl, cond_true]
theorem cf_X4_lay_X9_add : ca_X4_lay 59 = F_X9_add := by
  funext as m
  unfold ca_X4_lay
  rw [show Nat.ble 36 59 = true from rfl, cond_true, show Nat.ble 37 59 = true from rfl, cond_true, show Nat.ble 59 59 = true from rfl, cond_true, show Nat.beq 59 59 = true from rfl, cond_true]
theorem sc_X4_lay {b base : Nat} {Hb : Heap} {D : va_G} {cA : Nat → ClassId} {l : Launch} (hst : l.stackTraces = false) (hb : b < base) : sl_CC (sl_ad base b) base 331 Hb D cA sl_ln sl_rd sl_VS sl_MS sl_cS sl_sS l 0 yX4_lay cX4_lay 6 (sl_rt 0 "") 2 47 0 0 F_X4_lay :=
  gc_X4_lay (call := ca_X4_lay) hst (sl_memS hb) sl_moS (by rw [cf_X4_lay_X0_checkOf]; exact sc_X0_checkOf hst hb) (by rw [cf_X4_lay_X0_pack]; exact sc_X0_pack hst hb) (by rw [cf_X4_lay_X4_slot]; exact sc_X4_slot hst hb) (by rw [cf_X4_lay_X6_at]; exact sc_X6_at hst hb) (by rw [cf_X4_lay_X6_add]; exact sc_X6_add hst hb) (by rw [cf_X4_lay_X9_add]; exact sc_X9_add hst hb)
theorem sc_X5_heldBits {b base : Nat} {Hb : Heap} {D : va_G} {cA : Nat → ClassId} {l : Launch} (hst : l.stackTraces = false) (hb : b < base) : sl_CC (sl_ad base b) base 331 Hb D cA sl_ln sl_rd sl_VS sl_MS sl_cS sl_sS l 0 yX5_heldBits cX5_heldBits 5 (sl_rt 1 "") 0 0 1 0 F_X5_heldBits :=
  gc_X5_heldBits (call := ca_X5_heldBits) hst (sl_memS hb) sl_moS 
theorem cf_X5_layKnown_X4_startBody : ca_X5_layKnown 22 = F_X4_startBody := by
  funext as m
  unfold ca_X5_layKnown
  rw [show Nat.ble 37 22 = false from rfl, cond_false, show Nat.ble 23 22 = false from rfl, cond_false, show Nat.beq 22 22 = true from rfl, cond_true]
theorem cf_X5_layKnown_X4_lay : ca_X5_layKnown 23 = F_X4_lay := by
  funext as m
  unfold ca_X5_layKnown
  rw [show Nat.ble 37 23 = false from rfl, cond_false, show Nat.ble 23 23 = true from rfl, cond_true, show Nat.ble 30 23 = false from rfl, cond_false, show Nat.beq 23 23 = true from rfl, cond_true]
theorem cf_X5_layKnown_X5_heldBits : ca_X5_layKnown 30 = F_X5_heldBits := by
  funext as m
  unfold ca_X5_layKnown
  rw [show Nat.ble 37 30 = false from rfl, cond_false, show Nat.ble 23 30 = true from rfl, cond_true, show Nat.ble 30 30 = true from rfl, cond_true, show Nat.beq 30 30 = true from rfl, cond_true]
theorem cf_X5_layKnown_X6_add : ca_X5_layKnown 37 = F_X6_add := by
  funext as m
  unfold ca_X5_layKnown
  rw [show Nat.ble 37 37 = true from rfl, cond_true, show Nat.ble 55 37 = false from rfl, cond_false, show Nat.beq 37 37 = true from rfl, cond_true]
theorem cf_X5_layKnown_X8_inRing : ca_X5_layKnown 55 = F_X8_inRing := by
  funext as m
  unfold ca_X5_layKnown
  rw [show Nat.ble 37 55 = true from rfl, cond_true, show Nat.ble 55 55 = true from rfl, cond_true, show Nat.ble 56 55 = false from rfl, cond_false, show Nat.beq 55 55 = true from rfl, cond_true]
theorem cf_X5_layKnown_X8_knownLoad : ca_X5_layKnown 56 = F_X8_knownLoad := by
  funext as m
  unfold ca_X5_layKnown
  rw [show Nat.ble 37 56 = true from rfl, cond_true, show Nat.ble 55 56 = true from rfl, cond_true, show Nat.ble 56 56 = true from rfl, cond_true, show Nat.beq 56 56 = true from rfl, cond_true]
theorem sc_X5_layKnown {b base : Nat} {Hb : Heap} {D : va_G} {cA : Nat → ClassId} {l : Launch} (hst : l.stackTraces = false) (hb : b < base) : sl_CC (sl_ad base b) base 331 Hb D cA sl_ln sl_rd sl_VS sl_MS sl_cS sl_sS l 0 yX5_layKnown cX5_layKnown 4 (sl_rt 0 "") 3 72 0 0 F_X5_layKnown :=
  gc_X5_layKnown (call := ca_X5_layKnown) hst (sl_memS hb) sl_moS (by rw [cf_X5_layKnown_X4_startBody]; exact sc_X4_startBody hst hb) (by rw [cf_X5_layKnown_X4_lay]; exact sc_X4_lay hst hb) (by rw [cf_X5_layKnown_X5_heldBits]; exact sc_X5_heldBits hst hb) (by rw [cf_X5_layKnown_X6_add]; exact sc_X6_add hst hb) (by rw [cf_X5_layKnown_X8_inRing]; exact sc_X8_inRing hst hb) (by rw [cf_X5_layKnown_X8_knownLoad]; exact sc_X8_knownLoad hst hb)
theorem cf_X7_keepKnown_X6_at : ca_X7_keepKnown 36 = F_X6_at := by
  funext as m
  unfold ca_X7_keepKnown
  rw [show Nat.beq 36 36 = true from rfl, cond_true]
theorem sc_X7_keepKnown {b base : Nat} {Hb : Heap} {D : va_G} {cA : Nat → ClassId} {l : Launch} (hst : l.stackTraces = false) (hb : b < base) : sl_CC (sl_ad base b) base 331 Hb D cA sl_ln sl_rd sl_VS sl_MS sl_cS sl_sS l 0 yX7_keepKnown cX7_keepKnown 4 (sl_rt 0 "") 1 21 0 0 F_X7_keepKnown :=
  gc_X7_keepKnown (call := ca_X7_keepKnown) hst (sl_memS hb) sl_moS (by rw [cf_X7_keepKnown_X6_at]; exact sc_X6_at hst hb)
theorem cf_X7_hearKnown_X7_keepKnown : ca_X7_hearKnown 48 = F_X7_keepKnown := by
  funext as m
  unfold ca_X7_hearKnown
  rw [show Nat.ble 55 48 = false from rfl, cond_false, show Nat.ble 54 48 = false from rfl, cond_false, show Nat.beq 48 48 = true from rfl, cond_true]
theorem cf_X7_hearKnown_X8_eachByItself : ca_X7_hearKnown 54 = F_X8_eachByItself := by
  funext as m
  unfold ca_X7_hearKnown
  rw [show Nat.ble 55 54 = false from rfl, cond_false, show Nat.ble 54 54 = true from rfl, cond_true, show Nat.beq 54 54 = true from rfl, cond_true]
theorem cf_X7_hearKnown_X8_inRing : ca_X7_hearKnown 55 = F_X8_inRing := by
  funext as m
  unfold ca_X7_hearKnown
  rw [show Nat.ble 55 55 = true from rfl, cond_true, show Nat.ble 59 55 = false from rfl, cond_false, show Nat.beq 55 55 = true from rfl, cond_true]
theorem cf_X7_hearKnown_X9_add : ca_X7_hearKnown 59 = F_X9_add := by
  funext as m
  unfold ca_X7_hearKnown
  rw [show Nat.ble 55 59 = true from rfl, cond_true, show Nat.ble 59 59 = true from rfl, cond_true, show Nat.beq 59 59 = true from rfl, cond_true]
theorem sc_X7_hearKnown {b base : Nat} {Hb : Heap} {D : va_G} {cA : Nat → ClassId} {l : Launch} (hst : l.stackTraces = false) (hb : b < base) : sl_CC (sl_ad base b) base 331 Hb D cA sl_ln sl_rd sl_VS sl_MS sl_cS sl_sS l 0 yX7_hearKnown cX7_hearKnown 4 (sl_rt 0 "") 2 44 0 0 F_X7_hearKnown :=
  gc_X7_hearKnown (call := ca_X7_hearKnown) hst (sl_memS hb) sl_moS (by rw [cf_X7_hearKnown_X7_keepKnown]; exact sc_X7_keepKnown hst hb) (by rw [cf_X7_hearKnown_X8_eachByItself]; exact sc_X8_eachByItself hst hb) (by rw [cf_X7_hearKnown_X8_inRing]; exact sc_X8_inRing hst hb) (by rw [cf_X7_hearKnown_X9_add]; exact sc_X9_add hst hb)
theorem cf_X1_endBody_X1_loadOfBody : ca_X1_endBody 8 = F_X1_loadOfBody := by
  funext as m
  unfold ca_X1_endBody
  rw [show Nat.ble 29 8 = false from rfl, cond_false, show Nat.ble 9 8 = false from rfl, cond_false, show Nat.beq 8 8 = true from rfl, cond_true]
theorem cf_X1_endBody_X1_kindOfWrong : ca_X1_endBody 9 = F_X1_kindOfWrong := by
  funext as m
  unfold ca_X1_endBody
  rw [show Nat.ble 29 9 = false from rfl, cond_false, show Nat.ble 9 9 = true from rfl, cond_true, show Nat.ble 26 9 = false from rfl, cond_false, show Nat.beq 9 9 = true from rfl, cond_true]
theorem cf_X1_endBody_X5_hearData : ca_X1_endBody 26 = F_X5_hearData := by
  funext as m
  unfold ca_X1_endBody
  rw [show Nat.ble 29 26 = false from rfl, cond_false, show Nat.ble 9 26 = true from rfl, cond_true, show Nat.ble 26 26 = true from rfl, cond_true, show Nat.beq 26 26 = true from rfl, cond_true]
theorem cf_X1_endBody_X5_layKnown : ca_X1_endBody 29 = F_X5_layKnown := by
  funext as m
  unfold ca_X1_endBody
  rw [show Nat.ble 29 29 = true from rfl, cond_true, show Nat.ble 47 29 = false from rfl, cond_false, show Nat.ble 36 29 = false from rfl, cond_false, show Nat.beq 29 29 = true from rfl, cond_true]
theorem cf_X1_endBody_X6_at : ca_X1_endBody 36 = F_X6_at := by
  funext as m
  unfold ca_X1_endBody
  rw [show Nat.ble 29 36 = true from rfl, cond_true, show Nat.ble 47 36 = false from rfl, cond_false, show Nat.ble 36 36 = true from rfl, cond_true, show Nat.beq 36 36 = true from rfl, cond_true]
theorem cf_X1_endBody_X7_hearKnown : ca_X1_endBody 47 = F_X7_hearKnown := by
  funext as m
  unfold ca_X1_endBody
  rw [show Nat.ble 29 47 = true from rfl, cond_true, show Nat.ble 47 47 = true from rfl, cond_true, show Nat.ble 59 47 = false from rfl, cond_false, show Nat.beq 47 47 = true from rfl, cond_true]
theorem cf_X1_endBody_X9_add : ca_X1_endBody 59 = F_X9_add := by
  funext as m
  unfold ca_X1_endBody
  rw [show Nat.ble 29 59 = true from rfl, cond_true, show Nat.ble 47 59 = true from rfl, cond_true, show Nat.ble 59 59 = true from rfl, cond_true, show Nat.beq 59 59 = true from rfl, cond_true]
theorem sc_X1_endBody {b base : Nat} {Hb : Heap} {D : va_G} {cA : Nat → ClassId} {l : Launch} (hst : l.stackTraces = false) (hb : b < base) : sl_CC (sl_ad base b) base 331 Hb D cA sl_ln sl_rd sl_VS sl_MS sl_cS sl_sS l 0 yX1_endBody cX1_endBody 4 (sl_rt 0 "") 4 95 0 0 F_X1_endBody :=
  gc_X1_endBody (call := ca_X1_endBody) hst (sl_memS hb) sl_moS (by rw [cf_X1_endBody_X1_loadOfBody]; exact sc_X1_loadOfBody hst hb) (by rw [cf_X1_endBody_X1_kindOfWrong]; exact sc_X1_kindOfWrong hst hb) (by rw [cf_X1_endBody_X5_hearData]; exact sc_X5_hearData hst hb) (by rw [cf_X1_endBody_X5_layKnown]; exact sc_X5_layKnown hst hb) (by rw [cf_X1_endBody_X6_at]; exact sc_X6_at hst hb) (by rw [cf_X1_endBody_X7_hearKnown]; exact sc_X7_hearKnown hst hb) (by rw [cf_X1_endBody_X9_add]; exact sc_X9_add hst hb)
theorem cf_X1_hear_X1_forgetHeard : ca_X1_hear 5 = F_X1_forgetHeard := by
  funext as m
  unfold ca_X1_hear
  rw [show Nat.ble 7 5 = false from rfl, cond_false, show Nat.beq 5 5 = true from rfl, cond_true]
theorem cf_X1_hear_X1_endBody : ca_X1_hear 7 = F_X1_endBody := by
  funext as m
  unfold ca_X1_hear
  rw [show Nat.ble 7 7 = true from rfl, cond_true, show Nat.ble 37 7 = false from rfl, cond_false, show Nat.beq 7 7 = true from rfl, cond_true]
theorem cf_X1_hear_X6_add : ca_X1_hear 37 = F_X6_add := by
  funext as m
  unfold ca_X1_hear
  rw [show Nat.ble 7 37 = true from rfl, cond_true, show Nat.ble 37 37 = true from rfl, cond_true, show Nat.beq 37 37 = true from rfl, cond_true]
theorem sc_X1_hear {b base : Nat} {Hb : Heap} {D : va_G} {cA : Nat → ClassId} {l : Launch} (hst : l.stackTraces = false) (hb : b < base) : sl_CC (sl_ad base b) base 331 Hb D cA sl_ln sl_rd sl_VS sl_MS sl_cS sl_sS l 0 yX1_hear cX1_hear 3 (sl_rt 0 "") 5 118 0 0 F_X1_hear :=
  gc_X1_hear (call := ca_X1_hear) hst (sl_memS hb) sl_moS (by rw [cf_X1_hear_X1_forgetHeard]; exact sc_X1_forgetHeard hst hb) (by rw [cf_X1_hear_X1_endBody]; exact sc_X1_endBody hst hb) (by rw [cf_X1_hear_X6_add]; exact sc_X6_add hst hb)
theorem sc_X4_clear {b base : Nat} {Hb : Heap} {D : va_G} {cA : Nat → ClassId} {l : Launch} (hst : l.stackTraces = false) (hb : b < base) : sl_CC (sl_ad base b) base 331 Hb D cA sl_ln sl_rd sl_VS sl_MS sl_cS sl_sS l 0 yX4_clear cX4_clear 1 (sl_rt 0 "") 0 0 0 0 F_X4_clear :=
  gc_X4_clear (call := ca_X4_clear) hst (sl_memS hb) sl_moS 
theorem cf_X4_nth_X4_slot : ca_X4_nth 20 = F_X4_slot := by
  funext as m
  unfold ca_X4_nth
  rw [show Nat.beq 20 20 = true from rfl, cond_true]
theorem sc_X4_nth {b base : Nat} {Hb : Heap} {D : va_G} {cA : Nat → ClassId} {l : Launch} (hst : l.stackTraces = false) (hb : b < base) : sl_CC (sl_ad base b) base 331 Hb D cA sl_ln sl_rd sl_VS sl_MS sl_cS sl_sS l 0 yX4_nth cX4_nth 2 (sl_rt 3 "SerialLink$Frame") 2 44 3 2 F_X4_nth :=
  gc_X4_nth (call := ca_X4_nth) hst (sl_memS hb) sl_moS (by rw [cf_X4_nth_X4_slot]; exact sc_X4_slot hst hb)
theorem sc_X4_dropFirst {b base : Nat} {Hb : Heap} {D : va_G} {cA : Nat → ClassId} {l : Launch} (hst : l.stackTraces = false) (hb : b < base) : sl_CC (sl_ad base b) base 331 Hb D cA sl_ln sl_rd sl_VS sl_MS sl_cS sl_sS l 0 yX4_dropFirst cX4_dropFirst 1 (sl_rt 0 "") 0 0 0 0 F_X4_dropFirst :=
  gc_X4_dropFirst (call := ca_X4_dropFirst) hst (sl_memS hb) sl_moS 
theorem sc_X5_heldPieces {b base : Nat} {Hb : Heap} {D : va_G} {cA : Nat → ClassId} {l : Launch} (hst : l.stackTraces = false) (hb : b < base) : sl_CC (sl_ad base b) base 331 Hb D cA sl_ln sl_rd sl_VS sl_MS sl_cS sl_sS l 0 yX5_heldPieces cX5_heldPieces 3 (sl_rt 1 "") 0 0 1 0 F_X5_heldPieces :=
  gc_X5_heldPieces (call := ca_X5_heldPieces) hst (sl_memS hb) sl_moS 
theorem sc_J9_max_7cf53 {b base : Nat} {Hb : Heap} {D : va_G} {cA : Nat → ClassId} {l : Launch} (hst : l.stackTraces = false) (hb : b < base) : sl_CC (sl_ad base b) base 331 Hb D cA sl_ln sl_rd sl_VS sl_MS sl_cS sl_sS l 0 yJ9_max_7cf53 cJ9_max_7cf53 2 (sl_rt 1 "") 0 0 1 0 F_J9_max_7cf53 :=
  gc_J9_max_7cf53 (call := ca_J9_max_7cf53) hst (sl_memS hb) sl_moS 
theorem sc_J9_min_7cf53 {b base : Nat} {Hb : Heap} {D : va_G} {cA : Nat → ClassId} {l : Launch} (hst : l.stackTraces = false) (hb : b < base) : sl_CC (sl_ad base b) base 331 Hb D cA sl_ln sl_rd sl_VS sl_MS sl_cS sl_sS l 0 yJ9_min_7cf53 cJ9_min_7cf53 2 (sl_rt 1 "") 0 0 1 0 F_J9_min_7cf53 :=
  gc_J9_min_7cf53 (call := ca_J9_min_7cf53) hst (sl_memS hb) sl_moS 
theorem cf_X6_cutTo_J9_max_7cf53 : ca_X6_cutTo 135 = F_J9_max_7cf53 := by
  funext as m
  unfold ca_X6_cutTo
  rw [show Nat.ble 136 135 = false from rfl, cond_false, show Nat.beq 135 135 = true from rfl, cond_true]
theorem cf_X6_cutTo_J9_min_7cf53 : ca_X6_cutTo 136 = F_J9_min_7cf53 := by
  funext as m
  unfold ca_X6_cutTo
  rw [show Nat.ble 136 136 = true from rfl, cond_true, show Nat.beq 136 136 = true from rfl, cond_true]
theorem sc_X6_cutTo {b base : Nat} {Hb : Heap} {D : va_G} {cA : Nat → ClassId} {l : Launch} (hst : l.stackTraces = false) (hb : b < base) : sl_CC (sl_ad base b) base 331 Hb D cA sl_ln sl_rd sl_VS sl_MS sl_cS sl_sS l 0 yX6_cutTo cX6_cutTo 2 (sl_rt 0 "") 1 21 0 0 F_X6_cutTo :=
  gc_X6_cutTo (call := ca_X6_cutTo) hst (sl_memS hb) sl_moS (by rw [cf_X6_cutTo_J9_max_7cf53]; exact sc_J9_max_7cf53 hst hb) (by rw [cf_X6_cutTo_J9_min_7cf53]; exact sc_J9_min_7cf53 hst hb)
theorem cf_X7_layPiece_X4_startBody : ca_X7_layPiece 22 = F_X4_startBody := by
  funext as m
  unfold ca_X7_layPiece
  rw [show Nat.ble 39 22 = false from rfl, cond_false, show Nat.ble 23 22 = false from rfl, cond_false, show Nat.beq 22 22 = true from rfl, cond_true]
theorem cf_X7_layPiece_X4_lay : ca_X7_layPiece 23 = F_X4_lay := by
  funext as m
  unfold ca_X7_layPiece
  rw [show Nat.ble 39 23 = false from rfl, cond_false, show Nat.ble 23 23 = true from rfl, cond_true, show Nat.beq 23 23 = true from rfl, cond_true]
theorem cf_X7_layPiece_X6_addPart : ca_X7_layPiece 39 = F_X6_addPart := by
  funext as m
  unfold ca_X7_layPiece
  rw [show Nat.ble 39 39 = true from rfl, cond_true, show Nat.ble 55 39 = false from rfl, cond_false, show Nat.beq 39 39 = true from rfl, cond_true]
theorem cf_X7_layPiece_X8_inRing : ca_X7_layPiece 55 = F_X8_inRing := by
  funext as m
  unfold ca_X7_layPiece
  rw [show Nat.ble 39 55 = true from rfl, cond_true, show Nat.ble 55 55 = true from rfl, cond_true, show Nat.beq 55 55 = true from rfl, cond_true]
theorem sc_X7_layPiece {b base : Nat} {Hb : Heap} {D : va_G} {cA : Nat → ClassId} {l : Launch} (hst : l.stackTraces = false) (hb : b < base) : sl_CC (sl_ad base b) base 331 Hb D cA sl_ln sl_rd sl_VS sl_MS sl_cS sl_sS l 0 yX7_layPiece cX7_layPiece 5 (sl_rt 0 "") 3 72 0 0 F_X7_layPiece :=
  gc_X7_layPiece (call := ca_X7_layPiece) hst (sl_memS hb) sl_moS (by rw [cf_X7_layPiece_X4_startBody]; exact sc_X4_startBody hst hb) (by rw [cf_X7_layPiece_X4_lay]; exact sc_X4_lay hst hb) (by rw [cf_X7_layPiece_X6_addPart]; exact sc_X6_addPart hst hb) (by rw [cf_X7_layPiece_X8_inRing]; exact sc_X8_inRing hst hb)
theorem cf_X7_layAllIfLate_X7_layPiece : ca_X7_layAllIfLate 46 = F_X7_layPiece := by
  funext as m
  unfold ca_X7_layAllIfLate
  rw [show Nat.beq 46 46 = true from rfl, cond_true]
theorem sc_X7_layAllIfLate {b base : Nat} {Hb : Heap} {D : va_G} {cA : Nat → ClassId} {l : Launch} (hst : l.stackTraces = false) (hb : b < base) : sl_CC (sl_ad base b) base 331 Hb D cA sl_ln sl_rd sl_VS sl_MS sl_cS sl_sS l 0 yX7_layAllIfLate cX7_layAllIfLate 2 (sl_rt 1 "") 4 96 1 0 F_X7_layAllIfLate :=
  gc_X7_layAllIfLate (call := ca_X7_layAllIfLate) hst (sl_memS hb) sl_moS (by rw [cf_X7_layAllIfLate_X7_layPiece]; exact sc_X7_layPiece hst hb)
theorem cf_X7_layLateOnes_X7_layPiece : ca_X7_layLateOnes 46 = F_X7_layPiece := by
  funext as m
  unfold ca_X7_layLateOnes
  rw [show Nat.beq 46 46 = true from rfl, cond_true]
theorem sc_X7_layLateOnes {b base : Nat} {Hb : Heap} {D : va_G} {cA : Nat → ClassId} {l : Launch} (hst : l.stackTraces = false) (hb : b < base) : sl_CC (sl_ad base b) base 331 Hb D cA sl_ln sl_rd sl_VS sl_MS sl_cS sl_sS l 0 yX7_layLateOnes cX7_layLateOnes 4 (sl_rt 1 "") 4 96 1 0 F_X7_layLateOnes :=
  gc_X7_layLateOnes (call := ca_X7_layLateOnes) hst (sl_memS hb) sl_moS (by rw [cf_X7_layLateOnes_X7_layPiece]; exact sc_X7_layPiece hst hb)
theorem cf_X7_makePiece_X7_layPiece : ca_X7_makePiece 46 = F_X7_layPiece := by
  funext as m
  unfold ca_X7_makePiece
  rw [show Nat.ble 136 46 = false from rfl, cond_false, show Nat.beq 46 46 = true from rfl, cond_true]
theorem cf_X7_makePiece_J9_min_7cf53 : ca_X7_makePiece 136 = F_J9_min_7cf53 := by
  funext as m
  unfold ca_X7_makePiece
  rw [show Nat.ble 136 136 = true from rfl, cond_true, show Nat.beq 136 136 = true from rfl, cond_true]
theorem sc_X7_makePiece {b base : Nat} {Hb : Heap} {D : va_G} {cA : Nat → ClassId} {l : Launch} (hst : l.stackTraces = false) (hb : b < base) : sl_CC (sl_ad base b) base 331 Hb D cA sl_ln sl_rd sl_VS sl_MS sl_cS sl_sS l 0 yX7_makePiece cX7_makePiece 2 (sl_rt 0 "") 4 96 0 0 F_X7_makePiece :=
  gc_X7_makePiece (call := ca_X7_makePiece) hst (sl_memS hb) sl_moS (by rw [cf_X7_makePiece_X7_layPiece]; exact sc_X7_layPiece hst hb) (by rw [cf_X7_makePiece_J9_min_7cf53]; exact sc_J9_min_7cf53 hst hb)
theorem cf_X7_passTick_X7_layAllIfLate : ca_X7_passTick 43 = F_X7_layAllIfLate := by
  funext as m
  unfold ca_X7_passTick
  rw [show Nat.ble 45 43 = false from rfl, cond_false, show Nat.ble 44 43 = false from rfl, cond_false, show Nat.beq 43 43 = true from rfl, cond_true]
theorem cf_X7_passTick_X7_layLateOnes : ca_X7_passTick 44 = F_X7_layLateOnes := by
  funext as m
  unfold ca_X7_passTick
  rw [show Nat.ble 45 44 = false from rfl, cond_false, show Nat.ble 44 44 = true from rfl, cond_true, show Nat.beq 44 44 = true from rfl, cond_true]
theorem cf_X7_passTick_X7_makePiece : ca_X7_passTick 45 = F_X7_makePiece := by
  funext as m
  unfold ca_X7_passTick
  rw [show Nat.ble 45 45 = true from rfl, cond_true, show Nat.ble 54 45 = false from rfl, cond_false, show Nat.beq 45 45 = true from rfl, cond_true]
theorem cf_X7_passTick_X8_eachByItself : ca_X7_passTick 54 = F_X8_eachByItself := by
  funext as m
  unfold ca_X7_passTick
  rw [show Nat.ble 45 54 = true from rfl, cond_true, show Nat.ble 54 54 = true from rfl, cond_true, show Nat.beq 54 54 = true from rfl, cond_true]
theorem sc_X7_passTick {b base : Nat} {Hb : Heap} {D : va_G} {cA : Nat → ClassId} {l : Launch} (hst : l.stackTraces = false) (hb : b < base) : sl_CC (sl_ad base b) base 331 Hb D cA sl_ln sl_rd sl_VS sl_MS sl_cS sl_sS l 0 yX7_passTick cX7_passTick 3 (sl_rt 1 "") 5 119 1 0 F_X7_passTick :=
  gc_X7_passTick (call := ca_X7_passTick) hst (sl_memS hb) sl_moS (by rw [cf_X7_passTick_X7_layAllIfLate]; exact sc_X7_layAllIfLate hst hb) (by rw [cf_X7_passTick_X7_layLateOnes]; exact sc_X7_layLateOnes hst hb) (by rw [cf_X7_passTick_X7_makePiece]; exact sc_X7_makePiece hst hb) (by rw [cf_X7_passTick_X8_eachByItself]; exact sc_X8_eachByItself hst hb)
theorem sc_X7_keptPieces {b base : Nat} {Hb : Heap} {D : va_G} {cA : Nat → ClassId} {l : Launch} (hst : l.stackTraces = false) (hb : b < base) : sl_CC (sl_ad base b) base 331 Hb D cA sl_ln sl_rd sl_VS sl_MS sl_cS sl_sS l 0 yX7_keptPieces cX7_keptPieces 3 (sl_rt 1 "") 0 0 1 0 F_X7_keptPieces :=
  gc_X7_keptPieces (call := ca_X7_keptPieces) hst (sl_memS hb) sl_moS 
theorem sc_X8_widestWindow {b base : Nat} {Hb : Heap} {D : va_G} {cA : Nat → ClassId} {l : Launch} (hst : l.stackTraces = false) (hb : b < base) : sl_CC (sl_ad base b) base 331 Hb D cA sl_ln sl_rd sl_VS sl_MS sl_cS sl_sS l 0 yX8_widestWindow cX8_widestWindow 2 (sl_rt 1 "") 0 0 1 0 F_X8_widestWindow :=
  gc_X8_widestWindow (call := ca_X8_widestWindow) hst (sl_memS hb) sl_moS 
theorem cf_X8_canBe_X8_widestWindow : ca_X8_canBe 52 = F_X8_widestWindow := by
  funext as m
  unfold ca_X8_canBe
  rw [show Nat.beq 52 52 = true from rfl, cond_true]
theorem sc_X8_canBe {b base : Nat} {Hb : Heap} {D : va_G} {cA : Nat → ClassId} {l : Launch} (hst : l.stackTraces = false) (hb : b < base) : sl_CC (sl_ad base b) base 331 Hb D cA sl_ln sl_rd sl_VS sl_MS sl_cS sl_sS l 0 yX8_canBe cX8_canBe 5 (sl_rt 2 "") 1 21 1 0 F_X8_canBe :=
  gc_X8_canBe (call := ca_X8_canBe) hst (sl_memS hb) sl_moS (by rw [cf_X8_canBe_X8_widestWindow]; exact sc_X8_widestWindow hst hb)
theorem sc_X8_choose {b base : Nat} {Hb : Heap} {D : va_G} {cA : Nat → ClassId} {l : Launch} (hst : l.stackTraces = false) (hb : b < base) : sl_CC (sl_ad base b) base 331 Hb D cA sl_ln sl_rd sl_VS sl_MS sl_cS sl_sS l 0 yX8_choose cX8_choose 6 (sl_rt 0 "") 0 0 0 0 F_X8_choose :=
  gc_X8_choose (call := ca_X8_choose) hst (sl_memS hb) sl_moS 
theorem cf_X9_clear_J7_fill_53178 : ca_X9_clear 137 = F_J7_fill_53178 := by
  funext as m
  unfold ca_X9_clear
  rw [show Nat.beq 137 137 = true from rfl, cond_true]
theorem sc_X9_clear {b base : Nat} {Hb : Heap} {D : va_G} {cA : Nat → ClassId} {l : Launch} (hst : l.stackTraces = false) (hb : b < base) : sl_CC (sl_ad base b) base 331 Hb D cA sl_ln sl_rd sl_VS sl_MS sl_cS sl_sS l 0 yX9_clear cX9_clear 1 (sl_rt 0 "") 1 23 0 0 F_X9_clear :=
  gc_X9_clear (call := ca_X9_clear) hst (sl_memS hb) sl_moS (by rw [cf_X9_clear_J7_fill_53178]; exact sc_J7_fill_53178 hst hb)
theorem sc_X9_of {b base : Nat} {Hb : Heap} {D : va_G} {cA : Nat → ClassId} {l : Launch} (hst : l.stackTraces = false) (hb : b < base) : sl_CC (sl_ad base b) base 331 Hb D cA sl_ln sl_rd sl_VS sl_MS sl_cS sl_sS l 0 yX9_of cX9_of 2 (sl_rt 1 "") 0 0 1 0 F_X9_of :=
  gc_X9_of (call := ca_X9_of) hst (sl_memS hb) sl_moS 
theorem cf_X10_open_X1_clear : ca_X10_open 4 = F_X1_clear := by
  funext as m
  unfold ca_X10_open
  rw [show Nat.ble 51 4 = false from rfl, cond_false, show Nat.ble 14 4 = false from rfl, cond_false, show Nat.beq 4 4 = true from rfl, cond_true]
theorem cf_X10_open_X3_clear : ca_X10_open 14 = F_X3_clear := by
  funext as m
  unfold ca_X10_open
  rw [show Nat.ble 51 14 = false from rfl, cond_false, show Nat.ble 14 14 = true from rfl, cond_true, show Nat.ble 18 14 = false from rfl, cond_false, show Nat.beq 14 14 = true from rfl, cond_true]
theorem cf_X10_open_X4_clear : ca_X10_open 18 = F_X4_clear := by
  funext as m
  unfold ca_X10_open
  rw [show Nat.ble 51 18 = false from rfl, cond_false, show Nat.ble 14 18 = true from rfl, cond_true, show Nat.ble 18 18 = true from rfl, cond_true, show Nat.beq 18 18 = true from rfl, cond_true]
theorem cf_X10_open_X8_canBe : ca_X10_open 51 = F_X8_canBe := by
  funext as m
  unfold ca_X10_open
  rw [show Nat.ble 51 51 = true from rfl, cond_true, show Nat.ble 53 51 = false from rfl, cond_false, show Nat.beq 51 51 = true from rfl, cond_true]
theorem cf_X10_open_X8_choose : ca_X10_open 53 = F_X8_choose := by
  funext as m
  unfold ca_X10_open
  rw [show Nat.ble 51 53 = true from rfl, cond_true, show Nat.ble 53 53 = true from rfl, cond_true, show Nat.ble 58 53 = false from rfl, cond_false, show Nat.beq 53 53 = true from rfl, cond_true]
theorem cf_X10_open_X9_clear : ca_X10_open 58 = F_X9_clear := by
  funext as m
  unfold ca_X10_open
  rw [show Nat.ble 51 58 = true from rfl, cond_true, show Nat.ble 53 58 = true from rfl, cond_true, show Nat.ble 58 58 = true from rfl, cond_true, show Nat.beq 58 58 = true from rfl, cond_true]
theorem sc_X10_open {b base : Nat} {Hb : Heap} {D : va_G} {cA : Nat → ClassId} {l : Launch} (hst : l.stackTraces = false) (hb : b < base) : sl_CC (sl_ad base b) base 331 Hb D cA sl_ln sl_rd sl_VS sl_MS sl_cS sl_sS l 0 yX10_open cX10_open 6 (sl_rt 2 "") 3 63 1 0 F_X10_open :=
  gc_X10_open (call := ca_X10_open) hst (sl_memS hb) sl_moS (by rw [cf_X10_open_X1_clear]; exact sc_X1_clear hst hb) (by rw [cf_X10_open_X3_clear]; exact sc_X3_clear hst hb) (by rw [cf_X10_open_X4_clear]; exact sc_X4_clear hst hb) (by rw [cf_X10_open_X8_canBe]; exact sc_X8_canBe hst hb) (by rw [cf_X10_open_X8_choose]; exact sc_X8_choose hst hb) (by rw [cf_X10_open_X9_clear]; exact sc_X9_clear hst hb)
theorem cf_X10_feedNumber_X6_add : ca_X10_feedNumber 37 = F_X6_add := by
  funext as m
  unfold ca_X10_feedNumber
  rw [show Nat.beq 37 37 = true from rfl, cond_true]
theorem sc_X10_feedNumber {b base : Nat} {Hb : Heap} {D : va_G} {cA : Nat → ClassId} {l : Launch} (hst : l.stackTraces = false) (hb : b < base) : sl_CC (sl_ad base b) base 331 Hb D cA sl_ln sl_rd sl_VS sl_MS sl_cS sl_sS l 0 yX10_feedNumber cX10_feedNumber 3 (sl_rt 0 "") 1 21 0 0 F_X10_feedNumber :=
  gc_X10_feedNumber (call := ca_X10_feedNumber) hst (sl_memS hb) sl_moS (by rw [cf_X10_feedNumber_X6_add]; exact sc_X6_add hst hb)
theorem cf_X10_feed_X6_hasRoom : ca_X10_feed 35 = F_X6_hasRoom := by
  funext as m
  unfold ca_X10_feed
  rw [show Nat.ble 64 35 = false from rfl, cond_false, show Nat.beq 35 35 = true from rfl, cond_true]
theorem cf_X10_feed_X10_feedNumber : ca_X10_feed 64 = F_X10_feedNumber := by
  funext as m
  unfold ca_X10_feed
  rw [show Nat.ble 64 64 = true from rfl, cond_true, show Nat.beq 64 64 = true from rfl, cond_true]
theorem sc_X10_feed {b base : Nat} {Hb : Heap} {D : va_G} {cA : Nat → ClassId} {l : Launch} (hst : l.stackTraces = false) (hb : b < base) : sl_CC (sl_ad base b) base 331 Hb D cA sl_ln sl_rd sl_VS sl_MS sl_cS sl_sS l 0 yX10_feed cX10_feed 6 (sl_rt 1 "") 2 43 1 0 F_X10_feed :=
  gc_X10_feed (call := ca_X10_feed) hst (sl_memS hb) sl_moS (by rw [cf_X10_feed_X6_hasRoom]; exact sc_X6_hasRoom hst hb) (by rw [cf_X10_feed_X10_feedNumber]; exact sc_X10_feedNumber hst hb)
theorem cf_X10_cut_X6_cutTo : ca_X10_cut 34 = F_X6_cutTo := by
  funext as m
  unfold ca_X10_cut
  rw [show Nat.beq 34 34 = true from rfl, cond_true]
theorem sc_X10_cut {b base : Nat} {Hb : Heap} {D : va_G} {cA : Nat → ClassId} {l : Launch} (hst : l.stackTraces = false) (hb : b < base) : sl_CC (sl_ad base b) base 331 Hb D cA sl_ln sl_rd sl_VS sl_MS sl_cS sl_sS l 0 yX10_cut cX10_cut 2 (sl_rt 2 "") 2 42 1 0 F_X10_cut :=
  gc_X10_cut (call := ca_X10_cut) hst (sl_memS hb) sl_moS (by rw [cf_X10_cut_X6_cutTo]; exact sc_X6_cutTo hst hb)
theorem cf_X10_take_X6_clear : ca_X10_take 33 = F_X6_clear := by
  funext as m
  unfold ca_X10_take
  rw [show Nat.ble 39 33 = false from rfl, cond_false, show Nat.beq 33 33 = true from rfl, cond_true]
theorem cf_X10_take_X6_addPart : ca_X10_take 39 = F_X6_addPart := by
  funext as m
  unfold ca_X10_take
  rw [show Nat.ble 39 39 = true from rfl, cond_true, show Nat.ble 136 39 = false from rfl, cond_false, show Nat.beq 39 39 = true from rfl, cond_true]
theorem cf_X10_take_J9_min_7cf53 : ca_X10_take 136 = F_J9_min_7cf53 := by
  funext as m
  unfold ca_X10_take
  rw [show Nat.ble 39 136 = true from rfl, cond_true, show Nat.ble 136 136 = true from rfl, cond_true, show Nat.beq 136 136 = true from rfl, cond_true]
theorem sc_X10_take {b base : Nat} {Hb : Heap} {D : va_G} {cA : Nat → ClassId} {l : Launch} (hst : l.stackTraces = false) (hb : b < base) : sl_CC (sl_ad base b) base 331 Hb D cA sl_ln sl_rd sl_VS sl_MS sl_cS sl_sS l 0 yX10_take cX10_take 1 (sl_rt 1 "") 2 45 1 0 F_X10_take :=
  gc_X10_take (call := ca_X10_take) hst (sl_memS hb) sl_moS (by rw [cf_X10_take_X6_clear]; exact sc_X6_clear hst hb) (by rw [cf_X10_take_X6_addPart]; exact sc_X6_addPart hst hb) (by rw [cf_X10_take_J9_min_7cf53]; exact sc_J9_min_7cf53 hst hb)
theorem sc_X10_endAt {b base : Nat} {Hb : Heap} {D : va_G} {cA : Nat → ClassId} {l : Launch} (hst : l.stackTraces = false) (hb : b < base) : sl_CC (sl_ad base b) base 331 Hb D cA sl_ln sl_rd sl_VS sl_MS sl_cS sl_sS l 1 yX10_endAt cX10_endAt 2 (sl_rt 3 "SerialLink$End") 6 82 2 1 F_X10_endAt :=
  gc_X10_endAt (call := ca_X10_endAt) hst (sl_memS hb) sl_moS (fun _ => Nat.le_refl _) 
theorem cf_X10_give_X6_clear : ca_X10_give 33 = F_X6_clear := by
  funext as m
  unfold ca_X10_give
  rw [show Nat.ble 39 33 = false from rfl, cond_false, show Nat.ble 35 33 = false from rfl, cond_false, show Nat.beq 33 33 = true from rfl, cond_true]
theorem cf_X10_give_X6_hasRoom : ca_X10_give 35 = F_X6_hasRoom := by
  funext as m
  unfold ca_X10_give
  rw [show Nat.ble 39 35 = false from rfl, cond_false, show Nat.ble 35 35 = true from rfl, cond_true, show Nat.beq 35 35 = true from rfl, cond_true]
theorem cf_X10_give_X6_addPart : ca_X10_give 39 = F_X6_addPart := by
  funext as m
  unfold ca_X10_give
  rw [show Nat.ble 39 39 = true from rfl, cond_true, show Nat.ble 86 39 = false from rfl, cond_false, show Nat.beq 39 39 = true from rfl, cond_true]
theorem cf_X10_give_X10_endAt : ca_X10_give 86 = F_X10_endAt := by
  funext as m
  unfold ca_X10_give
  rw [show Nat.ble 39 86 = true from rfl, cond_true, show Nat.ble 86 86 = true from rfl, cond_true, show Nat.beq 86 86 = true from rfl, cond_true]
theorem sc_X10_give {b base : Nat} {Hb : Heap} {D : va_G} {cA : Nat → ClassId} {l : Launch} (hst : l.stackTraces = false) (hb : b < base) : sl_CC (sl_ad base b) base 331 Hb D cA sl_ln sl_rd sl_VS sl_MS sl_cS sl_sS l 1 yX10_give cX10_give 3 (sl_rt 1 "") 7 103 1 0 F_X10_give :=
  gc_X10_give (call := ca_X10_give) hst (sl_memS hb) sl_moS (fun _ => Nat.le_refl _) (by rw [cf_X10_give_X6_clear]; exact sc_X6_clear hst hb) (by rw [cf_X10_give_X6_hasRoom]; exact sc_X6_hasRoom hst hb) (by rw [cf_X10_give_X6_addPart]; exact sc_X6_addPart hst hb) (by rw [cf_X10_give_X10_endAt]; exact sc_X10_endAt hst hb)
theorem cf_X10_tickBoth_X7_passTick : ca_X10_tickBoth 42 = F_X7_passTick := by
  funext as m
  unfold ca_X10_tickBoth
  rw [show Nat.ble 59 42 = false from rfl, cond_false, show Nat.beq 42 42 = true from rfl, cond_true]
theorem cf_X10_tickBoth_X9_add : ca_X10_tickBoth 59 = F_X9_add := by
  funext as m
  unfold ca_X10_tickBoth
  rw [show Nat.ble 59 59 = true from rfl, cond_true, show Nat.beq 59 59 = true from rfl, cond_true]
theorem sc_X10_tickBoth {b base : Nat} {Hb : Heap} {D : va_G} {cA : Nat → ClassId} {l : Launch} (hst : l.stackTraces = false) (hb : b < base) : sl_CC (sl_ad base b) base 331 Hb D cA sl_ln sl_rd sl_VS sl_MS sl_cS sl_sS l 0 yX10_tickBoth cX10_tickBoth 2 (sl_rt 1 "") 6 141 1 0 F_X10_tickBoth :=
  gc_X10_tickBoth (call := ca_X10_tickBoth) hst (sl_memS hb) sl_moS (by rw [cf_X10_tickBoth_X7_passTick]; exact sc_X7_passTick hst hb) (by rw [cf_X10_tickBoth_X9_add]; exact sc_X9_add hst hb)
theorem cf_X10_tick_X10_tickBoth : ca_X10_tick 69 = F_X10_tickBoth := by
  funext as m
  unfold ca_X10_tick
  rw [show Nat.beq 69 69 = true from rfl, cond_true]
theorem sc_X10_tick {b base : Nat} {Hb : Heap} {D : va_G} {cA : Nat → ClassId} {l : Launch} (hst : l.stackTraces = false) (hb : b < base) : sl_CC (sl_ad base b) base 331 Hb D cA sl_ln sl_rd sl_VS sl_MS sl_cS sl_sS l 0 yX10_tick cX10_tick 1 (sl_rt 1 "") 7 162 1 0 F_X10_tick :=
  gc_X10_tick (call := ca_X10_tick) hst (sl_memS hb) sl_moS (by rw [cf_X10_tick_X10_tickBoth]; exact sc_X10_tickBoth hst hb)
theorem sc_X10_canCarry {b base : Nat} {Hb : Heap} {D : va_G} {cA : Nat → ClassId} {l : Launch} (hst : l.stackTraces = false) (hb : b < base) : sl_CC (sl_ad base b) base 331 Hb D cA sl_ln sl_rd sl_VS sl_MS sl_cS sl_sS l 0 yX10_canCarry cX10_canCarry 3 (sl_rt 2 "") 0 0 1 0 F_X10_canCarry :=
  gc_X10_canCarry (call := ca_X10_canCarry) hst (sl_memS hb) sl_moS 
theorem cf_X10_bring_X1_hear : ca_X10_bring 6 = F_X1_hear := by
  funext as m
  unfold ca_X10_bring
  rw [show Nat.ble 36 6 = false from rfl, cond_false, show Nat.beq 6 6 = true from rfl, cond_true]
theorem cf_X10_bring_X6_at : ca_X10_bring 36 = F_X6_at := by
  funext as m
  unfold ca_X10_bring
  rw [show Nat.ble 36 36 = true from rfl, cond_true, show Nat.beq 36 36 = true from rfl, cond_true]
theorem sc_X10_bring {b base : Nat} {Hb : Heap} {D : va_G} {cA : Nat → ClassId} {l : Launch} (hst : l.stackTraces = false) (hb : b < base) : sl_CC (sl_ad base b) base 331 Hb D cA sl_ln sl_rd sl_VS sl_MS sl_cS sl_sS l 0 yX10_bring cX10_bring 8 (sl_rt 0 "") 6 140 0 0 F_X10_bring :=
  gc_X10_bring (call := ca_X10_bring) hst (sl_memS hb) sl_moS (by rw [cf_X10_bring_X1_hear]; exact sc_X1_hear hst hb) (by rw [cf_X10_bring_X6_at]; exact sc_X6_at hst hb)
theorem sc_X10_laneAt {b base : Nat} {Hb : Heap} {D : va_G} {cA : Nat → ClassId} {l : Launch} (hst : l.stackTraces = false) (hb : b < base) : sl_CC (sl_ad base b) base 331 Hb D cA sl_ln sl_rd sl_VS sl_MS sl_cS sl_sS l 1 yX10_laneAt cX10_laneAt 2 (sl_rt 3 "SerialLink$Lane") 6 82 2 4 F_X10_laneAt :=
  gc_X10_laneAt (call := ca_X10_laneAt) hst (sl_memS hb) sl_moS (fun _ => Nat.le_refl _) 
theorem sc_X10_hearerOf {b base : Nat} {Hb : Heap} {D : va_G} {cA : Nat → ClassId} {l : Launch} (hst : l.stackTraces = false) (hb : b < base) : sl_CC (sl_ad base b) base 331 Hb D cA sl_ln sl_rd sl_VS sl_MS sl_cS sl_sS l 0 yX10_hearerOf cX10_hearerOf 2 (sl_rt 3 "SerialLink$End") 0 0 2 1 F_X10_hearerOf :=
  gc_X10_hearerOf (call := ca_X10_hearerOf) hst (sl_memS hb) sl_moS 
theorem cf_X10_carry_X1_hear : ca_X10_carry 6 = F_X1_hear := by
  funext as m
  unfold ca_X10_carry
  rw [show Nat.ble 71 6 = false from rfl, cond_false, show Nat.ble 21 6 = false from rfl, cond_false, show Nat.ble 19 6 = false from rfl, cond_false, show Nat.beq 6 6 = true from rfl, cond_true]
theorem cf_X10_carry_X4_nth : ca_X10_carry 19 = F_X4_nth := by
  funext as m
  unfold ca_X10_carry
  rw [show Nat.ble 71 19 = false from rfl, cond_false, show Nat.ble 21 19 = false from rfl, cond_false, show Nat.ble 19 19 = true from rfl, cond_true, show Nat.beq 19 19 = true from rfl, cond_true]
theorem cf_X10_carry_X4_dropFirst : ca_X10_carry 21 = F_X4_dropFirst := by
  funext as m
  unfold ca_X10_carry
  rw [show Nat.ble 71 21 = false from rfl, cond_false, show Nat.ble 21 21 = true from rfl, cond_true, show Nat.ble 59 21 = false from rfl, cond_false, show Nat.beq 21 21 = true from rfl, cond_true]
theorem cf_X10_carry_X9_add : ca_X10_carry 59 = F_X9_add := by
  funext as m
  unfold ca_X10_carry
  rw [show Nat.ble 71 59 = false from rfl, cond_false, show Nat.ble 21 59 = true from rfl, cond_true, show Nat.ble 59 59 = true from rfl, cond_true, show Nat.beq 59 59 = true from rfl, cond_true]
theorem cf_X10_carry_X10_canCarry : ca_X10_carry 71 = F_X10_canCarry := by
  funext as m
  unfold ca_X10_carry
  rw [show Nat.ble 71 71 = true from rfl, cond_true, show Nat.ble 87 71 = false from rfl, cond_false, show Nat.ble 72 71 = false from rfl, cond_false, show Nat.beq 71 71 = true from rfl, cond_true]
theorem cf_X10_carry_X10_bring : ca_X10_carry 72 = F_X10_bring := by
  funext as m
  unfold ca_X10_carry
  rw [show Nat.ble 71 72 = true from rfl, cond_true, show Nat.ble 87 72 = false from rfl, cond_false, show Nat.ble 72 72 = true from rfl, cond_true, show Nat.beq 72 72 = true from rfl, cond_true]
theorem cf_X10_carry_X10_laneAt : ca_X10_carry 87 = F_X10_laneAt := by
  funext as m
  unfold ca_X10_carry
  rw [show Nat.ble 71 87 = true from rfl, cond_true, show Nat.ble 87 87 = true from rfl, cond_true, show Nat.ble 88 87 = false from rfl, cond_false, show Nat.beq 87 87 = true from rfl, cond_true]
theorem cf_X10_carry_X10_hearerOf : ca_X10_carry 88 = F_X10_hearerOf := by
  funext as m
  unfold ca_X10_carry
  rw [show Nat.ble 71 88 = true from rfl, cond_true, show Nat.ble 87 88 = true from rfl, cond_true, show Nat.ble 88 88 = true from rfl, cond_true, show Nat.beq 88 88 = true from rfl, cond_true]
theorem sc_X10_carry {b base : Nat} {Hb : Heap} {D : va_G} {cA : Nat → ClassId} {l : Launch} (hst : l.stackTraces = false) (hb : b < base) : sl_CC (sl_ad base b) base 331 Hb D cA sl_ln sl_rd sl_VS sl_MS sl_cS sl_sS l 1 yX10_carry cX10_carry 7 (sl_rt 1 "") 7 167 1 0 F_X10_carry :=
  gc_X10_carry (call := ca_X10_carry) hst (sl_memS hb) sl_moS (fun _ => Nat.le_refl _) (by rw [cf_X10_carry_X1_hear]; exact sc_X1_hear hst hb) (by rw [cf_X10_carry_X4_nth]; exact sc_X4_nth hst hb) (by rw [cf_X10_carry_X4_dropFirst]; exact sc_X4_dropFirst hst hb) (by rw [cf_X10_carry_X9_add]; exact sc_X9_add hst hb) (by rw [cf_X10_carry_X10_canCarry]; exact sc_X10_canCarry hst hb) (by rw [cf_X10_carry_X10_bring]; exact sc_X10_bring hst hb) (by rw [cf_X10_carry_X10_laneAt]; exact sc_X10_laneAt hst hb) (by rw [cf_X10_carry_X10_hearerOf]; exact sc_X10_hearerOf hst hb)
theorem cf_X10_round_X4_nth : ca_X10_round 19 = F_X4_nth := by
  funext as m
  unfold ca_X10_round
  rw [show Nat.ble 72 19 = false from rfl, cond_false, show Nat.ble 21 19 = false from rfl, cond_false, show Nat.beq 19 19 = true from rfl, cond_true]
theorem cf_X10_round_X4_dropFirst : ca_X10_round 21 = F_X4_dropFirst := by
  funext as m
  unfold ca_X10_round
  rw [show Nat.ble 72 21 = false from rfl, cond_false, show Nat.ble 21 21 = true from rfl, cond_true, show Nat.ble 69 21 = false from rfl, cond_false, show Nat.beq 21 21 = true from rfl, cond_true]
theorem cf_X10_round_X10_tickBoth : ca_X10_round 69 = F_X10_tickBoth := by
  funext as m
  unfold ca_X10_round
  rw [show Nat.ble 72 69 = false from rfl, cond_false, show Nat.ble 21 69 = true from rfl, cond_true, show Nat.ble 69 69 = true from rfl, cond_true, show Nat.beq 69 69 = true from rfl, cond_true]
theorem cf_X10_round_X10_bring : ca_X10_round 72 = F_X10_bring := by
  funext as m
  unfold ca_X10_round
  rw [show Nat.ble 72 72 = true from rfl, cond_true, show Nat.ble 87 72 = false from rfl, cond_false, show Nat.beq 72 72 = true from rfl, cond_true]
theorem cf_X10_round_X10_laneAt : ca_X10_round 87 = F_X10_laneAt := by
  funext as m
  unfold ca_X10_round
  rw [show Nat.ble 72 87 = true from rfl, cond_true, show Nat.ble 87 87 = true from rfl, cond_true, show Nat.ble 88 87 = false from rfl, cond_false, show Nat.beq 87 87 = true from rfl, cond_true]
theorem cf_X10_round_X10_hearerOf : ca_X10_round 88 = F_X10_hearerOf := by
  funext as m
  unfold ca_X10_round
  rw [show Nat.ble 72 88 = true from rfl, cond_true, show Nat.ble 87 88 = true from rfl, cond_true, show Nat.ble 88 88 = true from rfl, cond_true, show Nat.beq 88 88 = true from rfl, cond_true]
theorem sc_X10_round {b base : Nat} {Hb : Heap} {D : va_G} {cA : Nat → ClassId} {l : Launch} (hst : l.stackTraces = false) (hb : b < base) : sl_CC (sl_ad base b) base 331 Hb D cA sl_ln sl_rd sl_VS sl_MS sl_cS sl_sS l 1 yX10_round cX10_round 6 (sl_rt 1 "") 7 167 1 0 F_X10_round :=
  gc_X10_round (call := ca_X10_round) hst (sl_memS hb) sl_moS (fun _ => Nat.le_refl _) (by rw [cf_X10_round_X4_nth]; exact sc_X4_nth hst hb) (by rw [cf_X10_round_X4_dropFirst]; exact sc_X4_dropFirst hst hb) (by rw [cf_X10_round_X10_tickBoth]; exact sc_X10_tickBoth hst hb) (by rw [cf_X10_round_X10_bring]; exact sc_X10_bring hst hb) (by rw [cf_X10_round_X10_laneAt]; exact sc_X10_laneAt hst hb) (by rw [cf_X10_round_X10_hearerOf]; exact sc_X10_hearerOf hst hb)
theorem cf_X10_noise_X1_hear : ca_X10_noise 6 = F_X1_hear := by
  funext as m
  unfold ca_X10_noise
  rw [show Nat.ble 86 6 = false from rfl, cond_false, show Nat.beq 6 6 = true from rfl, cond_true]
theorem cf_X10_noise_X10_endAt : ca_X10_noise 86 = F_X10_endAt := by
  funext as m
  unfold ca_X10_noise
  rw [show Nat.ble 86 86 = true from rfl, cond_true, show Nat.beq 86 86 = true from rfl, cond_true]
theorem sc_X10_noise {b base : Nat} {Hb : Heap} {D : va_G} {cA : Nat → ClassId} {l : Launch} (hst : l.stackTraces = false) (hb : b < base) : sl_CC (sl_ad base b) base 331 Hb D cA sl_ln sl_rd sl_VS sl_MS sl_cS sl_sS l 1 yX10_noise cX10_noise 6 (sl_rt 1 "") 7 140 1 0 F_X10_noise :=
  gc_X10_noise (call := ca_X10_noise) hst (sl_memS hb) sl_moS (fun _ => Nat.le_refl _) (by rw [cf_X10_noise_X1_hear]; exact sc_X1_hear hst hb) (by rw [cf_X10_noise_X10_endAt]; exact sc_X10_endAt hst hb)
theorem cf_X10_frame_X4_nth : ca_X10_frame 19 = F_X4_nth := by
  funext as m
  unfold ca_X10_frame
  rw [show Nat.ble 87 19 = false from rfl, cond_false, show Nat.beq 19 19 = true from rfl, cond_true]
theorem cf_X10_frame_X10_laneAt : ca_X10_frame 87 = F_X10_laneAt := by
  funext as m
  unfold ca_X10_frame
  rw [show Nat.ble 87 87 = true from rfl, cond_true, show Nat.beq 87 87 = true from rfl, cond_true]
theorem sc_X10_frame {b base : Nat} {Hb : Heap} {D : va_G} {cA : Nat → ClassId} {l : Launch} (hst : l.stackTraces = false) (hb : b < base) : sl_CC (sl_ad base b) base 331 Hb D cA sl_ln sl_rd sl_VS sl_MS sl_cS sl_sS l 1 yX10_frame cX10_frame 5 (sl_rt 1 "") 7 103 1 0 F_X10_frame :=
  gc_X10_frame (call := ca_X10_frame) hst (sl_memS hb) sl_moS (fun _ => Nat.le_refl _) (by rw [cf_X10_frame_X4_nth]; exact sc_X4_nth hst hb) (by rw [cf_X10_frame_X10_laneAt]; exact sc_X10_laneAt hst hb)
theorem cf_X10_octet_X4_nth : ca_X10_octet 19 = F_X4_nth := by
  funext as m
  unfold ca_X10_octet
  rw [show Nat.ble 36 19 = false from rfl, cond_false, show Nat.beq 19 19 = true from rfl, cond_true]
theorem cf_X10_octet_X6_at : ca_X10_octet 36 = F_X6_at := by
  funext as m
  unfold ca_X10_octet
  rw [show Nat.ble 36 36 = true from rfl, cond_true, show Nat.ble 87 36 = false from rfl, cond_false, show Nat.beq 36 36 = true from rfl, cond_true]
theorem cf_X10_octet_X10_laneAt : ca_X10_octet 87 = F_X10_laneAt := by
  funext as m
  unfold ca_X10_octet
  rw [show Nat.ble 36 87 = true from rfl, cond_true, show Nat.ble 87 87 = true from rfl, cond_true, show Nat.beq 87 87 = true from rfl, cond_true]
theorem sc_X10_octet {b base : Nat} {Hb : Heap} {D : va_G} {cA : Nat → ClassId} {l : Launch} (hst : l.stackTraces = false) (hb : b < base) : sl_CC (sl_ad base b) base 331 Hb D cA sl_ln sl_rd sl_VS sl_MS sl_cS sl_sS l 1 yX10_octet cX10_octet 5 (sl_rt 1 "") 7 103 1 0 F_X10_octet :=
  gc_X10_octet (call := ca_X10_octet) hst (sl_memS hb) sl_moS (fun _ => Nat.le_refl _) (by rw [cf_X10_octet_X4_nth]; exact sc_X4_nth hst hb) (by rw [cf_X10_octet_X6_at]; exact sc_X6_at hst hb) (by rw [cf_X10_octet_X10_laneAt]; exact sc_X10_laneAt hst hb)
theorem cf_X10_line_X10_laneAt : ca_X10_line 87 = F_X10_laneAt := by
  funext as m
  unfold ca_X10_line
  rw [show Nat.beq 87 87 = true from rfl, cond_true]
theorem sc_X10_line {b base : Nat} {Hb : Heap} {D : va_G} {cA : Nat → ClassId} {l : Launch} (hst : l.stackTraces = false) (hb : b < base) : sl_CC (sl_ad base b) base 331 Hb D cA sl_ln sl_rd sl_VS sl_MS sl_cS sl_sS l 1 yX10_line cX10_line 2 (sl_rt 1 "") 7 103 1 0 F_X10_line :=
  gc_X10_line (call := ca_X10_line) hst (sl_memS hb) sl_moS (fun _ => Nat.le_refl _) (by rw [cf_X10_line_X10_laneAt]; exact sc_X10_laneAt hst hb)
theorem cf_X10_state_X5_heldPieces : ca_X10_state 31 = F_X5_heldPieces := by
  funext as m
  unfold ca_X10_state
  rw [show Nat.ble 49 31 = false from rfl, cond_false, show Nat.beq 31 31 = true from rfl, cond_true]
theorem cf_X10_state_X7_keptPieces : ca_X10_state 49 = F_X7_keptPieces := by
  funext as m
  unfold ca_X10_state
  rw [show Nat.ble 49 49 = true from rfl, cond_true, show Nat.ble 86 49 = false from rfl, cond_false, show Nat.beq 49 49 = true from rfl, cond_true]
theorem cf_X10_state_X10_endAt : ca_X10_state 86 = F_X10_endAt := by
  funext as m
  unfold ca_X10_state
  rw [show Nat.ble 49 86 = true from rfl, cond_true, show Nat.ble 86 86 = true from rfl, cond_true, show Nat.beq 86 86 = true from rfl, cond_true]
theorem sc_X10_state {b base : Nat} {Hb : Heap} {D : va_G} {cA : Nat → ClassId} {l : Launch} (hst : l.stackTraces = false) (hb : b < base) : sl_CC (sl_ad base b) base 331 Hb D cA sl_ln sl_rd sl_VS sl_MS sl_cS sl_sS l 1 yX10_state cX10_state 4 (sl_rt 1 "") 7 103 1 0 F_X10_state :=
  gc_X10_state (call := ca_X10_state) hst (sl_memS hb) sl_moS (fun _ => Nat.le_refl _) (by rw [cf_X10_state_X5_heldPieces]; exact sc_X5_heldPieces hst hb) (by rw [cf_X10_state_X7_keptPieces]; exact sc_X7_keptPieces hst hb) (by rw [cf_X10_state_X10_endAt]; exact sc_X10_endAt hst hb)
theorem cf_X10_taken_X6_at : ca_X10_taken 36 = F_X6_at := by
  funext as m
  unfold ca_X10_taken
  rw [show Nat.ble 86 36 = false from rfl, cond_false, show Nat.beq 36 36 = true from rfl, cond_true]
theorem cf_X10_taken_X10_endAt : ca_X10_taken 86 = F_X10_endAt := by
  funext as m
  unfold ca_X10_taken
  rw [show Nat.ble 86 86 = true from rfl, cond_true, show Nat.beq 86 86 = true from rfl, cond_true]
theorem sc_X10_taken {b base : Nat} {Hb : Heap} {D : va_G} {cA : Nat → ClassId} {l : Launch} (hst : l.stackTraces = false) (hb : b < base) : sl_CC (sl_ad base b) base 331 Hb D cA sl_ln sl_rd sl_VS sl_MS sl_cS sl_sS l 1 yX10_taken cX10_taken 3 (sl_rt 1 "") 7 103 1 0 F_X10_taken :=
  gc_X10_taken (call := ca_X10_taken) hst (sl_memS hb) sl_moS (fun _ => Nat.le_refl _) (by rw [cf_X10_taken_X6_at]; exact sc_X6_at hst hb) (by rw [cf_X10_taken_X10_endAt]; exact sc_X10_endAt hst hb)
theorem cf_X10_count_X9_of : ca_X10_count 60 = F_X9_of := by
  funext as m
  unfold ca_X10_count
  rw [show Nat.beq 60 60 = true from rfl, cond_true]
theorem sc_X10_count {b base : Nat} {Hb : Heap} {D : va_G} {cA : Nat → ClassId} {l : Launch} (hst : l.stackTraces = false) (hb : b < base) : sl_CC (sl_ad base b) base 331 Hb D cA sl_ln sl_rd sl_VS sl_MS sl_cS sl_sS l 0 yX10_count cX10_count 2 (sl_rt 1 "") 1 21 1 0 F_X10_count :=
  gc_X10_count (call := ca_X10_count) hst (sl_memS hb) sl_moS (by rw [cf_X10_count_X9_of]; exact sc_X9_of hst hb)
theorem cf_X10_stuff_X0_pack : ca_X10_stuff 1 = F_X0_pack := by
  funext as m
  unfold ca_X10_stuff
  rw [show Nat.ble 33 1 = false from rfl, cond_false, show Nat.beq 1 1 = true from rfl, cond_true]
theorem cf_X10_stuff_X6_clear : ca_X10_stuff 33 = F_X6_clear := by
  funext as m
  unfold ca_X10_stuff
  rw [show Nat.ble 33 33 = true from rfl, cond_true, show Nat.beq 33 33 = true from rfl, cond_true]
theorem sc_X10_stuff {b base : Nat} {Hb : Heap} {D : va_G} {cA : Nat → ClassId} {l : Launch} (hst : l.stackTraces = false) (hb : b < base) : sl_CC (sl_ad base b) base 331 Hb D cA sl_ln sl_rd sl_VS sl_MS sl_cS sl_sS l 0 yX10_stuff cX10_stuff 1 (sl_rt 1 "") 2 47 1 0 F_X10_stuff :=
  gc_X10_stuff (call := ca_X10_stuff) hst (sl_memS hb) sl_moS (by rw [cf_X10_stuff_X0_pack]; exact sc_X0_pack hst hb) (by rw [cf_X10_stuff_X6_clear]; exact sc_X6_clear hst hb)
theorem cf_X10_unstuff_X0_unpack : ca_X10_unstuff 2 = F_X0_unpack := by
  funext as m
  unfold ca_X10_unstuff
  rw [show Nat.ble 15 2 = false from rfl, cond_false, show Nat.beq 2 2 = true from rfl, cond_true]
theorem cf_X10_unstuff_X3_isSound : ca_X10_unstuff 15 = F_X3_isSound := by
  funext as m
  unfold ca_X10_unstuff
  rw [show Nat.ble 15 15 = true from rfl, cond_true, show Nat.ble 33 15 = false from rfl, cond_false, show Nat.beq 15 15 = true from rfl, cond_true]
theorem cf_X10_unstuff_X6_clear : ca_X10_unstuff 33 = F_X6_clear := by
  funext as m
  unfold ca_X10_unstuff
  rw [show Nat.ble 15 33 = true from rfl, cond_true, show Nat.ble 33 33 = true from rfl, cond_true, show Nat.beq 33 33 = true from rfl, cond_true]
theorem sc_X10_unstuff {b base : Nat} {Hb : Heap} {D : va_G} {cA : Nat → ClassId} {l : Launch} (hst : l.stackTraces = false) (hb : b < base) : sl_CC (sl_ad base b) base 331 Hb D cA sl_ln sl_rd sl_VS sl_MS sl_cS sl_sS l 0 yX10_unstuff cX10_unstuff 2 (sl_rt 1 "") 2 48 1 0 F_X10_unstuff :=
  gc_X10_unstuff (call := ca_X10_unstuff) hst (sl_memS hb) sl_moS (by rw [cf_X10_unstuff_X0_unpack]; exact sc_X0_unpack hst hb) (by rw [cf_X10_unstuff_X3_isSound]; exact sc_X3_isSound hst hb) (by rw [cf_X10_unstuff_X6_clear]; exact sc_X6_clear hst hb)
theorem sc_X10_fault {b base : Nat} {Hb : Heap} {D : va_G} {cA : Nat → ClassId} {l : Launch} (hst : l.stackTraces = false) (hb : b < base) : sl_CC (sl_ad base b) base 331 Hb D cA sl_ln sl_rd sl_VS sl_MS sl_cS sl_sS l 0 yX10_fault cX10_fault 2 (sl_rt 1 "") 0 0 1 0 F_X10_fault :=
  gc_X10_fault (call := ca_X10_fault) hst (sl_memS hb) sl_moS 
theorem cf_X10_check_X0_checkOf : ca_X10_check 0 = F_X0_checkOf := by
  funext as m
  unfold ca_X10_check
  rw [show Nat.ble 33 0 = false from rfl, cond_false, show Nat.beq 0 0 = true from rfl, cond_true]
theorem cf_X10_check_X6_clear : ca_X10_check 33 = F_X6_clear := by
  funext as m
  unfold ca_X10_check
  rw [show Nat.ble 33 33 = true from rfl, cond_true, show Nat.beq 33 33 = true from rfl, cond_true]
theorem sc_X10_check {b base : Nat} {Hb : Heap} {D : va_G} {cA : Nat → ClassId} {l : Launch} (hst : l.stackTraces = false) (hb : b < base) : sl_CC (sl_ad base b) base 331 Hb D cA sl_ln sl_rd sl_VS sl_MS sl_cS sl_sS l 0 yX10_check cX10_check 2 (sl_rt 1 "") 2 45 1 0 F_X10_check :=
  gc_X10_check (call := ca_X10_check) hst (sl_memS hb) sl_moS (by rw [cf_X10_check_X0_checkOf]; exact sc_X0_checkOf hst hb) (by rw [cf_X10_check_X6_clear]; exact sc_X6_clear hst hb)
theorem cf_X10_out_X6_at : ca_X10_out 36 = F_X6_at := by
  funext as m
  unfold ca_X10_out
  rw [show Nat.beq 36 36 = true from rfl, cond_true]
theorem sc_X10_out {b base : Nat} {Hb : Heap} {D : va_G} {cA : Nat → ClassId} {l : Launch} (hst : l.stackTraces = false) (hb : b < base) : sl_CC (sl_ad base b) base 331 Hb D cA sl_ln sl_rd sl_VS sl_MS sl_cS sl_sS l 0 yX10_out cX10_out 2 (sl_rt 1 "") 1 21 1 0 F_X10_out :=
  gc_X10_out (call := ca_X10_out) hst (sl_memS hb) sl_moS (by rw [cf_X10_out_X6_at]; exact sc_X6_at hst hb)
theorem sc_X11_thrown {b base : Nat} {Hb : Heap} {D : va_G} {cA : Nat → ClassId} {l : Launch} (hst : l.stackTraces = false) (hb : b < base) : sl_CC (sl_ad base b) base 331 Hb D cA sl_ln sl_rd sl_VS sl_MS sl_cS sl_sS l 0 yX11_thrown cX11_thrown 1 (sl_rt 1 "") 0 0 1 0 F_X11_thrown :=
  gc_X11_thrown (call := ca_X11_thrown) hst (sl_memS hb) sl_moS 
theorem sc_X11_isOut {b base : Nat} {Hb : Heap} {D : va_G} {cA : Nat → ClassId} {l : Launch} (hst : l.stackTraces = false) (hb : b < base) : sl_CC (sl_ad base b) base 331 Hb D cA sl_ln sl_rd sl_VS sl_MS sl_cS sl_sS l 0 yX11_isOut cX11_isOut 2 (sl_rt 2 "") 0 0 1 0 F_X11_isOut :=
  gc_X11_isOut (call := ca_X11_isOut) hst (sl_memS hb) sl_moS 
theorem sc_X11_feed {b base : Nat} {Hb : Heap} {D : va_G} {cA : Nat → ClassId} {l : Launch} (hst : l.stackTraces = false) (hb : b < base) : sl_CC (sl_ad base b) base 331 Hb D cA sl_ln sl_rd sl_VS sl_MS sl_cS sl_sS l 0 yX11_feed cX11_feed 8 (sl_rt 1 "") 0 0 1 0 F_X11_feed :=
  gc_X11_feed (call := ca_X11_feed) hst (sl_memS hb) sl_moS 
theorem sc_X11_cut {b base : Nat} {Hb : Heap} {D : va_G} {cA : Nat → ClassId} {l : Launch} (hst : l.stackTraces = false) (hb : b < base) : sl_CC (sl_ad base b) base 331 Hb D cA sl_ln sl_rd sl_VS sl_MS sl_cS sl_sS l 0 yX11_cut cX11_cut 2 (sl_rt 2 "") 0 0 1 0 F_X11_cut :=
  gc_X11_cut (call := ca_X11_cut) hst (sl_memS hb) sl_moS 
theorem sc_X11_take {b base : Nat} {Hb : Heap} {D : va_G} {cA : Nat → ClassId} {l : Launch} (hst : l.stackTraces = false) (hb : b < base) : sl_CC (sl_ad base b) base 331 Hb D cA sl_ln sl_rd sl_VS sl_MS sl_cS sl_sS l 0 yX11_take cX11_take 2 (sl_rt 1 "") 0 0 1 0 F_X11_take :=
  gc_X11_take (call := ca_X11_take) hst (sl_memS hb) sl_moS 
theorem sc_X11_checkOf {b base : Nat} {Hb : Heap} {D : va_G} {cA : Nat → ClassId} {l : Launch} (hst : l.stackTraces = false) (hb : b < base) : sl_CC (sl_ad base b) base 331 Hb D cA sl_ln sl_rd sl_VS sl_MS sl_cS sl_sS l 0 yX11_checkOf cX11_checkOf 7 (sl_rt 1 "") 0 0 1 0 F_X11_checkOf :=
  gc_X11_checkOf (call := ca_X11_checkOf) hst (sl_memS hb) sl_moS 
theorem cf_X11_check_X11_checkOf : ca_X11_check 95 = F_X11_checkOf := by
  funext as m
  unfold ca_X11_check
  rw [show Nat.beq 95 95 = true from rfl, cond_true]
theorem sc_X11_check {b base : Nat} {Hb : Heap} {D : va_G} {cA : Nat → ClassId} {l : Launch} (hst : l.stackTraces = false) (hb : b < base) : sl_CC (sl_ad base b) base 331 Hb D cA sl_ln sl_rd sl_VS sl_MS sl_cS sl_sS l 0 yX11_check cX11_check 2 (sl_rt 1 "") 1 26 1 0 F_X11_check :=
  gc_X11_check (call := ca_X11_check) hst (sl_memS hb) sl_moS (by rw [cf_X11_check_X11_checkOf]; exact sc_X11_checkOf hst hb)
theorem sc_X11_stuffed {b base : Nat} {Hb : Heap} {D : va_G} {cA : Nat → ClassId} {l : Launch} (hst : l.stackTraces = false) (hb : b < base) : sl_CC (sl_ad base b) base 331 Hb D cA sl_ln sl_rd sl_VS sl_MS sl_cS sl_sS l 0 yX11_stuffed cX11_stuffed 9 (sl_rt 1 "") 0 0 1 0 F_X11_stuffed :=
  gc_X11_stuffed (call := ca_X11_stuffed) hst (sl_memS hb) sl_moS 
theorem sc_X11_faulty {b base : Nat} {Hb : Heap} {D : va_G} {cA : Nat → ClassId} {l : Launch} (hst : l.stackTraces = false) (hb : b < base) : sl_CC (sl_ad base b) base 331 Hb D cA sl_ln sl_rd sl_VS sl_MS sl_cS sl_sS l 0 yX11_faulty cX11_faulty 3 (sl_rt 1 "") 0 0 1 0 F_X11_faulty :=
  gc_X11_faulty (call := ca_X11_faulty) hst (sl_memS hb) sl_moS 
theorem cf_X11_unstuffed_X11_faulty : ca_X11_unstuffed 99 = F_X11_faulty := by
  funext as m
  unfold ca_X11_unstuffed
  rw [show Nat.beq 99 99 = true from rfl, cond_true]
theorem sc_X11_unstuffed {b base : Nat} {Hb : Heap} {D : va_G} {cA : Nat → ClassId} {l : Launch} (hst : l.stackTraces = false) (hb : b < base) : sl_CC (sl_ad base b) base 331 Hb D cA sl_ln sl_rd sl_VS sl_MS sl_cS sl_sS l 0 yX11_unstuffed cX11_unstuffed 8 (sl_rt 1 "") 1 22 1 0 F_X11_unstuffed :=
  gc_X11_unstuffed (call := ca_X11_unstuffed) hst (sl_memS hb) sl_moS (by rw [cf_X11_unstuffed_X11_faulty]; exact sc_X11_faulty hst hb)
theorem cf_X11_stuff_X11_stuffed : ca_X11_stuff 97 = F_X11_stuffed := by
  funext as m
  unfold ca_X11_stuff
  rw [show Nat.beq 97 97 = true from rfl, cond_true]
theorem sc_X11_stuff {b base : Nat} {Hb : Heap} {D : va_G} {cA : Nat → ClassId} {l : Launch} (hst : l.stackTraces = false) (hb : b < base) : sl_CC (sl_ad base b) base 331 Hb D cA sl_ln sl_rd sl_VS sl_MS sl_cS sl_sS l 0 yX11_stuff cX11_stuff 2 (sl_rt 1 "") 1 28 1 0 F_X11_stuff :=
  gc_X11_stuff (call := ca_X11_stuff) hst (sl_memS hb) sl_moS (by rw [cf_X11_stuff_X11_stuffed]; exact sc_X11_stuffed hst hb)
theorem cf_X11_unstuff_X11_unstuffed : ca_X11_unstuff 98 = F_X11_unstuffed := by
  funext as m
  unfold ca_X11_unstuff
  rw [show Nat.beq 98 98 = true from rfl, cond_true]
theorem sc_X11_unstuff {b base : Nat} {Hb : Heap} {D : va_G} {cA : Nat → ClassId} {l : Launch} (hst : l.stackTraces = false) (hb : b < base) : sl_CC (sl_ad base b) base 331 Hb D cA sl_ln sl_rd sl_VS sl_MS sl_cS sl_sS l 0 yX11_unstuff cX11_unstuff 4 (sl_rt 1 "") 2 49 1 0 F_X11_unstuff :=
  gc_X11_unstuff (call := ca_X11_unstuff) hst (sl_memS hb) sl_moS (by rw [cf_X11_unstuff_X11_unstuffed]; exact sc_X11_unstuffed hst hb)
theorem sc_X11_fault {b base : Nat} {Hb : Heap} {D : va_G} {cA : Nat → ClassId} {l : Launch} (hst : l.stackTraces = false) (hb : b < base) : sl_CC (sl_ad base b) base 331 Hb D cA sl_ln sl_rd sl_VS sl_MS sl_cS sl_sS l 0 yX11_fault cX11_fault 2 (sl_rt 1 "") 0 0 1 0 F_X11_fault :=
  gc_X11_fault (call := ca_X11_fault) hst (sl_memS hb) sl_moS 
theorem sc_X11_out {b base : Nat} {Hb : Heap} {D : va_G} {cA : Nat → ClassId} {l : Launch} (hst : l.stackTraces = false) (hb : b < base) : sl_CC (sl_ad base b) base 331 Hb D cA sl_ln sl_rd sl_VS sl_MS sl_cS sl_sS l 0 yX11_out cX11_out 2 (sl_rt 1 "") 0 0 1 0 F_X11_out :=
  gc_X11_out (call := ca_X11_out) hst (sl_memS hb) sl_moS 
theorem sc_X11_first {b base : Nat} {Hb : Heap} {D : va_G} {cA : Nat → ClassId} {l : Launch} (hst : l.stackTraces = false) (hb : b < base) : sl_CC (sl_ad base b) base 331 Hb D cA sl_ln sl_rd sl_VS sl_MS sl_cS sl_sS l 0 yX11_first cX11_first 3 (sl_rt 0 "") 0 0 0 0 F_X11_first :=
  gc_X11_first (call := ca_X11_first) hst (sl_memS hb) sl_moS 
theorem cf_X11_open_X11_first : ca_X11_open 104 = F_X11_first := by
  funext as m
  unfold ca_X11_open
  rw [show Nat.beq 104 104 = true from rfl, cond_true]
theorem sc_X11_open {b base : Nat} {Hb : Heap} {D : va_G} {cA : Nat → ClassId} {l : Launch} (hst : l.stackTraces = false) (hb : b < base) : sl_CC (sl_ad base b) base 331 Hb D cA sl_ln sl_rd sl_VS sl_MS sl_cS sl_sS l 0 yX11_open cX11_open 7 (sl_rt 2 "") 1 22 1 0 F_X11_open :=
  gc_X11_open (call := ca_X11_open) hst (sl_memS hb) sl_moS (by rw [cf_X11_open_X11_first]; exact sc_X11_first hst hb)
theorem cf_X11_give_X11_isOut : ca_X11_give 91 = F_X11_isOut := by
  funext as m
  unfold ca_X11_give
  rw [show Nat.beq 91 91 = true from rfl, cond_true]
theorem sc_X11_give {b base : Nat} {Hb : Heap} {D : va_G} {cA : Nat → ClassId} {l : Launch} (hst : l.stackTraces = false) (hb : b < base) : sl_CC (sl_ad base b) base 331 Hb D cA sl_ln sl_rd sl_VS sl_MS sl_cS sl_sS l 0 yX11_give cX11_give 3 (sl_rt 1 "") 1 21 1 0 F_X11_give :=
  gc_X11_give (call := ca_X11_give) hst (sl_memS hb) sl_moS (by rw [cf_X11_give_X11_isOut]; exact sc_X11_isOut hst hb)
theorem cf_X11_lay_X11_checkOf : ca_X11_lay 95 = F_X11_checkOf := by
  funext as m
  unfold ca_X11_lay
  rw [show Nat.ble 97 95 = false from rfl, cond_false, show Nat.beq 95 95 = true from rfl, cond_true]
theorem cf_X11_lay_X11_stuffed : ca_X11_lay 97 = F_X11_stuffed := by
  funext as m
  unfold ca_X11_lay
  rw [show Nat.ble 97 97 = true from rfl, cond_true, show Nat.beq 97 97 = true from rfl, cond_true]
theorem sc_X11_lay {b base : Nat} {Hb : Heap} {D : va_G} {cA : Nat → ClassId} {l : Launch} (hst : l.stackTraces = false) (hb : b < base) : sl_CC (sl_ad base b) base 331 Hb D cA sl_ln sl_rd sl_VS sl_MS sl_cS sl_sS l 0 yX11_lay cX11_lay 7 (sl_rt 0 "") 1 28 0 0 F_X11_lay :=
  gc_X11_lay (call := ca_X11_lay) hst (sl_memS hb) sl_moS (by rw [cf_X11_lay_X11_checkOf]; exact sc_X11_checkOf hst hb) (by rw [cf_X11_lay_X11_stuffed]; exact sc_X11_stuffed hst hb)
theorem cf_X11_layPiece_X11_lay : ca_X11_layPiece 107 = F_X11_lay := by
  funext as m
  unfold ca_X11_layPiece
  rw [show Nat.beq 107 107 = true from rfl, cond_true]
theorem sc_X11_layPiece {b base : Nat} {Hb : Heap} {D : va_G} {cA : Nat → ClassId} {l : Launch} (hst : l.stackTraces = false) (hb : b < base) : sl_CC (sl_ad base b) base 331 Hb D cA sl_ln sl_rd sl_VS sl_MS sl_cS sl_sS l 0 yX11_layPiece cX11_layPiece 7 (sl_rt 0 "") 2 54 0 0 F_X11_layPiece :=
  gc_X11_layPiece (call := ca_X11_layPiece) hst (sl_memS hb) sl_moS (by rw [cf_X11_layPiece_X11_lay]; exact sc_X11_lay hst hb)
theorem sc_X11_knownBytes {b base : Nat} {Hb : Heap} {D : va_G} {cA : Nat → ClassId} {l : Launch} (hst : l.stackTraces = false) (hb : b < base) : sl_CC (sl_ad base b) base 331 Hb D cA sl_ln sl_rd sl_VS sl_MS sl_cS sl_sS l 0 yX11_knownBytes cX11_knownBytes 1 (sl_rt 1 "") 0 0 1 0 F_X11_knownBytes :=
  gc_X11_knownBytes (call := ca_X11_knownBytes) hst (sl_memS hb) sl_moS 
theorem cf_X11_layKnown_X11_lay : ca_X11_layKnown 107 = F_X11_lay := by
  funext as m
  unfold ca_X11_layKnown
  rw [show Nat.ble 109 107 = false from rfl, cond_false, show Nat.beq 107 107 = true from rfl, cond_true]
theorem cf_X11_layKnown_X11_knownBytes : ca_X11_layKnown 109 = F_X11_knownBytes := by
  funext as m
  unfold ca_X11_layKnown
  rw [show Nat.ble 109 109 = true from rfl, cond_true, show Nat.beq 109 109 = true from rfl, cond_true]
theorem sc_X11_layKnown {b base : Nat} {Hb : Heap} {D : va_G} {cA : Nat → ClassId} {l : Launch} (hst : l.stackTraces = false) (hb : b < base) : sl_CC (sl_ad base b) base 331 Hb D cA sl_ln sl_rd sl_VS sl_MS sl_cS sl_sS l 0 yX11_layKnown cX11_layKnown 4 (sl_rt 0 "") 2 54 0 0 F_X11_layKnown :=
  gc_X11_layKnown (call := ca_X11_layKnown) hst (sl_memS hb) sl_moS (by rw [cf_X11_layKnown_X11_lay]; exact sc_X11_lay hst hb) (by rw [cf_X11_layKnown_X11_knownBytes]; exact sc_X11_knownBytes hst hb)
theorem cf_X11_tickOf_X11_layPiece : ca_X11_tickOf 108 = F_X11_layPiece := by
  funext as m
  unfold ca_X11_tickOf
  rw [show Nat.beq 108 108 = true from rfl, cond_true]
theorem sc_X11_tickOf {b base : Nat} {Hb : Heap} {D : va_G} {cA : Nat → ClassId} {l : Launch} (hst : l.stackTraces = false) (hb : b < base) : sl_CC (sl_ad base b) base 331 Hb D cA sl_ln sl_rd sl_VS sl_MS sl_cS sl_sS l 0 yX11_tickOf cX11_tickOf 5 (sl_rt 0 "") 3 80 0 0 F_X11_tickOf :=
  gc_X11_tickOf (call := ca_X11_tickOf) hst (sl_memS hb) sl_moS (by rw [cf_X11_tickOf_X11_layPiece]; exact sc_X11_layPiece hst hb)
theorem cf_X11_ticks_X11_tickOf : ca_X11_ticks 111 = F_X11_tickOf := by
  funext as m
  unfold ca_X11_ticks
  rw [show Nat.beq 111 111 = true from rfl, cond_true]
theorem sc_X11_ticks {b base : Nat} {Hb : Heap} {D : va_G} {cA : Nat → ClassId} {l : Launch} (hst : l.stackTraces = false) (hb : b < base) : sl_CC (sl_ad base b) base 331 Hb D cA sl_ln sl_rd sl_VS sl_MS sl_cS sl_sS l 0 yX11_ticks cX11_ticks 2 (sl_rt 1 "") 4 104 1 0 F_X11_ticks :=
  gc_X11_ticks (call := ca_X11_ticks) hst (sl_memS hb) sl_moS (by rw [cf_X11_ticks_X11_tickOf]; exact sc_X11_tickOf hst hb)
theorem cf_X11_tick_X11_ticks : ca_X11_tick 112 = F_X11_ticks := by
  funext as m
  unfold ca_X11_tick
  rw [show Nat.beq 112 112 = true from rfl, cond_true]
theorem sc_X11_tick {b base : Nat} {Hb : Heap} {D : va_G} {cA : Nat → ClassId} {l : Launch} (hst : l.stackTraces = false) (hb : b < base) : sl_CC (sl_ad base b) base 331 Hb D cA sl_ln sl_rd sl_VS sl_MS sl_cS sl_sS l 0 yX11_tick cX11_tick 1 (sl_rt 1 "") 5 125 1 0 F_X11_tick :=
  gc_X11_tick (call := ca_X11_tick) hst (sl_memS hb) sl_moS (by rw [cf_X11_tick_X11_ticks]; exact sc_X11_ticks hst hb)
theorem sc_X11_wrong {b base : Nat} {Hb : Heap} {D : va_G} {cA : Nat → ClassId} {l : Launch} (hst : l.stackTraces = false) (hb : b < base) : sl_CC (sl_ad base b) base 331 Hb D cA sl_ln sl_rd sl_VS sl_MS sl_cS sl_sS l 0 yX11_wrong cX11_wrong 2 (sl_rt 0 "") 0 0 0 0 F_X11_wrong :=
  gc_X11_wrong (call := ca_X11_wrong) hst (sl_memS hb) sl_moS 
theorem sc_X11_getsAll {b base : Nat} {Hb : Heap} {D : va_G} {cA : Nat → ClassId} {l : Launch} (hst : l.stackTraces = false) (hb : b < base) : sl_CC (sl_ad base b) base 331 Hb D cA sl_ln sl_rd sl_VS sl_MS sl_cS sl_sS l 0 yX11_getsAll cX11_getsAll 6 (sl_rt 2 "") 0 0 1 0 F_X11_getsAll :=
  gc_X11_getsAll (call := ca_X11_getsAll) hst (sl_memS hb) sl_moS 
theorem cf_X11_inOrder_X11_layKnown : ca_X11_inOrder 110 = F_X11_layKnown := by
  funext as m
  unfold ca_X11_inOrder
  rw [show Nat.ble 116 110 = false from rfl, cond_false, show Nat.beq 110 110 = true from rfl, cond_true]
theorem cf_X11_inOrder_X11_getsAll : ca_X11_inOrder 116 = F_X11_getsAll := by
  funext as m
  unfold ca_X11_inOrder
  rw [show Nat.ble 116 116 = true from rfl, cond_true, show Nat.beq 116 116 = true from rfl, cond_true]
theorem sc_X11_inOrder {b base : Nat} {Hb : Heap} {D : va_G} {cA : Nat → ClassId} {l : Launch} (hst : l.stackTraces = false) (hb : b < base) : sl_CC (sl_ad base b) base 331 Hb D cA sl_ln sl_rd sl_VS sl_MS sl_cS sl_sS l 0 yX11_inOrder cX11_inOrder 6 (sl_rt 0 "") 3 77 0 0 F_X11_inOrder :=
  gc_X11_inOrder (call := ca_X11_inOrder) hst (sl_memS hb) sl_moS (by rw [cf_X11_inOrder_X11_layKnown]; exact sc_X11_layKnown hst hb) (by rw [cf_X11_inOrder_X11_getsAll]; exact sc_X11_getsAll hst hb)
theorem cf_X11_byItself_X11_layKnown : ca_X11_byItself 110 = F_X11_layKnown := by
  funext as m
  unfold ca_X11_byItself
  rw [show Nat.ble 116 110 = false from rfl, cond_false, show Nat.beq 110 110 = true from rfl, cond_true]
theorem cf_X11_byItself_X11_getsAll : ca_X11_byItself 116 = F_X11_getsAll := by
  funext as m
  unfold ca_X11_byItself
  rw [show Nat.ble 116 116 = true from rfl, cond_true, show Nat.beq 116 116 = true from rfl, cond_true]
theorem sc_X11_byItself {b base : Nat} {Hb : Heap} {D : va_G} {cA : Nat → ClassId} {l : Launch} (hst : l.stackTraces = false) (hb : b < base) : sl_CC (sl_ad base b) base 331 Hb D cA sl_ln sl_rd sl_VS sl_MS sl_cS sl_sS l 0 yX11_byItself cX11_byItself 8 (sl_rt 0 "") 3 77 0 0 F_X11_byItself :=
  gc_X11_byItself (call := ca_X11_byItself) hst (sl_memS hb) sl_moS (by rw [cf_X11_byItself_X11_layKnown]; exact sc_X11_layKnown hst hb) (by rw [cf_X11_byItself_X11_getsAll]; exact sc_X11_getsAll hst hb)
theorem sc_X11_known {b base : Nat} {Hb : Heap} {D : va_G} {cA : Nat → ClassId} {l : Launch} (hst : l.stackTraces = false) (hb : b < base) : sl_CC (sl_ad base b) base 331 Hb D cA sl_ln sl_rd sl_VS sl_MS sl_cS sl_sS l 0 yX11_known cX11_known 6 (sl_rt 0 "") 0 0 0 0 F_X11_known :=
  gc_X11_known (call := ca_X11_known) hst (sl_memS hb) sl_moS 
theorem cf_X11_takes_X11_knownBytes : ca_X11_takes 109 = F_X11_knownBytes := by
  funext as m
  unfold ca_X11_takes
  rw [show Nat.ble 117 109 = false from rfl, cond_false, show Nat.ble 114 109 = false from rfl, cond_false, show Nat.beq 109 109 = true from rfl, cond_true]
theorem cf_X11_takes_X11_wrong : ca_X11_takes 114 = F_X11_wrong := by
  funext as m
  unfold ca_X11_takes
  rw [show Nat.ble 117 114 = false from rfl, cond_false, show Nat.ble 114 114 = true from rfl, cond_true, show Nat.beq 114 114 = true from rfl, cond_true]
theorem cf_X11_takes_X11_inOrder : ca_X11_takes 117 = F_X11_inOrder := by
  funext as m
  unfold ca_X11_takes
  rw [show Nat.ble 117 117 = true from rfl, cond_true, show Nat.ble 118 117 = false from rfl, cond_false, show Nat.beq 117 117 = true from rfl, cond_true]
theorem cf_X11_takes_X11_byItself : ca_X11_takes 118 = F_X11_byItself := by
  funext as m
  unfold ca_X11_takes
  rw [show Nat.ble 117 118 = true from rfl, cond_true, show Nat.ble 118 118 = true from rfl, cond_true, show Nat.ble 119 118 = false from rfl, cond_false, show Nat.beq 118 118 = true from rfl, cond_true]
theorem cf_X11_takes_X11_known : ca_X11_takes 119 = F_X11_known := by
  funext as m
  unfold ca_X11_takes
  rw [show Nat.ble 117 119 = true from rfl, cond_true, show Nat.ble 118 119 = true from rfl, cond_true, show Nat.ble 119 119 = true from rfl, cond_true, show Nat.beq 119 119 = true from rfl, cond_true]
theorem sc_X11_takes {b base : Nat} {Hb : Heap} {D : va_G} {cA : Nat → ClassId} {l : Launch} (hst : l.stackTraces = false) (hb : b < base) : sl_CC (sl_ad base b) base 331 Hb D cA sl_ln sl_rd sl_VS sl_MS sl_cS sl_sS l 0 yX11_takes cX11_takes 7 (sl_rt 0 "") 4 104 0 0 F_X11_takes :=
  gc_X11_takes (call := ca_X11_takes) hst (sl_memS hb) sl_moS (by rw [cf_X11_takes_X11_knownBytes]; exact sc_X11_knownBytes hst hb) (by rw [cf_X11_takes_X11_wrong]; exact sc_X11_wrong hst hb) (by rw [cf_X11_takes_X11_inOrder]; exact sc_X11_inOrder hst hb) (by rw [cf_X11_takes_X11_byItself]; exact sc_X11_byItself hst hb) (by rw [cf_X11_takes_X11_known]; exact sc_X11_known hst hb)
theorem cf_X11_isRight_X11_checkOf : ca_X11_isRight 95 = F_X11_checkOf := by
  funext as m
  unfold ca_X11_isRight
  rw [show Nat.beq 95 95 = true from rfl, cond_true]
theorem sc_X11_isRight {b base : Nat} {Hb : Heap} {D : va_G} {cA : Nat → ClassId} {l : Launch} (hst : l.stackTraces = false) (hb : b < base) : sl_CC (sl_ad base b) base 331 Hb D cA sl_ln sl_rd sl_VS sl_MS sl_cS sl_sS l 0 yX11_isRight cX11_isRight 5 (sl_rt 2 "") 1 26 1 0 F_X11_isRight :=
  gc_X11_isRight (call := ca_X11_isRight) hst (sl_memS hb) sl_moS (by rw [cf_X11_isRight_X11_checkOf]; exact sc_X11_checkOf hst hb)
theorem cf_X11_hears_X11_unstuffed : ca_X11_hears 98 = F_X11_unstuffed := by
  funext as m
  unfold ca_X11_hears
  rw [show Nat.ble 115 98 = false from rfl, cond_false, show Nat.ble 114 98 = false from rfl, cond_false, show Nat.beq 98 98 = true from rfl, cond_true]
theorem cf_X11_hears_X11_wrong : ca_X11_hears 114 = F_X11_wrong := by
  funext as m
  unfold ca_X11_hears
  rw [show Nat.ble 115 114 = false from rfl, cond_false, show Nat.ble 114 114 = true from rfl, cond_true, show Nat.beq 114 114 = true from rfl, cond_true]
theorem cf_X11_hears_X11_takes : ca_X11_hears 115 = F_X11_takes := by
  funext as m
  unfold ca_X11_hears
  rw [show Nat.ble 115 115 = true from rfl, cond_true, show Nat.ble 121 115 = false from rfl, cond_false, show Nat.beq 115 115 = true from rfl, cond_true]
theorem cf_X11_hears_X11_isRight : ca_X11_hears 121 = F_X11_isRight := by
  funext as m
  unfold ca_X11_hears
  rw [show Nat.ble 115 121 = true from rfl, cond_true, show Nat.ble 121 121 = true from rfl, cond_true, show Nat.beq 121 121 = true from rfl, cond_true]
theorem sc_X11_hears {b base : Nat} {Hb : Heap} {D : va_G} {cA : Nat → ClassId} {l : Launch} (hst : l.stackTraces = false) (hb : b < base) : sl_CC (sl_ad base b) base 331 Hb D cA sl_ln sl_rd sl_VS sl_MS sl_cS sl_sS l 0 yX11_hears cX11_hears 8 (sl_rt 0 "") 5 130 0 0 F_X11_hears :=
  gc_X11_hears (call := ca_X11_hears) hst (sl_memS hb) sl_moS (by rw [cf_X11_hears_X11_unstuffed]; exact sc_X11_unstuffed hst hb) (by rw [cf_X11_hears_X11_wrong]; exact sc_X11_wrong hst hb) (by rw [cf_X11_hears_X11_takes]; exact sc_X11_takes hst hb) (by rw [cf_X11_hears_X11_isRight]; exact sc_X11_isRight hst hb)
theorem cf_X11_moves_X11_hears : ca_X11_moves 120 = F_X11_hears := by
  funext as m
  unfold ca_X11_moves
  rw [show Nat.beq 120 120 = true from rfl, cond_true]
theorem sc_X11_moves {b base : Nat} {Hb : Heap} {D : va_G} {cA : Nat → ClassId} {l : Launch} (hst : l.stackTraces = false) (hb : b < base) : sl_CC (sl_ad base b) base 331 Hb D cA sl_ln sl_rd sl_VS sl_MS sl_cS sl_sS l 0 yX11_moves cX11_moves 10 (sl_rt 0 "") 6 157 0 0 F_X11_moves :=
  gc_X11_moves (call := ca_X11_moves) hst (sl_memS hb) sl_moS (by rw [cf_X11_moves_X11_hears]; exact sc_X11_hears hst hb)
theorem sc_X11_leaves {b base : Nat} {Hb : Heap} {D : va_G} {cA : Nat → ClassId} {l : Launch} (hst : l.stackTraces = false) (hb : b < base) : sl_CC (sl_ad base b) base 331 Hb D cA sl_ln sl_rd sl_VS sl_MS sl_cS sl_sS l 0 yX11_leaves cX11_leaves 5 (sl_rt 1 "") 0 0 1 0 F_X11_leaves :=
  gc_X11_leaves (call := ca_X11_leaves) hst (sl_memS hb) sl_moS 
theorem cf_X11_carry_X11_isOut : ca_X11_carry 91 = F_X11_isOut := by
  funext as m
  unfold ca_X11_carry
  rw [show Nat.ble 122 91 = false from rfl, cond_false, show Nat.ble 120 91 = false from rfl, cond_false, show Nat.beq 91 91 = true from rfl, cond_true]
theorem cf_X11_carry_X11_hears : ca_X11_carry 120 = F_X11_hears := by
  funext as m
  unfold ca_X11_carry
  rw [show Nat.ble 122 120 = false from rfl, cond_false, show Nat.ble 120 120 = true from rfl, cond_true, show Nat.beq 120 120 = true from rfl, cond_true]
theorem cf_X11_carry_X11_moves : ca_X11_carry 122 = F_X11_moves := by
  funext as m
  unfold ca_X11_carry
  rw [show Nat.ble 122 122 = true from rfl, cond_true, show Nat.ble 123 122 = false from rfl, cond_false, show Nat.beq 122 122 = true from rfl, cond_true]
theorem cf_X11_carry_X11_leaves : ca_X11_carry 123 = F_X11_leaves := by
  funext as m
  unfold ca_X11_carry
  rw [show Nat.ble 122 123 = true from rfl, cond_true, show Nat.ble 123 123 = true from rfl, cond_true, show Nat.beq 123 123 = true from rfl, cond_true]
theorem sc_X11_carry {b base : Nat} {Hb : Heap} {D : va_G} {cA : Nat → ClassId} {l : Launch} (hst : l.stackTraces = false) (hb : b < base) : sl_CC (sl_ad base b) base 331 Hb D cA sl_ln sl_rd sl_VS sl_MS sl_cS sl_sS l 0 yX11_carry cX11_carry 5 (sl_rt 1 "") 7 186 1 0 F_X11_carry :=
  gc_X11_carry (call := ca_X11_carry) hst (sl_memS hb) sl_moS (by rw [cf_X11_carry_X11_isOut]; exact sc_X11_isOut hst hb) (by rw [cf_X11_carry_X11_hears]; exact sc_X11_hears hst hb) (by rw [cf_X11_carry_X11_moves]; exact sc_X11_moves hst hb) (by rw [cf_X11_carry_X11_leaves]; exact sc_X11_leaves hst hb)
theorem cf_X11_round_X11_ticks : ca_X11_round 112 = F_X11_ticks := by
  funext as m
  unfold ca_X11_round
  rw [show Nat.ble 122 112 = false from rfl, cond_false, show Nat.beq 112 112 = true from rfl, cond_true]
theorem cf_X11_round_X11_moves : ca_X11_round 122 = F_X11_moves := by
  funext as m
  unfold ca_X11_round
  rw [show Nat.ble 122 122 = true from rfl, cond_true, show Nat.ble 123 122 = false from rfl, cond_false, show Nat.beq 122 122 = true from rfl, cond_true]
theorem cf_X11_round_X11_leaves : ca_X11_round 123 = F_X11_leaves := by
  funext as m
  unfold ca_X11_round
  rw [show Nat.ble 122 123 = true from rfl, cond_true, show Nat.ble 123 123 = true from rfl, cond_true, show Nat.beq 123 123 = true from rfl, cond_true]
theorem sc_X11_round {b base : Nat} {Hb : Heap} {D : va_G} {cA : Nat → ClassId} {l : Launch} (hst : l.stackTraces = false) (hb : b < base) : sl_CC (sl_ad base b) base 331 Hb D cA sl_ln sl_rd sl_VS sl_MS sl_cS sl_sS l 0 yX11_round cX11_round 4 (sl_rt 1 "") 7 186 1 0 F_X11_round :=
  gc_X11_round (call := ca_X11_round) hst (sl_memS hb) sl_moS (by rw [cf_X11_round_X11_ticks]; exact sc_X11_ticks hst hb) (by rw [cf_X11_round_X11_moves]; exact sc_X11_moves hst hb) (by rw [cf_X11_round_X11_leaves]; exact sc_X11_leaves hst hb)
theorem cf_X11_noise_X11_isOut : ca_X11_noise 91 = F_X11_isOut := by
  funext as m
  unfold ca_X11_noise
  rw [show Nat.ble 120 91 = false from rfl, cond_false, show Nat.beq 91 91 = true from rfl, cond_true]
theorem cf_X11_noise_X11_hears : ca_X11_noise 120 = F_X11_hears := by
  funext as m
  unfold ca_X11_noise
  rw [show Nat.ble 120 120 = true from rfl, cond_true, show Nat.beq 120 120 = true from rfl, cond_true]
theorem sc_X11_noise {b base : Nat} {Hb : Heap} {D : va_G} {cA : Nat → ClassId} {l : Launch} (hst : l.stackTraces = false) (hb : b < base) : sl_CC (sl_ad base b) base 331 Hb D cA sl_ln sl_rd sl_VS sl_MS sl_cS sl_sS l 0 yX11_noise cX11_noise 5 (sl_rt 1 "") 6 157 1 0 F_X11_noise :=
  gc_X11_noise (call := ca_X11_noise) hst (sl_memS hb) sl_moS (by rw [cf_X11_noise_X11_isOut]; exact sc_X11_isOut hst hb) (by rw [cf_X11_noise_X11_hears]; exact sc_X11_hears hst hb)
theorem sc_X11_frameAt {b base : Nat} {Hb : Heap} {D : va_G} {cA : Nat → ClassId} {l : Launch} (hst : l.stackTraces = false) (hb : b < base) : sl_CC (sl_ad base b) base 331 Hb D cA sl_ln sl_rd sl_VS sl_MS sl_cS sl_sS l 0 yX11_frameAt cX11_frameAt 3 (sl_rt 1 "") 0 0 1 0 F_X11_frameAt :=
  gc_X11_frameAt (call := ca_X11_frameAt) hst (sl_memS hb) sl_moS 
theorem cf_X11_frame_X11_isOut : ca_X11_frame 91 = F_X11_isOut := by
  funext as m
  unfold ca_X11_frame
  rw [show Nat.ble 127 91 = false from rfl, cond_false, show Nat.beq 91 91 = true from rfl, cond_true]
theorem cf_X11_frame_X11_frameAt : ca_X11_frame 127 = F_X11_frameAt := by
  funext as m
  unfold ca_X11_frame
  rw [show Nat.ble 127 127 = true from rfl, cond_true, show Nat.beq 127 127 = true from rfl, cond_true]
theorem sc_X11_frame {b base : Nat} {Hb : Heap} {D : va_G} {cA : Nat → ClassId} {l : Launch} (hst : l.stackTraces = false) (hb : b < base) : sl_CC (sl_ad base b) base 331 Hb D cA sl_ln sl_rd sl_VS sl_MS sl_cS sl_sS l 0 yX11_frame cX11_frame 5 (sl_rt 1 "") 1 22 1 0 F_X11_frame :=
  gc_X11_frame (call := ca_X11_frame) hst (sl_memS hb) sl_moS (by rw [cf_X11_frame_X11_isOut]; exact sc_X11_isOut hst hb) (by rw [cf_X11_frame_X11_frameAt]; exact sc_X11_frameAt hst hb)
theorem cf_X11_octet_X11_isOut : ca_X11_octet 91 = F_X11_isOut := by
  funext as m
  unfold ca_X11_octet
  rw [show Nat.ble 127 91 = false from rfl, cond_false, show Nat.beq 91 91 = true from rfl, cond_true]
theorem cf_X11_octet_X11_frameAt : ca_X11_octet 127 = F_X11_frameAt := by
  funext as m
  unfold ca_X11_octet
  rw [show Nat.ble 127 127 = true from rfl, cond_true, show Nat.beq 127 127 = true from rfl, cond_true]
theorem sc_X11_octet {b base : Nat} {Hb : Heap} {D : va_G} {cA : Nat → ClassId} {l : Launch} (hst : l.stackTraces = false) (hb : b < base) : sl_CC (sl_ad base b) base 331 Hb D cA sl_ln sl_rd sl_VS sl_MS sl_cS sl_sS l 0 yX11_octet cX11_octet 5 (sl_rt 1 "") 1 22 1 0 F_X11_octet :=
  gc_X11_octet (call := ca_X11_octet) hst (sl_memS hb) sl_moS (by rw [cf_X11_octet_X11_isOut]; exact sc_X11_isOut hst hb) (by rw [cf_X11_octet_X11_frameAt]; exact sc_X11_frameAt hst hb)
theorem cf_X11_line_X11_isOut : ca_X11_line 91 = F_X11_isOut := by
  funext as m
  unfold ca_X11_line
  rw [show Nat.beq 91 91 = true from rfl, cond_true]
theorem sc_X11_line {b base : Nat} {Hb : Heap} {D : va_G} {cA : Nat → ClassId} {l : Launch} (hst : l.stackTraces = false) (hb : b < base) : sl_CC (sl_ad base b) base 331 Hb D cA sl_ln sl_rd sl_VS sl_MS sl_cS sl_sS l 0 yX11_line cX11_line 2 (sl_rt 1 "") 1 21 1 0 F_X11_line :=
  gc_X11_line (call := ca_X11_line) hst (sl_memS hb) sl_moS (by rw [cf_X11_line_X11_isOut]; exact sc_X11_isOut hst hb)
theorem cf_X11_state_X11_isOut : ca_X11_state 91 = F_X11_isOut := by
  funext as m
  unfold ca_X11_state
  rw [show Nat.beq 91 91 = true from rfl, cond_true]
theorem sc_X11_state {b base : Nat} {Hb : Heap} {D : va_G} {cA : Nat → ClassId} {l : Launch} (hst : l.stackTraces = false) (hb : b < base) : sl_CC (sl_ad base b) base 331 Hb D cA sl_ln sl_rd sl_VS sl_MS sl_cS sl_sS l 0 yX11_state cX11_state 5 (sl_rt 1 "") 1 21 1 0 F_X11_state :=
  gc_X11_state (call := ca_X11_state) hst (sl_memS hb) sl_moS (by rw [cf_X11_state_X11_isOut]; exact sc_X11_isOut hst hb)
theorem cf_X11_taken_X11_isOut : ca_X11_taken 91 = F_X11_isOut := by
  funext as m
  unfold ca_X11_taken
  rw [show Nat.beq 91 91 = true from rfl, cond_true]
theorem sc_X11_taken {b base : Nat} {Hb : Heap} {D : va_G} {cA : Nat → ClassId} {l : Launch} (hst : l.stackTraces = false) (hb : b < base) : sl_CC (sl_ad base b) base 331 Hb D cA sl_ln sl_rd sl_VS sl_MS sl_cS sl_sS l 0 yX11_taken cX11_taken 3 (sl_rt 1 "") 1 21 1 0 F_X11_taken :=
  gc_X11_taken (call := ca_X11_taken) hst (sl_memS hb) sl_moS (by rw [cf_X11_taken_X11_isOut]; exact sc_X11_isOut hst hb)
theorem sc_X11_count {b base : Nat} {Hb : Heap} {D : va_G} {cA : Nat → ClassId} {l : Launch} (hst : l.stackTraces = false) (hb : b < base) : sl_CC (sl_ad base b) base 331 Hb D cA sl_ln sl_rd sl_VS sl_MS sl_cS sl_sS l 0 yX11_count cX11_count 2 (sl_rt 1 "") 0 0 1 0 F_X11_count :=
  gc_X11_count (call := ca_X11_count) hst (sl_memS hb) sl_moS 
