def dca_X8_init (y : Nat) (as : List sl_V) (m : sl_D) : Option (sl_PL × sl_D) := none
def dF_X8_init (as : List sl_V) (m : sl_D) : Option (sl_PL × sl_D) := sl_B tb_X8_init fl_X8 pi_X8 cl_X8_init nw_X8 sl_rdD sl_wrD sl_alD sl_ln 0 (fun _ => 0) dca_X8_init sp_X8_init mk_X8_init 100000 (0, sl_lo 1 as, []) m
theorem dc_X8_init {b base : Nat} {Hb : Heap} {D : va_G} {cA : Nat → ClassId} {l : Launch} (hst : l.stackTraces = false) (hb : b < base) : sl_CC (sl_ad base b) base 331 Hb D cA sl_ln sl_rdD sl_VD sl_MD sl_cD sl_sD l 0 yX8_init cX8_init 1 (sl_rt 0 "") 1 20 0 0 dF_X8_init :=
  gc_X8_init (call := dca_X8_init) hst (sl_memD hb) sl_moD 
def dca_X9_init (y : Nat) (as : List sl_V) (m : sl_D) : Option (sl_PL × sl_D) := none
def dF_X9_init (as : List sl_V) (m : sl_D) : Option (sl_PL × sl_D) := sl_B tb_X9_init fl_X9 pi_X9 cl_X9_init nw_X9 sl_rdD sl_wrD sl_alD sl_ln 0 (fun _ => 0) dca_X9_init sp_X9_init mk_X9_init 100000 (0, sl_lo 1 as, []) m
theorem dc_X9_init {b base : Nat} {Hb : Heap} {D : va_G} {cA : Nat → ClassId} {l : Launch} (hst : l.stackTraces = false) (hb : b < base) : sl_CC (sl_ad base b) base 331 Hb D cA sl_ln sl_rdD sl_VD sl_MD sl_cD sl_sD l 0 yX9_init cX9_init 1 (sl_rt 0 "") 1 20 0 0 dF_X9_init :=
  gc_X9_init (call := dca_X9_init) hst (sl_memD hb) sl_moD 
def dca_X6_init (y : Nat) (as : List sl_V) (m : sl_D) : Option (sl_PL × sl_D) := none
def dF_X6_init (as : List sl_V) (m : sl_D) : Option (sl_PL × sl_D) := sl_B tb_X6_init fl_X6 pi_X6 cl_X6_init nw_X6 sl_rdD sl_wrD sl_alD sl_ln 0 (fun _ => 0) dca_X6_init sp_X6_init mk_X6_init 100000 (0, sl_lo 2 as, []) m
theorem dc_X6_init {b base : Nat} {Hb : Heap} {D : va_G} {cA : Nat → ClassId} {l : Launch} (hst : l.stackTraces = false) (hb : b < base) : sl_CC (sl_ad base b) base 331 Hb D cA sl_ln sl_rdD sl_VD sl_MD sl_cD sl_sD l 0 yX6_init cX6_init 2 (sl_rt 0 "") 1 20 0 0 dF_X6_init :=
  gc_X6_init (call := dca_X6_init) hst (sl_memD hb) sl_moD 
def dca_X2_init (y : Nat) (as : List sl_V) (m : sl_D) : Option (sl_PL × sl_D) := bif Nat.beq y 32 then dF_X6_init as m else none
def dF_X2_init (as : List sl_V) (m : sl_D) : Option (sl_PL × sl_D) := sl_B tb_X2_init fl_X2 pi_X2 cl_X2_init nw_X2 sl_rdD sl_wrD sl_alD sl_ln 0 (fun _ => 0) dca_X2_init sp_X2_init mk_X2_init 100000 (0, sl_lo 1 as, []) m
theorem dcf_X2_init_X6_init : dca_X2_init 32 = dF_X6_init := by
  funext as m
  unfold dca_X2_init
  rw [show Nat.beq 32 32 = true from rfl, cond_true]
theorem dc_X2_init {b base : Nat} {Hb : Heap} {D : va_G} {cA : Nat → ClassId} {l : Launch} (hst : l.stackTraces = false) (hb : b < base) : sl_CC (sl_ad base b) base 331 Hb D cA sl_ln sl_rdD sl_VD sl_MD sl_cD sl_sD l 0 yX2_init cX2_init 1 (sl_rt 0 "") 2 41 0 0 dF_X2_init :=
  gc_X2_init (call := dca_X2_init) hst (sl_memD hb) sl_moD (by rw [dcf_X2_init_X6_init]; exact dc_X6_init hst hb)
def dca_X4_init (y : Nat) (as : List sl_V) (m : sl_D) : Option (sl_PL × sl_D) := bif Nat.ble 32 y then (bif Nat.beq y 32 then dF_X6_init as m else none) else (bif Nat.beq y 12 then dF_X2_init as m else none)
def dF_X4_init (as : List sl_V) (m : sl_D) : Option (sl_PL × sl_D) := sl_B tb_X4_init fl_X4 pi_X4 cl_X4_init nw_X4 sl_rdD sl_wrD sl_alD sl_ln 0 (fun _ => 0) dca_X4_init sp_X4_init mk_X4_init 100000 (0, sl_lo 3 as, []) m
theorem dcf_X4_init_X2_init : dca_X4_init 12 = dF_X2_init := by
  funext as m
  unfold dca_X4_init
  rw [show Nat.ble 32 12 = false from rfl, cond_false, show Nat.beq 12 12 = true from rfl, cond_true]
theorem dcf_X4_init_X6_init : dca_X4_init 32 = dF_X6_init := by
  funext as m
  unfold dca_X4_init
  rw [show Nat.ble 32 32 = true from rfl, cond_true, show Nat.beq 32 32 = true from rfl, cond_true]
theorem dc_X4_init {b base : Nat} {Hb : Heap} {D : va_G} {cA : Nat → ClassId} {l : Launch} (hst : l.stackTraces = false) (hb : b < base) : sl_CC (sl_ad base b) base 331 Hb D cA sl_ln sl_rdD sl_VD sl_MD sl_cD sl_sD l 0 yX4_init cX4_init 3 (sl_rt 0 "") 3 61 0 0 dF_X4_init :=
  gc_X4_init (call := dca_X4_init) hst (sl_memD hb) sl_moD (by rw [dcf_X4_init_X2_init]; exact dc_X2_init hst hb) (by rw [dcf_X4_init_X6_init]; exact dc_X6_init hst hb)
def dca_X3_init (y : Nat) (as : List sl_V) (m : sl_D) : Option (sl_PL × sl_D) := none
def dF_X3_init (as : List sl_V) (m : sl_D) : Option (sl_PL × sl_D) := sl_B tb_X3_init fl_X3 pi_X3 cl_X3_init nw_X3 sl_rdD sl_wrD sl_alD sl_ln 0 (fun _ => 0) dca_X3_init sp_X3_init mk_X3_init 100000 (0, sl_lo 1 as, []) m
theorem dc_X3_init {b base : Nat} {Hb : Heap} {D : va_G} {cA : Nat → ClassId} {l : Launch} (hst : l.stackTraces = false) (hb : b < base) : sl_CC (sl_ad base b) base 331 Hb D cA sl_ln sl_rdD sl_VD sl_MD sl_cD sl_sD l 0 yX3_init cX3_init 1 (sl_rt 0 "") 1 20 0 0 dF_X3_init :=
  gc_X3_init (call := dca_X3_init) hst (sl_memD hb) sl_moD 
def dca_X7_init (y : Nat) (as : List sl_V) (m : sl_D) : Option (sl_PL × sl_D) := bif Nat.beq y 32 then dF_X6_init as m else none
def dF_X7_init (as : List sl_V) (m : sl_D) : Option (sl_PL × sl_D) := sl_B tb_X7_init fl_X7 pi_X7 cl_X7_init nw_X7 sl_rdD sl_wrD sl_alD sl_ln 0 (fun _ => 0) dca_X7_init sp_X7_init mk_X7_init 100000 (0, sl_lo 4 as, []) m
theorem dcf_X7_init_X6_init : dca_X7_init 32 = dF_X6_init := by
  funext as m
  unfold dca_X7_init
  rw [show Nat.beq 32 32 = true from rfl, cond_true]
theorem dc_X7_init {b base : Nat} {Hb : Heap} {D : va_G} {cA : Nat → ClassId} {l : Launch} (hst : l.stackTraces = false) (hb : b < base) : sl_CC (sl_ad base b) base 331 Hb D cA sl_ln sl_rdD sl_VD sl_MD sl_cD sl_sD l 0 yX7_init cX7_init 4 (sl_rt 0 "") 2 41 0 0 dF_X7_init :=
  gc_X7_init (call := dca_X7_init) hst (sl_memD hb) sl_moD (by rw [dcf_X7_init_X6_init]; exact dc_X6_init hst hb)
def dca_X5_init (y : Nat) (as : List sl_V) (m : sl_D) : Option (sl_PL × sl_D) := bif Nat.beq y 32 then dF_X6_init as m else none
def dF_X5_init (as : List sl_V) (m : sl_D) : Option (sl_PL × sl_D) := sl_B tb_X5_init fl_X5 pi_X5 cl_X5_init nw_X5 sl_rdD sl_wrD sl_alD sl_ln 0 (fun _ => 0) dca_X5_init sp_X5_init mk_X5_init 100000 (0, sl_lo 4 as, []) m
theorem dcf_X5_init_X6_init : dca_X5_init 32 = dF_X6_init := by
  funext as m
  unfold dca_X5_init
  rw [show Nat.beq 32 32 = true from rfl, cond_true]
theorem dc_X5_init {b base : Nat} {Hb : Heap} {D : va_G} {cA : Nat → ClassId} {l : Launch} (hst : l.stackTraces = false) (hb : b < base) : sl_CC (sl_ad base b) base 331 Hb D cA sl_ln sl_rdD sl_VD sl_MD sl_cD sl_sD l 0 yX5_init cX5_init 4 (sl_rt 0 "") 2 41 0 0 dF_X5_init :=
  gc_X5_init (call := dca_X5_init) hst (sl_memD hb) sl_moD (by rw [dcf_X5_init_X6_init]; exact dc_X6_init hst hb)
def dca_X1_init (y : Nat) (as : List sl_V) (m : sl_D) : Option (sl_PL × sl_D) := bif Nat.ble 32 y then (bif Nat.ble 40 y then (bif Nat.beq y 40 then dF_X7_init as m else none) else (bif Nat.beq y 32 then dF_X6_init as m else none)) else (bif Nat.ble 24 y then (bif Nat.beq y 24 then dF_X5_init as m else none) else (bif Nat.beq y 13 then dF_X3_init as m else none))
def dF_X1_init (as : List sl_V) (m : sl_D) : Option (sl_PL × sl_D) := sl_B tb_X1_init fl_X1 pi_X1 cl_X1_init nw_X1 sl_rdD sl_wrD sl_alD sl_ln 0 (fun _ => 0) dca_X1_init sp_X1_init mk_X1_init 100000 (0, sl_lo 4 as, []) m
theorem dcf_X1_init_X3_init : dca_X1_init 13 = dF_X3_init := by
  funext as m
  unfold dca_X1_init
  rw [show Nat.ble 32 13 = false from rfl, cond_false, show Nat.ble 24 13 = false from rfl, cond_false, show Nat.beq 13 13 = true from rfl, cond_true]
theorem dcf_X1_init_X5_init : dca_X1_init 24 = dF_X5_init := by
  funext as m
  unfold dca_X1_init
  rw [show Nat.ble 32 24 = false from rfl, cond_false, show Nat.ble 24 24 = true from rfl, cond_true, show Nat.beq 24 24 = true from rfl, cond_true]
theorem dcf_X1_init_X6_init : dca_X1_init 32 = dF_X6_init := by
  funext as m
  unfold dca_X1_init
  rw [show Nat.ble 32 32 = true from rfl, cond_true, show Nat.ble 40 32 = false from rfl, cond_false, show Nat.beq 32 32 = true from rfl, cond_true]
theorem dcf_X1_init_X7_init : dca_X1_init 40 = dF_X7_init := by
  funext as m
  unfold dca_X1_init
  rw [show Nat.ble 32 40 = true from rfl, cond_true, show Nat.ble 40 40 = true from rfl, cond_true, show Nat.beq 40 40 = true from rfl, cond_true]
theorem dc_X1_init {b base : Nat} {Hb : Heap} {D : va_G} {cA : Nat → ClassId} {l : Launch} (hst : l.stackTraces = false) (hb : b < base) : sl_CC (sl_ad base b) base 331 Hb D cA sl_ln sl_rdD sl_VD sl_MD sl_cD sl_sD l 0 yX1_init cX1_init 4 (sl_rt 0 "") 3 64 0 0 dF_X1_init :=
  gc_X1_init (call := dca_X1_init) hst (sl_memD hb) sl_moD (by rw [dcf_X1_init_X3_init]; exact dc_X3_init hst hb) (by rw [dcf_X1_init_X5_init]; exact dc_X5_init hst hb) (by rw [dcf_X1_init_X6_init]; exact dc_X6_init hst hb) (by rw [dcf_X1_init_X7_init]; exact dc_X7_init hst hb)
def dca_X10_init (y : Nat) (as : List sl_V) (m : sl_D) : Option (sl_PL × sl_D) := bif Nat.ble 32 y then (bif Nat.ble 50 y then (bif Nat.ble 57 y then (bif Nat.beq y 57 then dF_X9_init as m else none) else (bif Nat.beq y 50 then dF_X8_init as m else none)) else (bif Nat.beq y 32 then dF_X6_init as m else none)) else (bif Nat.ble 13 y then (bif Nat.ble 17 y then (bif Nat.beq y 17 then dF_X4_init as m else none) else (bif Nat.beq y 13 then dF_X3_init as m else none)) else (bif Nat.beq y 3 then dF_X1_init as m else none))
def dF_X10_init (as : List sl_V) (m : sl_D) : Option (sl_PL × sl_D) := sl_B tb_X10_init fl_X10 pi_X10 cl_X10_init nw_X10 sl_rdD sl_wrD sl_alD sl_ln 0 (fun _ => 0) dca_X10_init sp_X10_init mk_X10_init 100000 (0, sl_lo 1 as, []) m
theorem dcf_X10_init_X1_init : dca_X10_init 3 = dF_X1_init := by
  funext as m
  unfold dca_X10_init
  rw [show Nat.ble 32 3 = false from rfl, cond_false, show Nat.ble 13 3 = false from rfl, cond_false, show Nat.beq 3 3 = true from rfl, cond_true]
theorem dcf_X10_init_X3_init : dca_X10_init 13 = dF_X3_init := by
  funext as m
  unfold dca_X10_init
  rw [show Nat.ble 32 13 = false from rfl, cond_false, show Nat.ble 13 13 = true from rfl, cond_true, show Nat.ble 17 13 = false from rfl, cond_false, show Nat.beq 13 13 = true from rfl, cond_true]
theorem dcf_X10_init_X4_init : dca_X10_init 17 = dF_X4_init := by
  funext as m
  unfold dca_X10_init
  rw [show Nat.ble 32 17 = false from rfl, cond_false, show Nat.ble 13 17 = true from rfl, cond_true, show Nat.ble 17 17 = true from rfl, cond_true, show Nat.beq 17 17 = true from rfl, cond_true]
theorem dcf_X10_init_X6_init : dca_X10_init 32 = dF_X6_init := by
  funext as m
  unfold dca_X10_init
  rw [show Nat.ble 32 32 = true from rfl, cond_true, show Nat.ble 50 32 = false from rfl, cond_false, show Nat.beq 32 32 = true from rfl, cond_true]
theorem dcf_X10_init_X8_init : dca_X10_init 50 = dF_X8_init := by
  funext as m
  unfold dca_X10_init
  rw [show Nat.ble 32 50 = true from rfl, cond_true, show Nat.ble 50 50 = true from rfl, cond_true, show Nat.ble 57 50 = false from rfl, cond_false, show Nat.beq 50 50 = true from rfl, cond_true]
theorem dcf_X10_init_X9_init : dca_X10_init 57 = dF_X9_init := by
  funext as m
  unfold dca_X10_init
  rw [show Nat.ble 32 57 = true from rfl, cond_true, show Nat.ble 50 57 = true from rfl, cond_true, show Nat.ble 57 57 = true from rfl, cond_true, show Nat.beq 57 57 = true from rfl, cond_true]
theorem dc_X10_init {b base : Nat} {Hb : Heap} {D : va_G} {cA : Nat → ClassId} {l : Launch} (hst : l.stackTraces = false) (hb : b < base) : sl_CC (sl_ad base b) base 331 Hb D cA sl_ln sl_rdD sl_VD sl_MD sl_cD sl_sD l 0 yX10_init cX10_init 1 (sl_rt 0 "") 4 87 0 0 dF_X10_init :=
  gc_X10_init (call := dca_X10_init) hst (sl_memD hb) sl_moD (by rw [dcf_X10_init_X1_init]; exact dc_X1_init hst hb) (by rw [dcf_X10_init_X3_init]; exact dc_X3_init hst hb) (by rw [dcf_X10_init_X4_init]; exact dc_X4_init hst hb) (by rw [dcf_X10_init_X6_init]; exact dc_X6_init hst hb) (by rw [dcf_X10_init_X8_init]; exact dc_X8_init hst hb) (by rw [dcf_X10_init_X9_init]; exact dc_X9_init hst hb)
def dca_X11_first (y : Nat) (as : List sl_V) (m : sl_D) : Option (sl_PL × sl_D) := none
def dF_X11_first (as : List sl_V) (m : sl_D) : Option (sl_PL × sl_D) := sl_B tb_X11_first fl_X11 pf_X11 cl_X11_first nw_X11 sl_rdD sl_wrD sl_alD sl_ln 0 (fun _ => 0) dca_X11_first sp_X11_first mk_X11_first 100000 (0, sl_lo 3 as, []) m
theorem dc_X11_first {b base : Nat} {Hb : Heap} {D : va_G} {cA : Nat → ClassId} {l : Launch} (hst : l.stackTraces = false) (hb : b < base) : sl_CC (sl_ad base b) base 331 Hb D cA sl_ln sl_rdD sl_VD sl_MD sl_cD sl_sD l 0 yX11_first cX11_first 3 (sl_rt 0 "") 0 0 0 0 dF_X11_first :=
  gc_X11_first (call := dca_X11_first) hst (sl_memD hb) sl_moD 
def dca_X11_init (y : Nat) (as : List sl_V) (m : sl_D) : Option (sl_PL × sl_D) := bif Nat.beq y 104 then dF_X11_first as m else none
def dF_X11_init (as : List sl_V) (m : sl_D) : Option (sl_PL × sl_D) := sl_B tb_X11_init fl_X11 pi_X11 cl_X11_init nw_X11 sl_rdD sl_wrD sl_alD sl_ln 0 (fun _ => 0) dca_X11_init sp_X11_init mk_X11_init 100000 (0, sl_lo 4 as, []) m
theorem dcf_X11_init_X11_first : dca_X11_init 104 = dF_X11_first := by
  funext as m
  unfold dca_X11_init
  rw [show Nat.beq 104 104 = true from rfl, cond_true]
theorem dc_X11_init {b base : Nat} {Hb : Heap} {D : va_G} {cA : Nat → ClassId} {l : Launch} (hst : l.stackTraces = false) (hb : b < base) : sl_CC (sl_ad base b) base 331 Hb D cA sl_ln sl_rdD sl_VD sl_MD sl_cD sl_sD l 0 yX11_init cX11_init 4 (sl_rt 0 "") 1 22 0 0 dF_X11_init :=
  gc_X11_init (call := dca_X11_init) hst (sl_memD hb) sl_moD (by rw [dcf_X11_init_X11_first]; exact dc_X11_first hst hb)
/-- the two objects made: the component, the model -/
def sl_d0 : Option sl_D := (sl_alD (0, 0, [], []) 10 0).bind (fun q => (dF_X10_init [.inr (.inl (some (10, 0)))] q.2).bind (fun r => some r.2))
def sl_ld (x : Option sl_D) : sl_D := match x with
  | some d => d
  | none => (0, 0, [], [])

