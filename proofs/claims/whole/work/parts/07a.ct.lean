/-! ===== contracts: what a table and its facts give ===== -/
/-- a table's entries, as a list -/
theorem sl_tA {α : Type} [BEq α] [LawfulBEq α] {t : Nat → Option α} {N : Nat} {L : List (Nat × α)} (hN : ∀ p, N ≤ p → t p = none) (h : (List.range N).all (fun p => match t p with
    | some e => L.contains (p, e)
    | none => true) = true) : ∀ p e, t p = some e → (p, e) ∈ L := by
  intro p e ht
  have hlt : p < N := by
    rcases Nat.lt_or_ge p N with q | q
    · exact q
    · rw [hN p q] at ht; cases ht
  have h1 := List.all_eq_true.mp h p (List.mem_range.mpr hlt)
  rw [ht] at h1
  exact List.contains_iff_mem.mp h1
def sl_tC (N : Nat) (cl : Nat → Option sl_C) (LC : List (Nat × sl_C)) : Bool := (List.range N).all (fun p => match cl p with
  | some e => LC.contains (p, e)
  | none => true)
theorem sl_tC_at {cl : Nat → Option sl_C} {N : Nat} {LC : List (Nat × sl_C)} (hN : ∀ p, N ≤ p → cl p = none) (h : sl_tC N cl LC = true) {p : Nat} {e : sl_C} (ht : cl p = some e) : (p, e) ∈ LC := by
  have hlt : p < N := by
    rcases Nat.lt_or_ge p N with q | q
    · exact q
    · rw [hN p q] at ht; cases ht
  have h1 := List.all_eq_true.mp h p (List.mem_range.mpr hlt)
  rw [ht] at h1
  exact List.contains_iff_mem.mp h1
def sl_rt (retk : Nat) (N : String) : Option FieldType := match retk with
  | 0 => none
  | 1 => some .int
  | 2 => some .boolean
  | _ => some (.object N)
def sl_sb (nL rk rc retk : Nat) (L55 L56 L59 L61 : List Nat) (L60 : List (Nat × Int32)) (pc : Nat) (E : sl_E) : Bool := match E.1 with
  | 3 => Nat.blt E.2.2.1 nL
  | 4 => Nat.blt E.2.2.1 nL
  | 47 => rk == 1 && ((E.2.2.1 == 1 && retk == 1) || (!(E.2.2.1 == 1) && retk == 2))
  | 48 => rk == 2 && (rc == E.2.2.1 && retk == 3)
  | 49 => rk == 3 && (rc == E.2.2.1 && retk == 3)
  | 50 => rk == 0 && retk == 0
  | 55 => L55.contains E.2.2.1
  | 56 => L56.contains pc
  | 59 => L59.contains E.2.2.1
  | 60 => L60.contains (E.2.2.1, E.2.1)
  | 61 => L61.contains E.2.2.1
  | 62 => false
  | 63 => false
  | _ => true
def sl_sT (nL rk rc retk : Nat) (L55 L56 L59 L61 : List Nat) (L60 : List (Nat × Int32)) (tb : Nat → Option sl_E) (N : Nat) : Bool := (List.range N).all (fun pc => match tb pc with
  | some E => sl_sb nL rk rc retk L55 L56 L59 L61 L60 pc E
  | none => true)
theorem sl_sT_at {nL rk rc retk : Nat} {L55 L56 L59 L61 : List Nat} {L60 : List (Nat × Int32)} {tb : Nat → Option sl_E} {N : Nat} (h : sl_sT nL rk rc retk L55 L56 L59 L61 L60 tb N = true) (hN : ∀ pc, N ≤ pc → tb pc = none) {pc : Nat} {E : sl_E} (ht : tb pc = some E) : sl_sb nL rk rc retk L55 L56 L59 L61 L60 pc E = true := by
  have hlt : pc < N := by
    rcases Nat.lt_or_ge pc N with q | q
    · exact q
    · rw [hN pc q] at ht; cases ht
  have h1 := List.all_eq_true.mp h pc (List.mem_range.mpr hlt)
  rw [ht] at h1
  exact h1
def sl_f59 (own : String) (j : Nat) : Prop := Cond.methodLink own j Lib.objectInit ∈ sl_GW ∧ Cond.instanceMethod Lib.objectInit ∈ sl_GW ∧ Cond.code Lib.objectInit ⟨#[0xb1]⟩ 1 none ∈ sl_GW
def sl_f55 (j : Nat) : Prop := 100 ≤ j ∧ ∀ ty : ArrayType, sl_nk ty = j → Cond.arrayClass (newarray.typeOf ty) ∈ sl_GW
def sl_f56 (own : String) (B : ByteArray) (pc : Nat) : Prop := own = RX10 ∧ (∃ is : Nat, (is = 242 ∨ is = 247) ∧ decode B pc = .ok (.new 240, 3) ∧ decode B (pc + 3) = .ok (.dup, 1) ∧ decode B (pc + 4) = .ok (.ldc is, 2) ∧ decode B (pc + 6) = .ok (.invokespecial 244, 3) ∧ decode B (pc + 9) = .ok (.athrow, 1))
theorem sl_sb_sd {own : String} {nL rk rc retk rf rl : Nat} {L55 L56 L59 L61 : List Nat} {L60 : List (Nat × Int32)} {pc k j n : Nat} {a : Int32} {ts : List Nat} (h : sl_sb nL rk rc retk L55 L56 L59 L61 L60 pc (k, a, j, n, ts) = true)
    (h59 : ∀ j ∈ L59, sl_f59 own j) (h59r : L59 = [] ∨ (1 ≤ rf ∧ 20 ≤ rl)) (h60 : ∀ q ∈ L60, Cond.constant own q.1 q.2 ∈ sl_GW) (h55 : ∀ j ∈ L55, sl_f55 j) (h61 : ∀ j ∈ L61, Cond.classLink own j "SerialLink$Frame" ∈ sl_GW) : sl_sd own nL rf rl k a j := by
  refine ⟨fun hk => ?_, fun hk => ?_, fun hk => ?_, fun hk => ?_, fun hk => ?_⟩
  · rcases hk with rfl | rfl
    · exact Nat.le_of_ble_eq_true h
    · exact Nat.le_of_ble_eq_true h
  · subst hk
    have h1 : j ∈ L59 := List.contains_iff_mem.mp h
    refine ⟨h59 j h1, ?_⟩
    rcases h59r with q | q
    · rw [q] at h1; cases h1
    · exact q
  · subst hk
    exact h60 (j, a) (List.contains_iff_mem.mp h)
  · subst hk
    exact h55 j (List.contains_iff_mem.mp h)
  · subst hk
    exact h61 j (List.contains_iff_mem.mp h)
theorem sl_sb_se {B : ByteArray} {own N : String} {nL rk rc retk fr lc : Nat} {L55 L56 L59 L61 : List Nat} {L60 : List (Nat × Int32)} {pc k j n : Nat} {a : Int32} {ts : List Nat} (h : sl_sb nL rk rc retk L55 L56 L59 L61 L60 pc (k, a, j, n, ts) = true)
    (h56 : ∀ pc ∈ L56, sl_f56 own B pc) (h56r : L56 = [] ∨ (5 < fr ∧ 82 ≤ lc)) : sl_se B own (sl_rt retk N) rk rc fr lc pc k j := by
  refine ⟨fun hk => ?_, fun hk => ?_, fun hk => ?_, fun hk => ?_, fun hk => ?_, fun hk => ?_, fun hk => ?_⟩ <;> subst hk
  · replace h : (rk == 1 && ((j == 1 && retk == 1) || (!(j == 1) && retk == 2))) = true := h
    simp only [Bool.and_eq_true, Bool.or_eq_true, beq_iff_eq, Bool.not_eq_true', beq_eq_false_iff_ne] at h
    refine ⟨h.1, ?_⟩
    rcases h.2 with ⟨h1, rfl⟩ | ⟨h1, rfl⟩
    · exact Or.inl ⟨h1, rfl⟩
    · exact Or.inr ⟨h1, rfl⟩
  · replace h : (rk == 2 && (rc == j && retk == 3)) = true := h
    simp only [Bool.and_eq_true, beq_iff_eq] at h
    obtain ⟨h1, h2, rfl⟩ := h
    exact ⟨h1, h2, N, rfl⟩
  · replace h : (rk == 3 && (rc == j && retk == 3)) = true := h
    simp only [Bool.and_eq_true, beq_iff_eq] at h
    obtain ⟨h1, h2, rfl⟩ := h
    exact ⟨h1, h2, N, rfl⟩
  · replace h : (rk == 0 && retk == 0) = true := h
    simp only [Bool.and_eq_true, beq_iff_eq] at h
    obtain ⟨h1, rfl⟩ := h
    exact ⟨h1, rfl⟩
  · have h1 : pc ∈ L56 := List.contains_iff_mem.mp h
    obtain ⟨q1, q2⟩ := h56 pc h1
    refine ⟨q1, q2, ?_⟩
    rcases h56r with q | q
    · rw [q] at h1; cases h1
    · exact q
  · cases h
  · cases h
theorem sl_sb_56 {nL rk rc retk : Nat} {L55 L56 L59 L61 : List Nat} {L60 : List (Nat × Int32)} {pc k j n : Nat} {a : Int32} {ts : List Nat} (h : sl_sb nL rk rc retk L55 L56 L59 L61 L60 pc (k, a, j, n, ts) = true) (hk : k = 56) : L56 ≠ [] := by
  subst hk
  have h1 : pc ∈ L56 := List.contains_iff_mem.mp h
  intro q
  rw [q] at h1; cases h1
section SLP
variable {M : Type} (ad : Nat → Nat → Nat) (base NA : Nat) (Hb : Heap) (D : va_G) (cA : Nat → ClassId) (ln : Nat → Nat → Nat) (rd : M → Nat → Nat → Nat → sl_V) (VR : M → Nat × Nat → Prop) (MI : M → Prop) (cn sn : M → Nat) (l : Launch)
def sl_CC (th : Nat) (Y : MethodName) (B : ByteArray) (mL : Nat) (ret : Option FieldType) (fr lc rk rc : Nat) (F : List sl_V → M → Option (sl_PL × M)) : Prop := sl_Cp cn sn th F ∧ sl_Ct ad base NA Hb D cA ln rd VR MI cn sn l Y B mL ret fr lc rk rc F
end SLP
section SLP2
variable {M : Type} {ad : Nat → Nat → Nat} {base NA : Nat} {Hb : Heap} {D : va_G} {cA : Nat → ClassId} {ln : Nat → Nat → Nat} {rd : M → Nat → Nat → Nat → sl_V} {VR : M → Nat × Nat → Prop} {MI : M → Prop} {cn sn : M → Nat} {l : Launch}
variable {wr : M → Nat → Nat → Nat → sl_V → Option M} {al : M → Nat → Int32 → Option ((Nat × Nat) × M)} {tb : Nat → Option sl_E} {fl : Nat → Option (Nat × Nat)} {pf : Nat → Option (Nat × Nat × Nat)} {cl : Nat → Option sl_C} {nw : Nat → Option Nat} {call : Nat → List sl_V → M → Option (sl_PL × M)} {stop : Nat → Bool} {mask : Nat → List Bool}
theorem sl_mk {Y : MethodName} {B : ByteArray} {mL fr lc rk rc retk th9 NT NC : Nat} {N : String} {ck : Nat → Nat} {L55 L56 L59 L61 : List Nat} {L60 : List (Nat × Int32)} {LC : List (Nat × sl_C)}
    (hst : l.stackTraces = false) (hM : sl_Mem ad base NA ln rd VR cn wr al MI sn) (hMo : sl_Mo wr al cn sn) (hNA : th9 ≠ 0 → ∀ m, NA ≤ cn m) (hpl : plainFor Y = true) (hpl2 : th9 ≠ 0 → plainName Y.cls = true)
    (hNT : ∀ p, NT ≤ p → tb p = none) (hd : sl_okT B ck tb NT = true) (hs : sl_sT mL rk rc retk L55 L56 L59 L61 L60 tb NT = true)
    (h55 : ∀ j ∈ L55, sl_f55 j) (h56 : ∀ pc ∈ L56, sl_f56 Y.cls B pc) (h56r : L56 = [] ∨ (5 < fr ∧ 82 ≤ lc)) (h56t : L56 = [] ∨ th9 ≠ 0) (h59 : ∀ j ∈ L59, sl_f59 Y.cls j) (h59r : L59 = [] ∨ (1 ≤ fr ∧ 20 ≤ lc)) (h60 : ∀ q ∈ L60, Cond.constant Y.cls q.1 q.2 ∈ sl_GW) (h61 : ∀ j ∈ L61, Cond.classLink Y.cls j "SerialLink$Frame" ∈ sl_GW)
    (hfl : sl_hfl Y.cls fl) (hpf : sl_hpf Y.cls Y.name pf) (hnw : sl_hnw Y.cls nw)
    (hNC : ∀ p, NC ≤ p → cl p = none) (hLC : sl_tC NC cl LC = true)
    (hcl : ∀ q ∈ LC, ∃ (Y1 : MethodName) (B1 : ByteArray) (mL1 : Nat) (ret1 : Option FieldType) (fr1 lc1 : Nat), sl_cok Y.cls q.1 (ck q.1) Y1 B1 mL1 ret1 q.2.2.1 q.2.2.2.2.2.2 fr1 lc1 fr lc ∧ (q.2.2.2.2.2.1 ≠ 0 → ck q.1 = 0 ∧ th9 ≠ 0) ∧ sl_CC ad base NA Hb D cA ln rd VR MI cn sn l q.2.2.2.2.2.1 Y1 B1 mL1 ret1 fr1 lc1 q.2.2.2.1 q.2.2.2.2.1 (call q.2.1)) :
    sl_CC ad base NA Hb D cA ln rd VR MI cn sn l th9 Y B mL (sl_rt retk N) fr lc rk rc (fun as m => sl_B tb fl pf cl nw rd wr al ln 0 (fun _ => 0) call stop mask 100000 (0, sl_lo mL as, []) m) := by
  have hcl2 : ∀ j y na rk rc th rv, cl j = some (y, na, rk, rc, th, rv) → ∃ (Y1 : MethodName) (B1 : ByteArray) (mL1 : Nat) (ret1 : Option FieldType) (fr1 lc1 : Nat), sl_cok Y.cls j (ck j) Y1 B1 mL1 ret1 na rv fr1 lc1 fr lc ∧ (th ≠ 0 → ck j = 0 ∧ th9 ≠ 0) ∧ sl_CC ad base NA Hb D cA ln rd VR MI cn sn l th Y1 B1 mL1 ret1 fr1 lc1 rk rc (call y) :=
    fun j y na rk rc th rv hj => hcl (j, (y, na, rk, rc, th, rv)) (sl_tC_at hNC hLC hj)
  have h56a : ∀ p k a j n ts, tb p = some (k, a, j, n, ts) → k = 56 → th9 ≠ 0 := fun p k a j n ts ht hk => by
    rcases h56t with q | q
    · exact absurd q (sl_sb_56 (sl_sT_at hs hNT ht) hk)
    · exact q
  refine ⟨sl_F_cp hMo (fun j y na rk rc th rv hj => ?_) h56a, sl_meth hpl hpl2 hst hM hMo (fun pc E ht => sl_okT_at hd hNT ht) (fun pc k a j n ts ht => sl_sb_sd (sl_sT_at hs hNT ht) h59 h59r h60 h55 h61) (fun pc k a j n ts ht => sl_sb_se (sl_sT_at hs hNT ht) h56 h56r) hfl hpf hnw (fun j y na rk rc th rv hj => ?_) (fun j y na rk rc th rv hj => ?_) h56a hNA⟩
  · obtain ⟨_, _, _, _, _, _, -, h2, h3⟩ := hcl2 _ _ _ _ _ _ _ hj
    exact ⟨h3.1, fun h => (h2 h).2⟩
  · obtain ⟨Y1, B1, mL1, ret1, fr1, lc1, h1, h2, h3⟩ := hcl2 _ _ _ _ _ _ _ hj
    exact ⟨Y1, B1, mL1, ret1, fr1, lc1, h1, fun h => (h2 h).1, h3.1, h3.2⟩
  · obtain ⟨_, _, _, _, _, _, -, h2, -⟩ := hcl2 _ _ _ _ _ _ _ hj
    exact fun h => (h2 h).2
end SLP2
def tb_X1_init (p : Nat) : Option sl_E := bif Nat.ble 80 p then none else (bif Nat.ble 43 p then (bif Nat.ble 59 p then (bif Nat.ble 70 p then (bif Nat.ble 73 p then (bif Nat.ble 76 p then (bif Nat.ble 79 p then (bif Nat.beq p 79 then some (50, 0, 0, 1, []) else none) else (bif Nat.beq p 76 then some (36, 0, 50, 3, []) else none)) else (bif Nat.beq p 73 then some (46, 0, 49, 3, []) else none)) else (bif Nat.ble 71 p then (bif Nat.ble 72 p then (bif Nat.beq p 72 then some (1, 0, 3, 1, []) else none) else (bif Nat.beq p 71 then some (1, 0, 2, 1, []) else none)) else (bif Nat.beq p 70 then some (1, 0, 1, 1, []) else none))) else (bif Nat.ble 65 p then (bif Nat.ble 66 p then (bif Nat.ble 69 p then (bif Nat.beq p 69 then some (19, 0, 0, 1, []) else none) else (bif Nat.beq p 66 then some (54, 0, 47, 3, []) else none)) else (bif Nat.beq p 65 then some (1, 0, 0, 1, []) else none)) else (bif Nat.ble 62 p then (bif Nat.beq p 62 then some (36, 0, 43, 3, []) else none) else (bif Nat.beq p 59 then some (46, 0, 40, 3, []) else none)))) else (bif Nat.ble 52 p then (bif Nat.ble 56 p then (bif Nat.ble 57 p then (bif Nat.ble 58 p then (bif Nat.beq p 58 then some (1, 0, 3, 1, []) else none) else (bif Nat.beq p 57 then some (1, 0, 2, 1, []) else none)) else (bif Nat.beq p 56 then some (1, 0, 1, 1, []) else none)) else (bif Nat.ble 55 p then (bif Nat.beq p 55 then some (19, 0, 0, 1, []) else none) else (bif Nat.beq p 52 then some (54, 0, 38, 3, []) else none))) else (bif Nat.ble 47 p then (bif Nat.ble 48 p then (bif Nat.ble 51 p then (bif Nat.beq p 51 then some (1, 0, 0, 1, []) else none) else (bif Nat.beq p 48 then some (36, 0, 34, 3, []) else none)) else (bif Nat.beq p 47 then some (1, 0, 2, 1, []) else none)) else (bif Nat.ble 46 p then (bif Nat.beq p 46 then some (1, 0, 0, 1, []) else none) else (bif Nat.beq p 43 then some (36, 0, 30, 3, []) else none))))) else (bif Nat.ble 21 p then (bif Nat.ble 31 p then (bif Nat.ble 38 p then (bif Nat.ble 41 p then (bif Nat.ble 42 p then (bif Nat.beq p 42 then some (1, 0, 1, 1, []) else none) else (bif Nat.beq p 41 then some (1, 0, 0, 1, []) else none)) else (bif Nat.beq p 38 then some (36, 0, 26, 3, []) else none)) else (bif Nat.ble 34 p then (bif Nat.ble 35 p then (bif Nat.beq p 35 then some (46, 0, 25, 3, []) else none) else (bif Nat.beq p 34 then some (19, 0, 0, 1, []) else none)) else (bif Nat.beq p 31 then some (54, 0, 23, 3, []) else none))) else (bif Nat.ble 24 p then (bif Nat.ble 27 p then (bif Nat.ble 30 p then (bif Nat.beq p 30 then some (1, 0, 0, 1, []) else none) else (bif Nat.beq p 27 then some (36, 0, 20, 3, []) else none)) else (bif Nat.beq p 24 then some (46, 0, 11, 3, []) else none)) else (bif Nat.ble 22 p then (bif Nat.beq p 22 then some (2, 120, 0, 2, []) else none) else (bif Nat.beq p 21 then some (19, 0, 0, 1, []) else none)))) else (bif Nat.ble 9 p then (bif Nat.ble 14 p then (bif Nat.ble 17 p then (bif Nat.ble 18 p then (bif Nat.beq p 18 then some (54, 0, 9, 3, []) else none) else (bif Nat.beq p 17 then some (1, 0, 0, 1, []) else none)) else (bif Nat.beq p 14 then some (36, 0, 14, 3, []) else none)) else (bif Nat.ble 11 p then (bif Nat.beq p 11 then some (46, 0, 11, 3, []) else none) else (bif Nat.beq p 9 then some (2, 120, 0, 2, []) else none))) else (bif Nat.ble 4 p then (bif Nat.ble 5 p then (bif Nat.ble 8 p then (bif Nat.beq p 8 then some (19, 0, 0, 1, []) else none) else (bif Nat.beq p 5 then some (54, 0, 9, 3, []) else none)) else (bif Nat.beq p 4 then some (1, 0, 0, 1, []) else none)) else (bif Nat.ble 1 p then (bif Nat.beq p 1 then some (59, 0, 3, 3, []) else none) else (bif Nat.beq p 0 then some (1, 0, 0, 1, []) else none))))))
def cl_X1_init (p : Nat) : Option sl_C := bif Nat.ble 50 p then none else (bif Nat.ble 40 p then (bif Nat.ble 49 p then (bif Nat.beq p 49 then some (24, 4, 0, 0, 0, 6) else none) else (bif Nat.beq p 40 then some (40, 4, 0, 0, 0, 8) else none)) else (bif Nat.ble 25 p then (bif Nat.beq p 25 then some (13, 1, 0, 0, 0, 4) else none) else (bif Nat.beq p 11 then some (32, 2, 0, 0, 0, 7) else none)))
def sp_X1_init (p : Nat) : Bool := false
def mk_X1_init (p : Nat) : List Bool := []
def tb_X2_init (p : Nat) : Option sl_E := bif Nat.ble 18 p then none else (bif Nat.ble 8 p then (bif Nat.ble 11 p then (bif Nat.ble 14 p then (bif Nat.ble 17 p then (bif Nat.beq p 17 then some (50, 0, 0, 1, []) else none) else (bif Nat.beq p 14 then some (36, 0, 14, 3, []) else none)) else (bif Nat.beq p 11 then some (46, 0, 11, 3, []) else none)) else (bif Nat.ble 9 p then (bif Nat.beq p 9 then some (2, 67, 0, 2, []) else none) else (bif Nat.beq p 8 then some (19, 0, 0, 1, []) else none))) else (bif Nat.ble 4 p then (bif Nat.ble 5 p then (bif Nat.beq p 5 then some (54, 0, 9, 3, []) else none) else (bif Nat.beq p 4 then some (1, 0, 0, 1, []) else none)) else (bif Nat.ble 1 p then (bif Nat.beq p 1 then some (59, 0, 3, 3, []) else none) else (bif Nat.beq p 0 then some (1, 0, 0, 1, []) else none))))
def cl_X2_init (p : Nat) : Option sl_C := bif Nat.ble 12 p then none else (bif Nat.beq p 11 then some (32, 2, 0, 0, 0, 7) else none)
def sp_X2_init (p : Nat) : Bool := false
def mk_X2_init (p : Nat) : List Bool := []
def tb_X3_init (p : Nat) : Option sl_E := bif Nat.ble 10 p then none else (bif Nat.ble 5 p then (bif Nat.ble 6 p then (bif Nat.ble 9 p then (bif Nat.beq p 9 then some (50, 0, 0, 1, []) else none) else (bif Nat.beq p 6 then some (36, 0, 9, 3, []) else none)) else (bif Nat.beq p 5 then some (2, (-1), 0, 1, []) else none)) else (bif Nat.ble 1 p then (bif Nat.ble 4 p then (bif Nat.beq p 4 then some (1, 0, 0, 1, []) else none) else (bif Nat.beq p 1 then some (59, 0, 3, 3, []) else none)) else (bif Nat.beq p 0 then some (1, 0, 0, 1, []) else none)))
def cl_X3_init (p : Nat) : Option sl_C := none
def sp_X3_init (p : Nat) : Bool := false
def mk_X3_init (p : Nat) : List Bool := []
def tb_X4_init (p : Nat) : Option sl_E := bif Nat.ble 62 p then none else (bif Nat.ble 32 p then (bif Nat.ble 46 p then (bif Nat.ble 54 p then (bif Nat.ble 58 p then (bif Nat.ble 61 p then (bif Nat.beq p 61 then some (50, 0, 0, 1, []) else none) else (bif Nat.beq p 58 then some (34, 0, 33, 3, []) else none)) else (bif Nat.ble 55 p then (bif Nat.beq p 55 then some (5, 1, 2, 3, []) else none) else (bif Nat.beq p 54 then some (43, 0, 0, 1, []) else none))) else (bif Nat.ble 50 p then (bif Nat.ble 51 p then (bif Nat.beq p 51 then some (46, 0, 30, 3, []) else none) else (bif Nat.beq p 50 then some (19, 0, 0, 1, []) else none)) else (bif Nat.ble 47 p then (bif Nat.beq p 47 then some (54, 0, 9, 3, []) else none) else (bif Nat.beq p 46 then some (0, 0, 2, 1, []) else none)))) else (bif Nat.ble 38 p then (bif Nat.ble 42 p then (bif Nat.ble 43 p then (bif Nat.beq p 43 then some (35, 0, 11, 3, []) else none) else (bif Nat.beq p 42 then some (1, 0, 0, 1, []) else none)) else (bif Nat.ble 39 p then (bif Nat.beq p 39 then some (25, 0, 61, 3, []) else none) else (bif Nat.beq p 38 then some (45, 0, 0, 1, []) else none))) else (bif Nat.ble 34 p then (bif Nat.ble 35 p then (bif Nat.beq p 35 then some (35, 0, 11, 3, []) else none) else (bif Nat.beq p 34 then some (1, 0, 0, 1, []) else none)) else (bif Nat.ble 33 p then (bif Nat.beq p 33 then some (0, 0, 2, 1, []) else none) else (bif Nat.beq p 32 then some (3, 0, 2, 1, []) else none))))) else (bif Nat.ble 17 p then (bif Nat.ble 26 p then (bif Nat.ble 28 p then (bif Nat.ble 31 p then (bif Nat.beq p 31 then some (2, 0, 0, 1, []) else none) else (bif Nat.beq p 28 then some (36, 0, 26, 3, []) else none)) else (bif Nat.ble 27 p then (bif Nat.beq p 27 then some (1, 0, 1, 1, []) else none) else (bif Nat.beq p 26 then some (1, 0, 0, 1, []) else none))) else (bif Nat.ble 20 p then (bif Nat.ble 23 p then (bif Nat.beq p 23 then some (36, 0, 22, 3, []) else none) else (bif Nat.beq p 20 then some (46, 0, 19, 3, []) else none)) else (bif Nat.ble 18 p then (bif Nat.beq p 18 then some (2, 65, 0, 2, []) else none) else (bif Nat.beq p 17 then some (19, 0, 0, 1, []) else none)))) else (bif Nat.ble 7 p then (bif Nat.ble 13 p then (bif Nat.ble 14 p then (bif Nat.beq p 14 then some (54, 0, 17, 3, []) else none) else (bif Nat.beq p 13 then some (1, 0, 0, 1, []) else none)) else (bif Nat.ble 10 p then (bif Nat.beq p 10 then some (36, 0, 11, 3, []) else none) else (bif Nat.beq p 7 then some (61, 0, 9, 3, []) else none))) else (bif Nat.ble 4 p then (bif Nat.ble 5 p then (bif Nat.beq p 5 then some (2, 40, 0, 2, []) else none) else (bif Nat.beq p 4 then some (1, 0, 0, 1, []) else none)) else (bif Nat.ble 1 p then (bif Nat.beq p 1 then some (59, 0, 3, 3, []) else none) else (bif Nat.beq p 0 then some (1, 0, 0, 1, []) else none))))))
def cl_X4_init (p : Nat) : Option sl_C := bif Nat.ble 31 p then none else (bif Nat.ble 30 p then (bif Nat.beq p 30 then some (12, 1, 0, 0, 0, 3) else none) else (bif Nat.beq p 19 then some (32, 2, 0, 0, 0, 7) else none))
def sp_X4_init (p : Nat) : Bool := Nat.beq p 33
def mk_X4_init (p : Nat) : List Bool := bif Nat.beq p 33 then [true, false, true] else []
def tb_X5_init (p : Nat) : Option sl_E := bif Nat.ble 66 p then none else (bif Nat.ble 34 p then (bif Nat.ble 50 p then (bif Nat.ble 56 p then (bif Nat.ble 62 p then (bif Nat.ble 65 p then (bif Nat.beq p 65 then some (50, 0, 0, 1, []) else none) else (bif Nat.beq p 62 then some (36, 0, 39, 3, []) else none)) else (bif Nat.ble 59 p then (bif Nat.beq p 59 then some (2, 3840, 0, 3, []) else none) else (bif Nat.beq p 56 then some (35, 0, 24, 3, []) else none))) else (bif Nat.ble 52 p then (bif Nat.ble 55 p then (bif Nat.beq p 55 then some (1, 0, 0, 1, []) else none) else (bif Nat.beq p 52 then some (36, 0, 35, 3, []) else none)) else (bif Nat.ble 51 p then (bif Nat.beq p 51 then some (1, 0, 3, 1, []) else none) else (bif Nat.beq p 50 then some (1, 0, 0, 1, []) else none)))) else (bif Nat.ble 42 p then (bif Nat.ble 46 p then (bif Nat.ble 47 p then (bif Nat.beq p 47 then some (36, 0, 31, 3, []) else none) else (bif Nat.beq p 46 then some (1, 0, 2, 1, []) else none)) else (bif Nat.ble 45 p then (bif Nat.beq p 45 then some (1, 0, 0, 1, []) else none) else (bif Nat.beq p 42 then some (36, 0, 27, 3, []) else none))) else (bif Nat.ble 40 p then (bif Nat.ble 41 p then (bif Nat.beq p 41 then some (1, 0, 1, 1, []) else none) else (bif Nat.beq p 40 then some (1, 0, 0, 1, []) else none)) else (bif Nat.ble 37 p then (bif Nat.beq p 37 then some (36, 0, 24, 3, []) else none) else (bif Nat.beq p 34 then some (46, 0, 11, 3, []) else none))))) else (bif Nat.ble 18 p then (bif Nat.ble 26 p then (bif Nat.ble 30 p then (bif Nat.ble 31 p then (bif Nat.beq p 31 then some (2, 3840, 0, 3, []) else none) else (bif Nat.beq p 30 then some (19, 0, 0, 1, []) else none)) else (bif Nat.ble 27 p then (bif Nat.beq p 27 then some (54, 0, 9, 3, []) else none) else (bif Nat.beq p 26 then some (1, 0, 0, 1, []) else none))) else (bif Nat.ble 21 p then (bif Nat.ble 23 p then (bif Nat.beq p 23 then some (36, 0, 20, 3, []) else none) else (bif Nat.beq p 21 then some (55, 0, 101, 2, []) else none)) else (bif Nat.ble 19 p then (bif Nat.beq p 19 then some (2, 64, 0, 2, []) else none) else (bif Nat.beq p 18 then some (1, 0, 0, 1, []) else none)))) else (bif Nat.ble 8 p then (bif Nat.ble 12 p then (bif Nat.ble 15 p then (bif Nat.beq p 15 then some (36, 0, 14, 3, []) else none) else (bif Nat.beq p 12 then some (46, 0, 11, 3, []) else none)) else (bif Nat.ble 9 p then (bif Nat.beq p 9 then some (2, 3000, 0, 3, []) else none) else (bif Nat.beq p 8 then some (19, 0, 0, 1, []) else none))) else (bif Nat.ble 4 p then (bif Nat.ble 5 p then (bif Nat.beq p 5 then some (54, 0, 9, 3, []) else none) else (bif Nat.beq p 4 then some (1, 0, 0, 1, []) else none)) else (bif Nat.ble 1 p then (bif Nat.beq p 1 then some (59, 0, 3, 3, []) else none) else (bif Nat.beq p 0 then some (1, 0, 0, 1, []) else none))))))
def cl_X5_init (p : Nat) : Option sl_C := bif Nat.ble 12 p then none else (bif Nat.beq p 11 then some (32, 2, 0, 0, 0, 7) else none)
def sp_X5_init (p : Nat) : Bool := false
def mk_X5_init (p : Nat) : List Bool := []
def tb_X6_init (p : Nat) : Option sl_E := bif Nat.ble 20 p then none else (bif Nat.ble 9 p then (bif Nat.ble 14 p then (bif Nat.ble 16 p then (bif Nat.ble 19 p then (bif Nat.beq p 19 then some (50, 0, 0, 1, []) else none) else (bif Nat.beq p 16 then some (36, 0, 9, 3, []) else none)) else (bif Nat.beq p 14 then some (55, 0, 100, 2, []) else none)) else (bif Nat.ble 10 p then (bif Nat.ble 13 p then (bif Nat.beq p 13 then some (2, 0, 0, 1, []) else none) else (bif Nat.beq p 10 then some (34, 0, 14, 3, []) else none)) else (bif Nat.beq p 9 then some (0, 0, 1, 1, []) else none))) else (bif Nat.ble 4 p then (bif Nat.ble 5 p then (bif Nat.ble 6 p then (bif Nat.beq p 6 then some (33, 0, 13, 3, []) else none) else (bif Nat.beq p 5 then some (0, 0, 1, 1, []) else none)) else (bif Nat.beq p 4 then some (1, 0, 0, 1, []) else none)) else (bif Nat.ble 1 p then (bif Nat.beq p 1 then some (59, 0, 3, 3, []) else none) else (bif Nat.beq p 0 then some (1, 0, 0, 1, []) else none))))
def cl_X6_init (p : Nat) : Option sl_C := none
def sp_X6_init (p : Nat) : Bool := false
def mk_X6_init (p : Nat) : List Bool := []
def tb_X7_init (p : Nat) : Option sl_E := bif Nat.ble 66 p then none else (bif Nat.ble 35 p then (bif Nat.ble 51 p then (bif Nat.ble 57 p then (bif Nat.ble 61 p then (bif Nat.ble 62 p then (bif Nat.ble 65 p then (bif Nat.beq p 65 then some (50, 0, 0, 1, []) else none) else (bif Nat.beq p 62 then some (36, 0, 42, 3, []) else none)) else (bif Nat.beq p 61 then some (1, 0, 3, 1, []) else none)) else (bif Nat.ble 60 p then (bif Nat.beq p 60 then some (1, 0, 0, 1, []) else none) else (bif Nat.beq p 57 then some (36, 0, 38, 3, []) else none))) else (bif Nat.ble 55 p then (bif Nat.ble 56 p then (bif Nat.beq p 56 then some (1, 0, 2, 1, []) else none) else (bif Nat.beq p 55 then some (1, 0, 0, 1, []) else none)) else (bif Nat.ble 52 p then (bif Nat.beq p 52 then some (36, 0, 34, 3, []) else none) else (bif Nat.beq p 51 then some (1, 0, 1, 1, []) else none)))) else (bif Nat.ble 43 p then (bif Nat.ble 47 p then (bif Nat.ble 50 p then (bif Nat.beq p 50 then some (1, 0, 0, 1, []) else none) else (bif Nat.beq p 47 then some (36, 0, 30, 3, []) else none)) else (bif Nat.ble 45 p then (bif Nat.beq p 45 then some (55, 0, 102, 2, []) else none) else (bif Nat.beq p 43 then some (2, 64, 0, 2, []) else none))) else (bif Nat.ble 39 p then (bif Nat.ble 42 p then (bif Nat.beq p 42 then some (1, 0, 0, 1, []) else none) else (bif Nat.beq p 39 then some (36, 0, 27, 3, []) else none)) else (bif Nat.ble 37 p then (bif Nat.beq p 37 then some (55, 0, 101, 2, []) else none) else (bif Nat.beq p 35 then some (2, 64, 0, 2, []) else none))))) else (bif Nat.ble 18 p then (bif Nat.ble 26 p then (bif Nat.ble 29 p then (bif Nat.ble 31 p then (bif Nat.ble 34 p then (bif Nat.beq p 34 then some (1, 0, 0, 1, []) else none) else (bif Nat.beq p 31 then some (36, 0, 24, 3, []) else none)) else (bif Nat.beq p 29 then some (55, 0, 101, 2, []) else none)) else (bif Nat.ble 27 p then (bif Nat.beq p 27 then some (2, 64, 0, 2, []) else none) else (bif Nat.beq p 26 then some (1, 0, 0, 1, []) else none))) else (bif Nat.ble 21 p then (bif Nat.ble 23 p then (bif Nat.beq p 23 then some (36, 0, 20, 3, []) else none) else (bif Nat.beq p 21 then some (55, 0, 101, 2, []) else none)) else (bif Nat.ble 19 p then (bif Nat.beq p 19 then some (2, 64, 0, 2, []) else none) else (bif Nat.beq p 18 then some (1, 0, 0, 1, []) else none)))) else (bif Nat.ble 8 p then (bif Nat.ble 12 p then (bif Nat.ble 15 p then (bif Nat.beq p 15 then some (36, 0, 14, 3, []) else none) else (bif Nat.beq p 12 then some (46, 0, 11, 3, []) else none)) else (bif Nat.ble 9 p then (bif Nat.beq p 9 then some (2, 3000, 0, 3, []) else none) else (bif Nat.beq p 8 then some (19, 0, 0, 1, []) else none))) else (bif Nat.ble 4 p then (bif Nat.ble 5 p then (bif Nat.beq p 5 then some (54, 0, 9, 3, []) else none) else (bif Nat.beq p 4 then some (1, 0, 0, 1, []) else none)) else (bif Nat.ble 1 p then (bif Nat.beq p 1 then some (59, 0, 3, 3, []) else none) else (bif Nat.beq p 0 then some (1, 0, 0, 1, []) else none))))))
def cl_X7_init (p : Nat) : Option sl_C := bif Nat.ble 12 p then none else (bif Nat.beq p 11 then some (32, 2, 0, 0, 0, 7) else none)
def sp_X7_init (p : Nat) : Bool := false
def mk_X7_init (p : Nat) : List Bool := []
def tb_X8_init (p : Nat) : Option sl_E := bif Nat.ble 32 p then none else (bif Nat.ble 16 p then (bif Nat.ble 23 p then (bif Nat.ble 27 p then (bif Nat.ble 28 p then (bif Nat.ble 31 p then (bif Nat.beq p 31 then some (50, 0, 0, 1, []) else none) else (bif Nat.beq p 28 then some (36, 0, 24, 3, []) else none)) else (bif Nat.beq p 27 then some (2, 3, 0, 1, []) else none)) else (bif Nat.ble 26 p then (bif Nat.beq p 26 then some (1, 0, 0, 1, []) else none) else (bif Nat.beq p 23 then some (36, 0, 21, 3, []) else none))) else (bif Nat.ble 20 p then (bif Nat.ble 21 p then (bif Nat.beq p 21 then some (2, 16, 0, 2, []) else none) else (bif Nat.beq p 20 then some (1, 0, 0, 1, []) else none)) else (bif Nat.ble 17 p then (bif Nat.beq p 17 then some (36, 0, 18, 3, []) else none) else (bif Nat.beq p 16 then some (2, 4, 0, 1, []) else none)))) else (bif Nat.ble 6 p then (bif Nat.ble 10 p then (bif Nat.ble 12 p then (bif Nat.ble 15 p then (bif Nat.beq p 15 then some (1, 0, 0, 1, []) else none) else (bif Nat.beq p 12 then some (36, 0, 15, 3, []) else none)) else (bif Nat.beq p 10 then some (2, 8, 0, 2, []) else none)) else (bif Nat.ble 9 p then (bif Nat.beq p 9 then some (1, 0, 0, 1, []) else none) else (bif Nat.beq p 6 then some (36, 0, 9, 3, []) else none))) else (bif Nat.ble 4 p then (bif Nat.ble 5 p then (bif Nat.beq p 5 then some (2, 1, 0, 1, []) else none) else (bif Nat.beq p 4 then some (1, 0, 0, 1, []) else none)) else (bif Nat.ble 1 p then (bif Nat.beq p 1 then some (59, 0, 3, 3, []) else none) else (bif Nat.beq p 0 then some (1, 0, 0, 1, []) else none)))))
def cl_X8_init (p : Nat) : Option sl_C := none
def sp_X8_init (p : Nat) : Bool := false
def mk_X8_init (p : Nat) : List Bool := []
def tb_X9_init (p : Nat) : Option sl_E := bif Nat.ble 13 p then none else (bif Nat.ble 5 p then (bif Nat.ble 9 p then (bif Nat.ble 12 p then (bif Nat.beq p 12 then some (50, 0, 0, 1, []) else none) else (bif Nat.beq p 9 then some (36, 0, 9, 3, []) else none)) else (bif Nat.ble 7 p then (bif Nat.beq p 7 then some (55, 0, 101, 2, []) else none) else (bif Nat.beq p 5 then some (2, 16, 0, 2, []) else none))) else (bif Nat.ble 1 p then (bif Nat.ble 4 p then (bif Nat.beq p 4 then some (1, 0, 0, 1, []) else none) else (bif Nat.beq p 1 then some (59, 0, 3, 3, []) else none)) else (bif Nat.beq p 0 then some (1, 0, 0, 1, []) else none)))
def cl_X9_init (p : Nat) : Option sl_C := none
def sp_X9_init (p : Nat) : Bool := false
def mk_X9_init (p : Nat) : List Bool := []
def tb_X10_init (p : Nat) : Option sl_E := bif Nat.ble 142 p then none else (bif Nat.ble 69 p then (bif Nat.ble 103 p then (bif Nat.ble 121 p then (bif Nat.ble 131 p then (bif Nat.ble 135 p then (bif Nat.ble 138 p then (bif Nat.ble 141 p then (bif Nat.beq p 141 then some (50, 0, 0, 1, []) else none) else (bif Nat.beq p 138 then some (36, 0, 62, 3, []) else none)) else (bif Nat.beq p 135 then some (46, 0, 61, 3, []) else none)) else (bif Nat.ble 134 p then (bif Nat.beq p 134 then some (19, 0, 0, 1, []) else none) else (bif Nat.beq p 131 then some (54, 0, 59, 3, []) else none))) else (bif Nat.ble 127 p then (bif Nat.ble 130 p then (bif Nat.beq p 130 then some (1, 0, 0, 1, []) else none) else (bif Nat.beq p 127 then some (36, 0, 56, 3, []) else none)) else (bif Nat.ble 124 p then (bif Nat.beq p 124 then some (46, 0, 49, 3, []) else none) else (bif Nat.beq p 121 then some (2, 1205, 0, 3, []) else none)))) else (bif Nat.ble 113 p then (bif Nat.ble 117 p then (bif Nat.ble 120 p then (bif Nat.beq p 120 then some (19, 0, 0, 1, []) else none) else (bif Nat.beq p 117 then some (54, 0, 47, 3, []) else none)) else (bif Nat.ble 116 p then (bif Nat.beq p 116 then some (1, 0, 0, 1, []) else none) else (bif Nat.beq p 113 then some (36, 0, 52, 3, []) else none))) else (bif Nat.ble 107 p then (bif Nat.ble 110 p then (bif Nat.beq p 110 then some (46, 0, 49, 3, []) else none) else (bif Nat.beq p 107 then some (2, 1200, 0, 3, []) else none)) else (bif Nat.ble 106 p then (bif Nat.beq p 106 then some (19, 0, 0, 1, []) else none) else (bif Nat.beq p 103 then some (54, 0, 47, 3, []) else none))))) else (bif Nat.ble 85 p then (bif Nat.ble 93 p then (bif Nat.ble 99 p then (bif Nat.ble 102 p then (bif Nat.beq p 102 then some (1, 0, 0, 1, []) else none) else (bif Nat.beq p 99 then some (36, 0, 44, 3, []) else none)) else (bif Nat.ble 96 p then (bif Nat.beq p 96 then some (46, 0, 37, 3, []) else none) else (bif Nat.beq p 93 then some (35, 0, 32, 3, []) else none))) else (bif Nat.ble 89 p then (bif Nat.ble 92 p then (bif Nat.beq p 92 then some (1, 0, 0, 1, []) else none) else (bif Nat.beq p 89 then some (35, 0, 19, 3, []) else none)) else (bif Nat.ble 88 p then (bif Nat.beq p 88 then some (1, 0, 0, 1, []) else none) else (bif Nat.beq p 85 then some (35, 0, 12, 3, []) else none)))) else (bif Nat.ble 79 p then (bif Nat.ble 83 p then (bif Nat.ble 84 p then (bif Nat.beq p 84 then some (1, 0, 0, 1, []) else none) else (bif Nat.beq p 83 then some (19, 0, 0, 1, []) else none)) else (bif Nat.ble 80 p then (bif Nat.beq p 80 then some (54, 0, 35, 3, []) else none) else (bif Nat.beq p 79 then some (1, 0, 0, 1, []) else none))) else (bif Nat.ble 73 p then (bif Nat.ble 76 p then (bif Nat.beq p 76 then some (36, 0, 40, 3, []) else none) else (bif Nat.beq p 73 then some (46, 0, 37, 3, []) else none)) else (bif Nat.ble 70 p then (bif Nat.beq p 70 then some (35, 0, 28, 3, []) else none) else (bif Nat.beq p 69 then some (1, 0, 0, 1, []) else none)))))) else (bif Nat.ble 32 p then (bif Nat.ble 50 p then (bif Nat.ble 60 p then (bif Nat.ble 62 p then (bif Nat.ble 65 p then (bif Nat.ble 66 p then (bif Nat.beq p 66 then some (35, 0, 19, 3, []) else none) else (bif Nat.beq p 65 then some (1, 0, 0, 1, []) else none)) else (bif Nat.beq p 62 then some (35, 0, 12, 3, []) else none)) else (bif Nat.ble 61 p then (bif Nat.beq p 61 then some (1, 0, 0, 1, []) else none) else (bif Nat.beq p 60 then some (19, 0, 0, 1, []) else none))) else (bif Nat.ble 56 p then (bif Nat.ble 57 p then (bif Nat.beq p 57 then some (54, 0, 35, 3, []) else none) else (bif Nat.beq p 56 then some (1, 0, 0, 1, []) else none)) else (bif Nat.ble 53 p then (bif Nat.beq p 53 then some (36, 0, 32, 3, []) else none) else (bif Nat.beq p 50 then some (46, 0, 25, 3, []) else none)))) else (bif Nat.ble 42 p then (bif Nat.ble 46 p then (bif Nat.ble 47 p then (bif Nat.beq p 47 then some (35, 0, 19, 3, []) else none) else (bif Nat.beq p 46 then some (1, 0, 0, 1, []) else none)) else (bif Nat.ble 45 p then (bif Nat.beq p 45 then some (19, 0, 0, 1, []) else none) else (bif Nat.beq p 42 then some (54, 0, 23, 3, []) else none))) else (bif Nat.ble 38 p then (bif Nat.ble 41 p then (bif Nat.beq p 41 then some (1, 0, 0, 1, []) else none) else (bif Nat.beq p 38 then some (36, 0, 28, 3, []) else none)) else (bif Nat.ble 35 p then (bif Nat.beq p 35 then some (46, 0, 25, 3, []) else none) else (bif Nat.beq p 32 then some (35, 0, 19, 3, []) else none))))) else (bif Nat.ble 16 p then (bif Nat.ble 26 p then (bif Nat.ble 30 p then (bif Nat.ble 31 p then (bif Nat.beq p 31 then some (1, 0, 0, 1, []) else none) else (bif Nat.beq p 30 then some (19, 0, 0, 1, []) else none)) else (bif Nat.ble 27 p then (bif Nat.beq p 27 then some (54, 0, 23, 3, []) else none) else (bif Nat.beq p 26 then some (1, 0, 0, 1, []) else none))) else (bif Nat.ble 20 p then (bif Nat.ble 23 p then (bif Nat.beq p 23 then some (36, 0, 19, 3, []) else none) else (bif Nat.beq p 20 then some (46, 0, 18, 3, []) else none)) else (bif Nat.ble 19 p then (bif Nat.beq p 19 then some (19, 0, 0, 1, []) else none) else (bif Nat.beq p 16 then some (54, 0, 16, 3, []) else none)))) else (bif Nat.ble 8 p then (bif Nat.ble 12 p then (bif Nat.ble 15 p then (bif Nat.beq p 15 then some (1, 0, 0, 1, []) else none) else (bif Nat.beq p 12 then some (36, 0, 12, 3, []) else none)) else (bif Nat.ble 9 p then (bif Nat.beq p 9 then some (46, 0, 11, 3, []) else none) else (bif Nat.beq p 8 then some (19, 0, 0, 1, []) else none))) else (bif Nat.ble 4 p then (bif Nat.ble 5 p then (bif Nat.beq p 5 then some (54, 0, 9, 3, []) else none) else (bif Nat.beq p 4 then some (1, 0, 0, 1, []) else none)) else (bif Nat.ble 1 p then (bif Nat.beq p 1 then some (59, 0, 3, 3, []) else none) else (bif Nat.beq p 0 then some (1, 0, 0, 1, []) else none)))))))
def cl_X10_init (p : Nat) : Option sl_C := bif Nat.ble 62 p then none else (bif Nat.ble 37 p then (bif Nat.ble 49 p then (bif Nat.ble 61 p then (bif Nat.beq p 61 then some (13, 1, 0, 0, 0, 4) else none) else (bif Nat.beq p 49 then some (32, 2, 0, 0, 0, 7) else none)) else (bif Nat.beq p 37 then some (3, 4, 0, 0, 0, 2) else none)) else (bif Nat.ble 18 p then (bif Nat.ble 25 p then (bif Nat.beq p 25 then some (17, 2, 0, 0, 0, 5) else none) else (bif Nat.beq p 18 then some (57, 1, 0, 0, 0, 10) else none)) else (bif Nat.beq p 11 then some (50, 1, 0, 0, 0, 9) else none)))
def sp_X10_init (p : Nat) : Bool := false
def mk_X10_init (p : Nat) : List Bool := []
def tb_X11_init (p : Nat) : Option sl_E := bif Nat.ble 393 p then none else (bif Nat.ble 200 p then (bif Nat.ble 303 p then (bif Nat.ble 350 p then (bif Nat.ble 368 p then (bif Nat.ble 380 p then (bif Nat.ble 385 p then (bif Nat.ble 389 p then (bif Nat.ble 392 p then (bif Nat.beq p 392 then some (50, 0, 0, 1, []) else none) else (bif Nat.beq p 389 then some (46, 0, 146, 3, []) else none)) else (bif Nat.ble 388 p then (bif Nat.beq p 388 then some (1, 0, 0, 1, []) else none) else (bif Nat.beq p 385 then some (34, 0, 334, 3, []) else none))) else (bif Nat.ble 381 p then (bif Nat.ble 382 p then (bif Nat.beq p 382 then some (5, 1, 1, 3, []) else none) else (bif Nat.beq p 381 then some (41, 0, 0, 1, []) else none)) else (bif Nat.beq p 380 then some (0, 0, 2, 1, []) else none))) else (bif Nat.ble 375 p then (bif Nat.ble 376 p then (bif Nat.ble 379 p then (bif Nat.beq p 379 then some (0, 0, 1, 1, []) else none) else (bif Nat.beq p 376 then some (35, 0, 26, 3, []) else none)) else (bif Nat.beq p 375 then some (1, 0, 0, 1, []) else none)) else (bif Nat.ble 369 p then (bif Nat.ble 372 p then (bif Nat.beq p 372 then some (34, 0, 344, 3, []) else none) else (bif Nat.beq p 369 then some (5, 1, 3, 3, []) else none)) else (bif Nat.beq p 368 then some (3, 0, 2, 1, []) else none)))) else (bif Nat.ble 358 p then (bif Nat.ble 362 p then (bif Nat.ble 366 p then (bif Nat.ble 367 p then (bif Nat.beq p 367 then some (16, 0, 0, 1, []) else none) else (bif Nat.beq p 366 then some (2, 1, 0, 1, []) else none)) else (bif Nat.ble 365 p then (bif Nat.beq p 365 then some (0, 0, 2, 1, []) else none) else (bif Nat.beq p 362 then some (34, 0, 368, 3, []) else none))) else (bif Nat.ble 359 p then (bif Nat.ble 361 p then (bif Nat.beq p 361 then some (13, 0, 0, 1, []) else none) else (bif Nat.beq p 359 then some (60, (-306674912), 145, 2, []) else none)) else (bif Nat.beq p 358 then some (16, 0, 0, 1, []) else none))) else (bif Nat.ble 353 p then (bif Nat.ble 356 p then (bif Nat.ble 357 p then (bif Nat.beq p 357 then some (2, 1, 0, 1, []) else none) else (bif Nat.beq p 356 then some (0, 0, 2, 1, []) else none)) else (bif Nat.beq p 353 then some (23, 0, 365, 3, []) else none)) else (bif Nat.ble 351 p then (bif Nat.ble 352 p then (bif Nat.beq p 352 then some (2, 1, 0, 1, []) else none) else (bif Nat.beq p 351 then some (11, 0, 0, 1, []) else none)) else (bif Nat.beq p 350 then some (2, 1, 0, 1, []) else none))))) else (bif Nat.ble 332 p then (bif Nat.ble 341 p then (bif Nat.ble 344 p then (bif Nat.ble 346 p then (bif Nat.ble 349 p then (bif Nat.beq p 349 then some (0, 0, 2, 1, []) else none) else (bif Nat.beq p 346 then some (25, 0, 375, 3, []) else none)) else (bif Nat.ble 345 p then (bif Nat.beq p 345 then some (2, 4, 0, 1, []) else none) else (bif Nat.beq p 344 then some (0, 0, 3, 1, []) else none))) else (bif Nat.ble 342 p then (bif Nat.ble 343 p then (bif Nat.beq p 343 then some (3, 0, 3, 1, []) else none) else (bif Nat.beq p 342 then some (2, 0, 0, 1, []) else none)) else (bif Nat.beq p 341 then some (3, 0, 2, 1, []) else none))) else (bif Nat.ble 335 p then (bif Nat.ble 337 p then (bif Nat.ble 340 p then (bif Nat.beq p 340 then some (0, 0, 1, 1, []) else none) else (bif Nat.beq p 337 then some (25, 0, 388, 3, []) else none)) else (bif Nat.beq p 335 then some (2, 16, 0, 2, []) else none)) else (bif Nat.ble 333 p then (bif Nat.ble 334 p then (bif Nat.beq p 334 then some (0, 0, 1, 1, []) else none) else (bif Nat.beq p 333 then some (3, 0, 1, 1, []) else none)) else (bif Nat.beq p 332 then some (2, 0, 0, 1, []) else none)))) else (bif Nat.ble 316 p then (bif Nat.ble 324 p then (bif Nat.ble 327 p then (bif Nat.ble 329 p then (bif Nat.beq p 329 then some (36, 0, 142, 3, []) else none) else (bif Nat.beq p 327 then some (55, 0, 100, 2, []) else none)) else (bif Nat.ble 325 p then (bif Nat.beq p 325 then some (2, 80, 0, 2, []) else none) else (bif Nat.beq p 324 then some (1, 0, 0, 1, []) else none))) else (bif Nat.ble 319 p then (bif Nat.ble 321 p then (bif Nat.beq p 321 then some (36, 0, 139, 3, []) else none) else (bif Nat.beq p 319 then some (55, 0, 100, 2, []) else none)) else (bif Nat.beq p 316 then some (2, 200, 0, 3, []) else none))) else (bif Nat.ble 310 p then (bif Nat.ble 312 p then (bif Nat.ble 315 p then (bif Nat.beq p 315 then some (1, 0, 0, 1, []) else none) else (bif Nat.beq p 312 then some (36, 0, 136, 3, []) else none)) else (bif Nat.beq p 310 then some (55, 0, 100, 2, []) else none)) else (bif Nat.ble 306 p then (bif Nat.ble 307 p then (bif Nat.beq p 307 then some (2, 200, 0, 3, []) else none) else (bif Nat.beq p 306 then some (1, 0, 0, 1, []) else none)) else (bif Nat.beq p 303 then some (36, 0, 133, 3, []) else none)))))) else (bif Nat.ble 250 p then (bif Nat.ble 277 p then (bif Nat.ble 290 p then (bif Nat.ble 295 p then (bif Nat.ble 299 p then (bif Nat.ble 301 p then (bif Nat.beq p 301 then some (55, 0, 101, 2, []) else none) else (bif Nat.beq p 299 then some (2, 16, 0, 2, []) else none)) else (bif Nat.ble 298 p then (bif Nat.beq p 298 then some (1, 0, 0, 1, []) else none) else (bif Nat.beq p 295 then some (36, 0, 130, 3, []) else none))) else (bif Nat.ble 291 p then (bif Nat.ble 293 p then (bif Nat.beq p 293 then some (55, 0, 102, 2, []) else none) else (bif Nat.beq p 291 then some (2, 80, 0, 2, []) else none)) else (bif Nat.beq p 290 then some (1, 0, 0, 1, []) else none))) else (bif Nat.ble 283 p then (bif Nat.ble 285 p then (bif Nat.ble 287 p then (bif Nat.beq p 287 then some (36, 0, 127, 3, []) else none) else (bif Nat.beq p 285 then some (55, 0, 101, 2, []) else none)) else (bif Nat.beq p 283 then some (2, 80, 0, 2, []) else none)) else (bif Nat.ble 279 p then (bif Nat.ble 282 p then (bif Nat.beq p 282 then some (1, 0, 0, 1, []) else none) else (bif Nat.beq p 279 then some (36, 0, 124, 3, []) else none)) else (bif Nat.beq p 277 then some (55, 0, 101, 2, []) else none)))) else (bif Nat.ble 263 p then (bif Nat.ble 269 p then (bif Nat.ble 274 p then (bif Nat.ble 275 p then (bif Nat.beq p 275 then some (2, 80, 0, 2, []) else none) else (bif Nat.beq p 274 then some (1, 0, 0, 1, []) else none)) else (bif Nat.ble 271 p then (bif Nat.beq p 271 then some (36, 0, 121, 3, []) else none) else (bif Nat.beq p 269 then some (55, 0, 101, 2, []) else none))) else (bif Nat.ble 266 p then (bif Nat.ble 267 p then (bif Nat.beq p 267 then some (2, 80, 0, 2, []) else none) else (bif Nat.beq p 266 then some (1, 0, 0, 1, []) else none)) else (bif Nat.beq p 263 then some (36, 0, 118, 3, []) else none))) else (bif Nat.ble 258 p then (bif Nat.ble 259 p then (bif Nat.ble 261 p then (bif Nat.beq p 261 then some (55, 0, 101, 2, []) else none) else (bif Nat.beq p 259 then some (2, 80, 0, 2, []) else none)) else (bif Nat.beq p 258 then some (1, 0, 0, 1, []) else none)) else (bif Nat.ble 253 p then (bif Nat.ble 255 p then (bif Nat.beq p 255 then some (36, 0, 115, 3, []) else none) else (bif Nat.beq p 253 then some (55, 0, 100, 2, []) else none)) else (bif Nat.beq p 250 then some (2, 6400, 0, 3, []) else none))))) else (bif Nat.ble 228 p then (bif Nat.ble 237 p then (bif Nat.ble 243 p then (bif Nat.ble 246 p then (bif Nat.ble 249 p then (bif Nat.beq p 249 then some (1, 0, 0, 1, []) else none) else (bif Nat.beq p 246 then some (36, 0, 112, 3, []) else none)) else (bif Nat.ble 244 p then (bif Nat.beq p 244 then some (55, 0, 101, 2, []) else none) else (bif Nat.beq p 243 then some (2, 2, 0, 1, []) else none))) else (bif Nat.ble 239 p then (bif Nat.ble 242 p then (bif Nat.beq p 242 then some (1, 0, 0, 1, []) else none) else (bif Nat.beq p 239 then some (36, 0, 109, 3, []) else none)) else (bif Nat.beq p 237 then some (55, 0, 101, 2, []) else none))) else (bif Nat.ble 232 p then (bif Nat.ble 235 p then (bif Nat.ble 236 p then (bif Nat.beq p 236 then some (2, 2, 0, 1, []) else none) else (bif Nat.beq p 235 then some (1, 0, 0, 1, []) else none)) else (bif Nat.beq p 232 then some (36, 0, 106, 3, []) else none)) else (bif Nat.ble 229 p then (bif Nat.ble 230 p then (bif Nat.beq p 230 then some (55, 0, 102, 2, []) else none) else (bif Nat.beq p 229 then some (2, 2, 0, 1, []) else none)) else (bif Nat.beq p 228 then some (1, 0, 0, 1, []) else none)))) else (bif Nat.ble 213 p then (bif Nat.ble 221 p then (bif Nat.ble 223 p then (bif Nat.ble 225 p then (bif Nat.beq p 225 then some (36, 0, 103, 3, []) else none) else (bif Nat.beq p 223 then some (55, 0, 101, 2, []) else none)) else (bif Nat.ble 222 p then (bif Nat.beq p 222 then some (2, 2, 0, 1, []) else none) else (bif Nat.beq p 221 then some (1, 0, 0, 1, []) else none))) else (bif Nat.ble 216 p then (bif Nat.ble 218 p then (bif Nat.beq p 218 then some (36, 0, 100, 3, []) else none) else (bif Nat.beq p 216 then some (55, 0, 100, 2, []) else none)) else (bif Nat.beq p 213 then some (2, 240, 0, 3, []) else none))) else (bif Nat.ble 207 p then (bif Nat.ble 209 p then (bif Nat.ble 212 p then (bif Nat.beq p 212 then some (1, 0, 0, 1, []) else none) else (bif Nat.beq p 209 then some (36, 0, 97, 3, []) else none)) else (bif Nat.beq p 207 then some (55, 0, 100, 2, []) else none)) else (bif Nat.ble 203 p then (bif Nat.ble 204 p then (bif Nat.beq p 204 then some (2, 7680, 0, 3, []) else none) else (bif Nat.beq p 203 then some (1, 0, 0, 1, []) else none)) else (bif Nat.beq p 200 then some (36, 0, 94, 3, []) else none))))))) else (bif Nat.ble 97 p then (bif Nat.ble 145 p then (bif Nat.ble 171 p then (bif Nat.ble 185 p then (bif Nat.ble 191 p then (bif Nat.ble 195 p then (bif Nat.ble 198 p then (bif Nat.beq p 198 then some (55, 0, 101, 2, []) else none) else (bif Nat.beq p 195 then some (2, 128, 0, 3, []) else none)) else (bif Nat.ble 194 p then (bif Nat.beq p 194 then some (1, 0, 0, 1, []) else none) else (bif Nat.beq p 191 then some (36, 0, 91, 3, []) else none))) else (bif Nat.ble 186 p then (bif Nat.ble 189 p then (bif Nat.beq p 189 then some (55, 0, 102, 2, []) else none) else (bif Nat.beq p 186 then some (2, 128, 0, 3, []) else none)) else (bif Nat.beq p 185 then some (1, 0, 0, 1, []) else none))) else (bif Nat.ble 177 p then (bif Nat.ble 180 p then (bif Nat.ble 182 p then (bif Nat.beq p 182 then some (36, 0, 87, 3, []) else none) else (bif Nat.beq p 180 then some (55, 0, 102, 2, []) else none)) else (bif Nat.beq p 177 then some (2, 6004, 0, 3, []) else none)) else (bif Nat.ble 173 p then (bif Nat.ble 176 p then (bif Nat.beq p 176 then some (1, 0, 0, 1, []) else none) else (bif Nat.beq p 173 then some (36, 0, 84, 3, []) else none)) else (bif Nat.beq p 171 then some (55, 0, 101, 2, []) else none)))) else (bif Nat.ble 155 p then (bif Nat.ble 162 p then (bif Nat.ble 167 p then (bif Nat.ble 168 p then (bif Nat.beq p 168 then some (2, 6004, 0, 3, []) else none) else (bif Nat.beq p 167 then some (1, 0, 0, 1, []) else none)) else (bif Nat.ble 164 p then (bif Nat.beq p 164 then some (36, 0, 81, 3, []) else none) else (bif Nat.beq p 162 then some (55, 0, 101, 2, []) else none))) else (bif Nat.ble 158 p then (bif Nat.ble 159 p then (bif Nat.beq p 159 then some (2, 6004, 0, 3, []) else none) else (bif Nat.beq p 158 then some (1, 0, 0, 1, []) else none)) else (bif Nat.beq p 155 then some (36, 0, 78, 3, []) else none))) else (bif Nat.ble 151 p then (bif Nat.ble 152 p then (bif Nat.ble 153 p then (bif Nat.beq p 153 then some (55, 0, 101, 2, []) else none) else (bif Nat.beq p 152 then some (2, 2, 0, 1, []) else none)) else (bif Nat.beq p 151 then some (1, 0, 0, 1, []) else none)) else (bif Nat.ble 146 p then (bif Nat.ble 148 p then (bif Nat.beq p 148 then some (36, 0, 75, 3, []) else none) else (bif Nat.beq p 146 then some (55, 0, 101, 2, []) else none)) else (bif Nat.beq p 145 then some (2, 2, 0, 1, []) else none))))) else (bif Nat.ble 123 p then (bif Nat.ble 132 p then (bif Nat.ble 138 p then (bif Nat.ble 141 p then (bif Nat.ble 144 p then (bif Nat.beq p 144 then some (1, 0, 0, 1, []) else none) else (bif Nat.beq p 141 then some (36, 0, 72, 3, []) else none)) else (bif Nat.ble 139 p then (bif Nat.beq p 139 then some (55, 0, 101, 2, []) else none) else (bif Nat.beq p 138 then some (2, 2, 0, 1, []) else none))) else (bif Nat.ble 134 p then (bif Nat.ble 137 p then (bif Nat.beq p 137 then some (1, 0, 0, 1, []) else none) else (bif Nat.beq p 134 then some (36, 0, 69, 3, []) else none)) else (bif Nat.beq p 132 then some (55, 0, 101, 2, []) else none))) else (bif Nat.ble 127 p then (bif Nat.ble 130 p then (bif Nat.ble 131 p then (bif Nat.beq p 131 then some (2, 2, 0, 1, []) else none) else (bif Nat.beq p 130 then some (1, 0, 0, 1, []) else none)) else (bif Nat.beq p 127 then some (36, 0, 66, 3, []) else none)) else (bif Nat.ble 124 p then (bif Nat.ble 125 p then (bif Nat.beq p 125 then some (55, 0, 101, 2, []) else none) else (bif Nat.beq p 124 then some (2, 2, 0, 1, []) else none)) else (bif Nat.beq p 123 then some (1, 0, 0, 1, []) else none)))) else (bif Nat.ble 110 p then (bif Nat.ble 116 p then (bif Nat.ble 118 p then (bif Nat.ble 120 p then (bif Nat.beq p 120 then some (36, 0, 63, 3, []) else none) else (bif Nat.beq p 118 then some (55, 0, 101, 2, []) else none)) else (bif Nat.ble 117 p then (bif Nat.beq p 117 then some (2, 2, 0, 1, []) else none) else (bif Nat.beq p 116 then some (1, 0, 0, 1, []) else none))) else (bif Nat.ble 111 p then (bif Nat.ble 113 p then (bif Nat.beq p 113 then some (36, 0, 60, 3, []) else none) else (bif Nat.beq p 111 then some (55, 0, 101, 2, []) else none)) else (bif Nat.beq p 110 then some (2, 2, 0, 1, []) else none))) else (bif Nat.ble 104 p then (bif Nat.ble 106 p then (bif Nat.ble 109 p then (bif Nat.beq p 109 then some (1, 0, 0, 1, []) else none) else (bif Nat.beq p 106 then some (36, 0, 57, 3, []) else none)) else (bif Nat.beq p 104 then some (55, 0, 100, 2, []) else none)) else (bif Nat.ble 100 p then (bif Nat.ble 101 p then (bif Nat.beq p 101 then some (2, 6000, 0, 3, []) else none) else (bif Nat.beq p 100 then some (1, 0, 0, 1, []) else none)) else (bif Nat.beq p 97 then some (36, 0, 54, 3, []) else none)))))) else (bif Nat.ble 47 p then (bif Nat.ble 72 p then (bif Nat.ble 83 p then (bif Nat.ble 88 p then (bif Nat.ble 92 p then (bif Nat.ble 95 p then (bif Nat.beq p 95 then some (55, 0, 100, 2, []) else none) else (bif Nat.beq p 92 then some (2, 6000, 0, 3, []) else none)) else (bif Nat.ble 91 p then (bif Nat.beq p 91 then some (1, 0, 0, 1, []) else none) else (bif Nat.beq p 88 then some (36, 0, 51, 3, []) else none))) else (bif Nat.ble 86 p then (bif Nat.ble 87 p then (bif Nat.beq p 87 then some (2, 3, 0, 1, []) else none) else (bif Nat.beq p 86 then some (1, 0, 0, 1, []) else none)) else (bif Nat.beq p 83 then some (36, 0, 48, 3, []) else none))) else (bif Nat.ble 77 p then (bif Nat.ble 80 p then (bif Nat.ble 81 p then (bif Nat.beq p 81 then some (2, 16, 0, 2, []) else none) else (bif Nat.beq p 80 then some (1, 0, 0, 1, []) else none)) else (bif Nat.beq p 77 then some (36, 0, 45, 3, []) else none)) else (bif Nat.ble 75 p then (bif Nat.ble 76 p then (bif Nat.beq p 76 then some (2, 4, 0, 1, []) else none) else (bif Nat.beq p 75 then some (1, 0, 0, 1, []) else none)) else (bif Nat.beq p 72 then some (36, 0, 42, 3, []) else none)))) else (bif Nat.ble 59 p then (bif Nat.ble 65 p then (bif Nat.ble 69 p then (bif Nat.ble 70 p then (bif Nat.beq p 70 then some (2, 8, 0, 2, []) else none) else (bif Nat.beq p 69 then some (1, 0, 0, 1, []) else none)) else (bif Nat.ble 66 p then (bif Nat.beq p 66 then some (36, 0, 39, 3, []) else none) else (bif Nat.beq p 65 then some (2, 1, 0, 1, []) else none))) else (bif Nat.ble 61 p then (bif Nat.ble 64 p then (bif Nat.beq p 64 then some (1, 0, 0, 1, []) else none) else (bif Nat.beq p 61 then some (36, 0, 36, 3, []) else none)) else (bif Nat.beq p 59 then some (55, 0, 100, 2, []) else none))) else (bif Nat.ble 52 p then (bif Nat.ble 55 p then (bif Nat.ble 56 p then (bif Nat.beq p 56 then some (2, 1300, 0, 3, []) else none) else (bif Nat.beq p 55 then some (1, 0, 0, 1, []) else none)) else (bif Nat.beq p 52 then some (36, 0, 33, 3, []) else none)) else (bif Nat.ble 50 p then (bif Nat.ble 51 p then (bif Nat.beq p 51 then some (2, (-1), 0, 1, []) else none) else (bif Nat.beq p 50 then some (1, 0, 0, 1, []) else none)) else (bif Nat.beq p 47 then some (36, 0, 30, 3, []) else none))))) else (bif Nat.ble 23 p then (bif Nat.ble 34 p then (bif Nat.ble 40 p then (bif Nat.ble 45 p then (bif Nat.ble 46 p then (bif Nat.beq p 46 then some (2, 0, 0, 1, []) else none) else (bif Nat.beq p 45 then some (1, 0, 0, 1, []) else none)) else (bif Nat.ble 42 p then (bif Nat.beq p 42 then some (36, 0, 26, 3, []) else none) else (bif Nat.beq p 40 then some (55, 0, 101, 2, []) else none))) else (bif Nat.ble 37 p then (bif Nat.ble 38 p then (bif Nat.beq p 38 then some (2, 16, 0, 2, []) else none) else (bif Nat.beq p 37 then some (1, 0, 0, 1, []) else none)) else (bif Nat.beq p 34 then some (36, 0, 23, 3, []) else none))) else (bif Nat.ble 29 p then (bif Nat.ble 32 p then (bif Nat.ble 33 p then (bif Nat.beq p 33 then some (2, 0, 0, 1, []) else none) else (bif Nat.beq p 32 then some (1, 0, 0, 1, []) else none)) else (bif Nat.beq p 29 then some (36, 0, 20, 3, []) else none)) else (bif Nat.ble 24 p then (bif Nat.ble 27 p then (bif Nat.beq p 27 then some (55, 0, 100, 2, []) else none) else (bif Nat.beq p 24 then some (2, 1300, 0, 3, []) else none)) else (bif Nat.beq p 23 then some (1, 0, 0, 1, []) else none)))) else (bif Nat.ble 10 p then (bif Nat.ble 18 p then (bif Nat.ble 19 p then (bif Nat.ble 20 p then (bif Nat.beq p 20 then some (36, 0, 17, 3, []) else none) else (bif Nat.beq p 19 then some (2, 0, 0, 1, []) else none)) else (bif Nat.beq p 18 then some (1, 0, 0, 1, []) else none)) else (bif Nat.ble 13 p then (bif Nat.ble 15 p then (bif Nat.beq p 15 then some (36, 0, 13, 3, []) else none) else (bif Nat.beq p 13 then some (55, 0, 100, 2, []) else none)) else (bif Nat.beq p 10 then some (2, 1200, 0, 3, []) else none))) else (bif Nat.ble 5 p then (bif Nat.ble 6 p then (bif Nat.ble 9 p then (bif Nat.beq p 9 then some (1, 0, 0, 1, []) else none) else (bif Nat.beq p 6 then some (36, 0, 7, 3, []) else none)) else (bif Nat.beq p 5 then some (2, 0, 0, 1, []) else none)) else (bif Nat.ble 1 p then (bif Nat.ble 4 p then (bif Nat.beq p 4 then some (1, 0, 0, 1, []) else none) else (bif Nat.beq p 1 then some (59, 0, 1, 3, []) else none)) else (bif Nat.beq p 0 then some (1, 0, 0, 1, []) else none))))))))
def cl_X11_init (p : Nat) : Option sl_C := bif Nat.ble 147 p then none else (bif Nat.beq p 146 then some (104, 1, 0, 0, 0, 12) else none)
def sp_X11_init (p : Nat) : Bool := Nat.beq p 334 || Nat.beq p 344
def mk_X11_init (p : Nat) : List Bool := bif Nat.ble 344 p then (bif Nat.beq p 344 then [true, true, true, true] else []) else (bif Nat.beq p 334 then [true, true, false, false] else [])
def ck_J7 (p : Nat) : Nat := 0
theorem hfl_J7 : sl_hfl RJ7 fl_J7 := by
  intro j ci k h
  cases h
theorem hpf_J7 {mn : String} : sl_hpf RJ7 mn pf_J7 := by
  intro j ci k t h
  cases h
theorem hnw_J7 : sl_hnw RJ7 nw_J7 := by
  intro j ci h
  cases h
def ck_J9 (p : Nat) : Nat := 0
theorem hfl_J9 : sl_hfl RJ9 fl_J9 := by
  intro j ci k h
  cases h
theorem hpf_J9 {mn : String} : sl_hpf RJ9 mn pf_J9 := by
  intro j ci k t h
  cases h
theorem hnw_J9 : sl_hnw RJ9 nw_J9 := by
  intro j ci h
  cases h
def ck_X0 (p : Nat) : Nat := bif Nat.ble 19 p then (bif Nat.ble 27 p then (bif Nat.beq p 27 then 0 else 0) else (bif Nat.beq p 19 then 0 else 0)) else (bif Nat.ble 16 p then (bif Nat.beq p 16 then 0 else 0) else (bif Nat.beq p 9 then 0 else 0))
theorem hfl_X0 : sl_hfl RX0 fl_X0 := by
  intro j ci k h
  have h1 := sl_tA (N := 24) (L := [(23, (6, 1))]) (fun p h => by unfold fl_X0; rw [Nat.ble_eq.mpr h]; rfl) (by decide +kernel) _ _ h
  clear h
  simp only [List.mem_cons, List.not_mem_nil, or_false] at h1
  · cases h1; exact ⟨by decide, by decide, sl_gw_at 128 (by decide +kernel) (by decide +kernel)⟩
theorem hpf_X0 {mn : String} : sl_hpf RX0 mn pf_X0 := by
  intro j ci k t h
  have h1 := sl_tA (N := 24) (L := [(23, (6, 1, 0))]) (fun p h => by unfold pf_X0; rw [Nat.ble_eq.mpr h]; rfl) (by decide +kernel) _ _ h
  clear h
  simp only [List.mem_cons, List.not_mem_nil, or_false] at h1
  · cases h1; exact ⟨by decide, by decide, sl_gw_at 128 (by decide +kernel) (by decide +kernel), Or.inl rfl, rfl⟩
theorem hnw_X0 : sl_hnw RX0 nw_X0 := by
  intro j ci h
  cases h
def ck_X1 (p : Nat) : Nat := bif Nat.ble 82 p then (bif Nat.ble 104 p then (bif Nat.ble 118 p then (bif Nat.ble 121 p then (bif Nat.ble 133 p then (bif Nat.beq p 133 then 0 else 0) else (bif Nat.beq p 121 then 1 else 0)) else (bif Nat.beq p 118 then 0 else 0)) else (bif Nat.ble 108 p then (bif Nat.ble 114 p then (bif Nat.beq p 114 then 0 else 0) else (bif Nat.beq p 108 then 1 else 0)) else (bif Nat.beq p 104 then 0 else 0))) else (bif Nat.ble 94 p then (bif Nat.ble 97 p then (bif Nat.ble 101 p then (bif Nat.beq p 101 then 0 else 0) else (bif Nat.beq p 97 then 0 else 0)) else (bif Nat.beq p 94 then 0 else 0)) else (bif Nat.ble 86 p then (bif Nat.ble 90 p then (bif Nat.beq p 90 then 0 else 0) else (bif Nat.beq p 86 then 0 else 0)) else (bif Nat.beq p 82 then 0 else 0)))) else (bif Nat.ble 57 p then (bif Nat.ble 66 p then (bif Nat.ble 74 p then (bif Nat.ble 78 p then (bif Nat.beq p 78 then 0 else 0) else (bif Nat.beq p 74 then 0 else 0)) else (bif Nat.beq p 66 then 0 else 0)) else (bif Nat.ble 58 p then (bif Nat.ble 61 p then (bif Nat.beq p 61 then 0 else 0) else (bif Nat.beq p 58 then 0 else 0)) else (bif Nat.beq p 57 then 0 else 0))) else (bif Nat.ble 40 p then (bif Nat.ble 49 p then (bif Nat.ble 54 p then (bif Nat.beq p 54 then 0 else 0) else (bif Nat.beq p 49 then 2 else 0)) else (bif Nat.beq p 40 then 2 else 0)) else (bif Nat.ble 25 p then (bif Nat.beq p 25 then 3 else 0) else (bif Nat.beq p 11 then 2 else 0))))
theorem hfl_X1 : sl_hfl RX1 fl_X1 := by
  intro j ci k h
  have h1 := sl_tA (N := 131) (L := [(14, (1, 4)), (20, (1, 6)), (26, (1, 7)), (30, (1, 0)), (34, (1, 1)), (43, (1, 2)), (50, (1, 3)), (62, (1, 5)), (70, (6, 1)), (125, (8, 1)), (130, (8, 3))]) (fun p h => by unfold fl_X1; rw [Nat.ble_eq.mpr h]; rfl) (by decide +kernel) _ _ h
  clear h
  simp only [List.mem_cons, List.not_mem_nil, or_false] at h1
  rcases h1 with h1 | h1 | h1 | h1 | h1 | h1 | h1 | h1 | h1 | h1 | h1
  · cases h1; exact ⟨by decide, by decide, sl_gw_at 300 (by decide +kernel) (by decide +kernel)⟩
  · cases h1; exact ⟨by decide, by decide, sl_gw_at 303 (by decide +kernel) (by decide +kernel)⟩
  · cases h1; exact ⟨by decide, by decide, sl_gw_at 304 (by decide +kernel) (by decide +kernel)⟩
  · cases h1; exact ⟨by decide, by decide, sl_gw_at 294 (by decide +kernel) (by decide +kernel)⟩
  · cases h1; exact ⟨by decide, by decide, sl_gw_at 295 (by decide +kernel) (by decide +kernel)⟩
  · cases h1; exact ⟨by decide, by decide, sl_gw_at 296 (by decide +kernel) (by decide +kernel)⟩
  · cases h1; exact ⟨by decide, by decide, sl_gw_at 298 (by decide +kernel) (by decide +kernel)⟩
  · cases h1; exact ⟨by decide, by decide, sl_gw_at 302 (by decide +kernel) (by decide +kernel)⟩
  · cases h1; exact ⟨by decide, by decide, sl_gw_at 131 (by decide +kernel) (by decide +kernel)⟩
  · cases h1; exact ⟨by decide, by decide, sl_gw_at 79 (by decide +kernel) (by decide +kernel)⟩
  · cases h1; exact ⟨by decide, by decide, sl_gw_at 85 (by decide +kernel) (by decide +kernel)⟩
theorem hpf_X1 {mn : String} : sl_hpf RX1 mn pf_X1 := by
  intro j ci k t h
  have h1 := sl_tA (N := 131) (L := [(62, (1, 5, 1)), (70, (6, 1, 0)), (125, (8, 1, 0)), (130, (8, 3, 0))]) (fun p h => by unfold pf_X1; rw [Nat.ble_eq.mpr h]; rfl) (by decide +kernel) _ _ h
  clear h
  simp only [List.mem_cons, List.not_mem_nil, or_false] at h1
  rcases h1 with h1 | h1 | h1 | h1
  · cases h1; exact ⟨by decide, by decide, sl_gw_at 302 (by decide +kernel) (by decide +kernel), Or.inl rfl, rfl⟩
  · cases h1; exact ⟨by decide, by decide, sl_gw_at 131 (by decide +kernel) (by decide +kernel), Or.inl rfl, rfl⟩
  · cases h1; exact ⟨by decide, by decide, sl_gw_at 79 (by decide +kernel) (by decide +kernel), Or.inl rfl, rfl⟩
  · cases h1; exact ⟨by decide, by decide, sl_gw_at 85 (by decide +kernel) (by decide +kernel), Or.inl rfl, rfl⟩
theorem hpi_X1 : sl_hpf RX1 "<init>" pi_X1 := by
  intro j ci k t h
  have h1 := sl_tA (N := 131) (L := [(14, (1, 4, 2)), (20, (1, 6, 2)), (26, (1, 7, 2)), (30, (1, 0, 2)), (34, (1, 1, 2)), (43, (1, 2, 2)), (50, (1, 3, 2)), (62, (1, 5, 1)), (70, (6, 1, 0)), (125, (8, 1, 0)), (130, (8, 3, 0))]) (fun p h => by unfold pi_X1; rw [Nat.ble_eq.mpr h]; rfl) (by decide +kernel) _ _ h
  clear h
  simp only [List.mem_cons, List.not_mem_nil, or_false] at h1
  rcases h1 with h1 | h1 | h1 | h1 | h1 | h1 | h1 | h1 | h1 | h1 | h1
  · cases h1; exact ⟨by decide, by decide, sl_gw_at 300 (by decide +kernel) (by decide +kernel), Or.inr ⟨rfl, rfl⟩, rfl⟩
  · cases h1; exact ⟨by decide, by decide, sl_gw_at 303 (by decide +kernel) (by decide +kernel), Or.inr ⟨rfl, rfl⟩, rfl⟩
  · cases h1; exact ⟨by decide, by decide, sl_gw_at 304 (by decide +kernel) (by decide +kernel), Or.inr ⟨rfl, rfl⟩, rfl⟩
  · cases h1; exact ⟨by decide, by decide, sl_gw_at 294 (by decide +kernel) (by decide +kernel), Or.inr ⟨rfl, rfl⟩, rfl⟩
  · cases h1; exact ⟨by decide, by decide, sl_gw_at 295 (by decide +kernel) (by decide +kernel), Or.inr ⟨rfl, rfl⟩, rfl⟩
  · cases h1; exact ⟨by decide, by decide, sl_gw_at 296 (by decide +kernel) (by decide +kernel), Or.inr ⟨rfl, rfl⟩, rfl⟩
  · cases h1; exact ⟨by decide, by decide, sl_gw_at 298 (by decide +kernel) (by decide +kernel), Or.inr ⟨rfl, rfl⟩, rfl⟩
  · cases h1; exact ⟨by decide, by decide, sl_gw_at 302 (by decide +kernel) (by decide +kernel), Or.inl rfl, rfl⟩
  · cases h1; exact ⟨by decide, by decide, sl_gw_at 131 (by decide +kernel) (by decide +kernel), Or.inl rfl, rfl⟩
  · cases h1; exact ⟨by decide, by decide, sl_gw_at 79 (by decide +kernel) (by decide +kernel), Or.inl rfl, rfl⟩
  · cases h1; exact ⟨by decide, by decide, sl_gw_at 85 (by decide +kernel) (by decide +kernel), Or.inl rfl, rfl⟩
theorem hnw_X1 : sl_hnw RX1 nw_X1 := by
  intro j ci h
  have h1 := sl_tA (N := 48) (L := [(9, 6), (23, 3), (38, 7), (47, 5)]) (fun p h => by unfold nw_X1; rw [Nat.ble_eq.mpr h]; rfl) (by decide +kernel) _ _ h
  clear h
  simp only [List.mem_cons, List.not_mem_nil, or_false] at h1
  rcases h1 with h1 | h1 | h1 | h1
  · cases h1; exact ⟨by decide, sl_gw_at 191 (by decide +kernel) (by decide +kernel), sl_gw_at 119 (by decide +kernel) (by decide +kernel), sl_gw_at 49 (by decide +kernel) (by decide +kernel)⟩
  · cases h1; exact ⟨by decide, sl_gw_at 193 (by decide +kernel) (by decide +kernel), sl_gw_at 194 (by decide +kernel) (by decide +kernel), sl_gw_at 52 (by decide +kernel) (by decide +kernel)⟩
  · cases h1; exact ⟨by decide, sl_gw_at 208 (by decide +kernel) (by decide +kernel), sl_gw_at 209 (by decide +kernel) (by decide +kernel), sl_gw_at 53 (by decide +kernel) (by decide +kernel)⟩
  · cases h1; exact ⟨by decide, sl_gw_at 262 (by decide +kernel) (by decide +kernel), sl_gw_at 263 (by decide +kernel) (by decide +kernel), sl_gw_at 54 (by decide +kernel) (by decide +kernel)⟩
def ck_X10 (p : Nat) : Nat := bif Nat.ble 108 p then (bif Nat.ble 154 p then (bif Nat.ble 214 p then (bif Nat.ble 223 p then (bif Nat.ble 227 p then (bif Nat.ble 236 p then (bif Nat.beq p 236 then 1 else 0) else (bif Nat.beq p 227 then 1 else 0)) else (bif Nat.beq p 223 then 0 else 0)) else (bif Nat.ble 217 p then (bif Nat.beq p 217 then 1 else 0) else (bif Nat.beq p 214 then 0 else 0))) else (bif Nat.ble 167 p then (bif Nat.ble 205 p then (bif Nat.ble 211 p then (bif Nat.beq p 211 then 0 else 0) else (bif Nat.beq p 205 then 0 else 0)) else (bif Nat.beq p 167 then 0 else 0)) else (bif Nat.ble 158 p then (bif Nat.beq p 158 then 0 else 0) else (bif Nat.beq p 154 then 0 else 0)))) else (bif Nat.ble 130 p then (bif Nat.ble 138 p then (bif Nat.ble 142 p then (bif Nat.ble 150 p then (bif Nat.beq p 150 then 1 else 0) else (bif Nat.beq p 142 then 0 else 0)) else (bif Nat.beq p 138 then 1 else 0)) else (bif Nat.ble 134 p then (bif Nat.beq p 134 then 0 else 0) else (bif Nat.beq p 130 then 0 else 0))) else (bif Nat.ble 125 p then (bif Nat.ble 127 p then (bif Nat.beq p 127 then 0 else 0) else (bif Nat.beq p 125 then 0 else 0)) else (bif Nat.ble 121 p then (bif Nat.beq p 121 then 0 else 0) else (bif Nat.beq p 108 then 0 else 0))))) else (bif Nat.ble 77 p then (bif Nat.ble 91 p then (bif Nat.ble 97 p then (bif Nat.ble 98 p then (bif Nat.ble 104 p then (bif Nat.beq p 104 then 0 else 0) else (bif Nat.beq p 98 then 1 else 0)) else (bif Nat.beq p 97 then 0 else 0)) else (bif Nat.ble 94 p then (bif Nat.beq p 94 then 0 else 0) else (bif Nat.beq p 91 then 0 else 0))) else (bif Nat.ble 79 p then (bif Nat.ble 80 p then (bif Nat.ble 84 p then (bif Nat.beq p 84 then 0 else 0) else (bif Nat.beq p 80 then 0 else 0)) else (bif Nat.beq p 79 then 0 else 0)) else (bif Nat.ble 78 p then (bif Nat.beq p 78 then 0 else 0) else (bif Nat.beq p 77 then 0 else 0)))) else (bif Nat.ble 49 p then (bif Nat.ble 66 p then (bif Nat.ble 70 p then (bif Nat.ble 74 p then (bif Nat.beq p 74 then 0 else 0) else (bif Nat.beq p 70 then 0 else 0)) else (bif Nat.beq p 66 then 1 else 0)) else (bif Nat.ble 61 p then (bif Nat.beq p 61 then 3 else 0) else (bif Nat.beq p 49 then 2 else 0))) else (bif Nat.ble 25 p then (bif Nat.ble 37 p then (bif Nat.beq p 37 then 2 else 0) else (bif Nat.beq p 25 then 2 else 0)) else (bif Nat.ble 18 p then (bif Nat.beq p 18 then 3 else 0) else (bif Nat.beq p 11 then 3 else 0)))))
theorem hfl_X10 : sl_hfl RX10 fl_X10 := by
  intro j ci k h
  have h1 := sl_tA (N := 234) (L := [(12, (10, 0)), (19, (10, 1)), (28, (10, 2)), (32, (10, 3)), (40, (10, 4)), (44, (10, 5)), (52, (10, 6)), (56, (10, 7)), (62, (10, 8)), (87, (6, 1)), (112, (1, 2)), (116, (7, 3)), (145, (2, 0)), (161, (4, 4)), (164, (1, 4)), (171, (2, 1)), (174, (2, 2)), (177, (2, 3)), (180, (2, 4)), (184, (7, 4)), (187, (7, 7)), (190, (7, 8)), (193, (1, 3)), (197, (5, 4)), (202, (5, 3)), (208, (7, 5)), (230, (3, 0)), (233, (3, 1))]) (fun p h => by unfold fl_X10; rw [Nat.ble_eq.mpr h]; rfl) (by decide +kernel) _ _ h
  clear h
  simp only [List.mem_cons, List.not_mem_nil, or_false] at h1
  rcases h1 with h1 | h1 | h1 | h1 | h1 | h1 | h1 | h1 | h1 | h1 | h1 | h1 | h1 | h1 | h1 | h1 | h1 | h1 | h1 | h1 | h1 | h1 | h1 | h1 | h1 | h1 | h1 | h1
  · cases h1; exact ⟨by decide, by decide, sl_gw_at 326 (by decide +kernel) (by decide +kernel)⟩
  · cases h1; exact ⟨by decide, by decide, sl_gw_at 327 (by decide +kernel) (by decide +kernel)⟩
  · cases h1; exact ⟨by decide, by decide, sl_gw_at 328 (by decide +kernel) (by decide +kernel)⟩
  · cases h1; exact ⟨by decide, by decide, sl_gw_at 329 (by decide +kernel) (by decide +kernel)⟩
  · cases h1; exact ⟨by decide, by decide, sl_gw_at 330 (by decide +kernel) (by decide +kernel)⟩
  · cases h1; exact ⟨by decide, by decide, sl_gw_at 331 (by decide +kernel) (by decide +kernel)⟩
  · cases h1; exact ⟨by decide, by decide, sl_gw_at 332 (by decide +kernel) (by decide +kernel)⟩
  · cases h1; exact ⟨by decide, by decide, sl_gw_at 333 (by decide +kernel) (by decide +kernel)⟩
  · cases h1; exact ⟨by decide, by decide, sl_gw_at 334 (by decide +kernel) (by decide +kernel)⟩
  · cases h1; exact ⟨by decide, by decide, sl_gw_at 129 (by decide +kernel) (by decide +kernel)⟩
  · cases h1; exact ⟨by decide, by decide, sl_gw_at 297 (by decide +kernel) (by decide +kernel)⟩
  · cases h1; exact ⟨by decide, by decide, sl_gw_at 220 (by decide +kernel) (by decide +kernel)⟩
  · cases h1; exact ⟨by decide, by decide, sl_gw_at 148 (by decide +kernel) (by decide +kernel)⟩
  · cases h1; exact ⟨by decide, by decide, sl_gw_at 173 (by decide +kernel) (by decide +kernel)⟩
  · cases h1; exact ⟨by decide, by decide, sl_gw_at 301 (by decide +kernel) (by decide +kernel)⟩
  · cases h1; exact ⟨by decide, by decide, sl_gw_at 150 (by decide +kernel) (by decide +kernel)⟩
  · cases h1; exact ⟨by decide, by decide, sl_gw_at 152 (by decide +kernel) (by decide +kernel)⟩
  · cases h1; exact ⟨by decide, by decide, sl_gw_at 154 (by decide +kernel) (by decide +kernel)⟩
  · cases h1; exact ⟨by decide, by decide, sl_gw_at 156 (by decide +kernel) (by decide +kernel)⟩
  · cases h1; exact ⟨by decide, by decide, sl_gw_at 222 (by decide +kernel) (by decide +kernel)⟩
  · cases h1; exact ⟨by decide, by decide, sl_gw_at 227 (by decide +kernel) (by decide +kernel)⟩
  · cases h1; exact ⟨by decide, by decide, sl_gw_at 229 (by decide +kernel) (by decide +kernel)⟩
  · cases h1; exact ⟨by decide, by decide, sl_gw_at 299 (by decide +kernel) (by decide +kernel)⟩
  · cases h1; exact ⟨by decide, by decide, sl_gw_at 276 (by decide +kernel) (by decide +kernel)⟩
  · cases h1; exact ⟨by decide, by decide, sl_gw_at 274 (by decide +kernel) (by decide +kernel)⟩
  · cases h1; exact ⟨by decide, by decide, sl_gw_at 224 (by decide +kernel) (by decide +kernel)⟩
  · cases h1; exact ⟨by decide, by decide, sl_gw_at 200 (by decide +kernel) (by decide +kernel)⟩
  · cases h1; exact ⟨by decide, by decide, sl_gw_at 202 (by decide +kernel) (by decide +kernel)⟩
theorem hpf_X10 {mn : String} : sl_hpf RX10 mn pf_X10 := by
  intro j ci k t h
  have h1 := sl_tA (N := 234) (L := [(87, (6, 1, 0)), (161, (4, 4, 0)), (171, (2, 1, 0)), (174, (2, 2, 0)), (177, (2, 3, 0)), (180, (2, 4, 1)), (184, (7, 4, 0)), (187, (7, 7, 0)), (190, (7, 8, 0)), (197, (5, 4, 0)), (208, (7, 5, 0)), (230, (3, 0, 0)), (233, (3, 1, 0))]) (fun p h => by unfold pf_X10; rw [Nat.ble_eq.mpr h]; rfl) (by decide +kernel) _ _ h
  clear h
  simp only [List.mem_cons, List.not_mem_nil, or_false] at h1
  rcases h1 with h1 | h1 | h1 | h1 | h1 | h1 | h1 | h1 | h1 | h1 | h1 | h1 | h1
  · cases h1; exact ⟨by decide, by decide, sl_gw_at 129 (by decide +kernel) (by decide +kernel), Or.inl rfl, rfl⟩
  · cases h1; exact ⟨by decide, by decide, sl_gw_at 173 (by decide +kernel) (by decide +kernel), Or.inl rfl, rfl⟩
  · cases h1; exact ⟨by decide, by decide, sl_gw_at 150 (by decide +kernel) (by decide +kernel), Or.inl rfl, rfl⟩
  · cases h1; exact ⟨by decide, by decide, sl_gw_at 152 (by decide +kernel) (by decide +kernel), Or.inl rfl, rfl⟩
  · cases h1; exact ⟨by decide, by decide, sl_gw_at 154 (by decide +kernel) (by decide +kernel), Or.inl rfl, rfl⟩
  · cases h1; exact ⟨by decide, by decide, sl_gw_at 156 (by decide +kernel) (by decide +kernel), Or.inl rfl, rfl⟩
  · cases h1; exact ⟨by decide, by decide, sl_gw_at 222 (by decide +kernel) (by decide +kernel), Or.inl rfl, rfl⟩
  · cases h1; exact ⟨by decide, by decide, sl_gw_at 227 (by decide +kernel) (by decide +kernel), Or.inl rfl, rfl⟩
  · cases h1; exact ⟨by decide, by decide, sl_gw_at 229 (by decide +kernel) (by decide +kernel), Or.inl rfl, rfl⟩
  · cases h1; exact ⟨by decide, by decide, sl_gw_at 276 (by decide +kernel) (by decide +kernel), Or.inl rfl, rfl⟩
  · cases h1; exact ⟨by decide, by decide, sl_gw_at 224 (by decide +kernel) (by decide +kernel), Or.inl rfl, rfl⟩
  · cases h1; exact ⟨by decide, by decide, sl_gw_at 200 (by decide +kernel) (by decide +kernel), Or.inl rfl, rfl⟩
  · cases h1; exact ⟨by decide, by decide, sl_gw_at 202 (by decide +kernel) (by decide +kernel), Or.inl rfl, rfl⟩
theorem hpi_X10 : sl_hpf RX10 "<init>" pi_X10 := by
  intro j ci k t h
  have h1 := sl_tA (N := 234) (L := [(12, (10, 0, 2)), (19, (10, 1, 2)), (28, (10, 2, 2)), (32, (10, 3, 2)), (40, (10, 4, 2)), (44, (10, 5, 2)), (52, (10, 6, 2)), (56, (10, 7, 2)), (62, (10, 8, 2)), (87, (6, 1, 0)), (161, (4, 4, 0)), (171, (2, 1, 0)), (174, (2, 2, 0)), (177, (2, 3, 0)), (180, (2, 4, 1)), (184, (7, 4, 0)), (187, (7, 7, 0)), (190, (7, 8, 0)), (197, (5, 4, 0)), (208, (7, 5, 0)), (230, (3, 0, 0)), (233, (3, 1, 0))]) (fun p h => by unfold pi_X10; rw [Nat.ble_eq.mpr h]; rfl) (by decide +kernel) _ _ h
  clear h
  simp only [List.mem_cons, List.not_mem_nil, or_false] at h1
  rcases h1 with h1 | h1 | h1 | h1 | h1 | h1 | h1 | h1 | h1 | h1 | h1 | h1 | h1 | h1 | h1 | h1 | h1 | h1 | h1 | h1 | h1 | h1
  · cases h1; exact ⟨by decide, by decide, sl_gw_at 326 (by decide +kernel) (by decide +kernel), Or.inr ⟨rfl, rfl⟩, rfl⟩
  · cases h1; exact ⟨by decide, by decide, sl_gw_at 327 (by decide +kernel) (by decide +kernel), Or.inr ⟨rfl, rfl⟩, rfl⟩
  · cases h1; exact ⟨by decide, by decide, sl_gw_at 328 (by decide +kernel) (by decide +kernel), Or.inr ⟨rfl, rfl⟩, rfl⟩
  · cases h1; exact ⟨by decide, by decide, sl_gw_at 329 (by decide +kernel) (by decide +kernel), Or.inr ⟨rfl, rfl⟩, rfl⟩
  · cases h1; exact ⟨by decide, by decide, sl_gw_at 330 (by decide +kernel) (by decide +kernel), Or.inr ⟨rfl, rfl⟩, rfl⟩
  · cases h1; exact ⟨by decide, by decide, sl_gw_at 331 (by decide +kernel) (by decide +kernel), Or.inr ⟨rfl, rfl⟩, rfl⟩
  · cases h1; exact ⟨by decide, by decide, sl_gw_at 332 (by decide +kernel) (by decide +kernel), Or.inr ⟨rfl, rfl⟩, rfl⟩
  · cases h1; exact ⟨by decide, by decide, sl_gw_at 333 (by decide +kernel) (by decide +kernel), Or.inr ⟨rfl, rfl⟩, rfl⟩
  · cases h1; exact ⟨by decide, by decide, sl_gw_at 334 (by decide +kernel) (by decide +kernel), Or.inr ⟨rfl, rfl⟩, rfl⟩
  · cases h1; exact ⟨by decide, by decide, sl_gw_at 129 (by decide +kernel) (by decide +kernel), Or.inl rfl, rfl⟩
  · cases h1; exact ⟨by decide, by decide, sl_gw_at 173 (by decide +kernel) (by decide +kernel), Or.inl rfl, rfl⟩
  · cases h1; exact ⟨by decide, by decide, sl_gw_at 150 (by decide +kernel) (by decide +kernel), Or.inl rfl, rfl⟩
  · cases h1; exact ⟨by decide, by decide, sl_gw_at 152 (by decide +kernel) (by decide +kernel), Or.inl rfl, rfl⟩
  · cases h1; exact ⟨by decide, by decide, sl_gw_at 154 (by decide +kernel) (by decide +kernel), Or.inl rfl, rfl⟩
  · cases h1; exact ⟨by decide, by decide, sl_gw_at 156 (by decide +kernel) (by decide +kernel), Or.inl rfl, rfl⟩
  · cases h1; exact ⟨by decide, by decide, sl_gw_at 222 (by decide +kernel) (by decide +kernel), Or.inl rfl, rfl⟩
  · cases h1; exact ⟨by decide, by decide, sl_gw_at 227 (by decide +kernel) (by decide +kernel), Or.inl rfl, rfl⟩
  · cases h1; exact ⟨by decide, by decide, sl_gw_at 229 (by decide +kernel) (by decide +kernel), Or.inl rfl, rfl⟩
  · cases h1; exact ⟨by decide, by decide, sl_gw_at 276 (by decide +kernel) (by decide +kernel), Or.inl rfl, rfl⟩
  · cases h1; exact ⟨by decide, by decide, sl_gw_at 224 (by decide +kernel) (by decide +kernel), Or.inl rfl, rfl⟩
  · cases h1; exact ⟨by decide, by decide, sl_gw_at 200 (by decide +kernel) (by decide +kernel), Or.inl rfl, rfl⟩
  · cases h1; exact ⟨by decide, by decide, sl_gw_at 202 (by decide +kernel) (by decide +kernel), Or.inl rfl, rfl⟩
theorem hnw_X10 : sl_hnw RX10 nw_X10 := by
  intro j ci h
  have h1 := sl_tA (N := 60) (L := [(9, 8), (16, 9), (23, 4), (35, 1), (47, 6), (59, 3)]) (fun p h => by unfold nw_X10; rw [Nat.ble_eq.mpr h]; rfl) (by decide +kernel) _ _ h
  clear h
  simp only [List.mem_cons, List.not_mem_nil, or_false] at h1
  rcases h1 with h1 | h1 | h1 | h1 | h1 | h1
  · cases h1; exact ⟨by decide, sl_gw_at 71 (by decide +kernel) (by decide +kernel), sl_gw_at 72 (by decide +kernel) (by decide +kernel), sl_gw_at 46 (by decide +kernel) (by decide +kernel)⟩
  · cases h1; exact ⟨by decide, sl_gw_at 99 (by decide +kernel) (by decide +kernel), sl_gw_at 100 (by decide +kernel) (by decide +kernel), sl_gw_at 47 (by decide +kernel) (by decide +kernel)⟩
  · cases h1; exact ⟨by decide, sl_gw_at 110 (by decide +kernel) (by decide +kernel), sl_gw_at 111 (by decide +kernel) (by decide +kernel), sl_gw_at 48 (by decide +kernel) (by decide +kernel)⟩
  · cases h1; exact ⟨by decide, sl_gw_at 185 (by decide +kernel) (by decide +kernel), sl_gw_at 186 (by decide +kernel) (by decide +kernel), sl_gw_at 51 (by decide +kernel) (by decide +kernel)⟩
  · cases h1; exact ⟨by decide, sl_gw_at 322 (by decide +kernel) (by decide +kernel), sl_gw_at 119 (by decide +kernel) (by decide +kernel), sl_gw_at 49 (by decide +kernel) (by decide +kernel)⟩
  · cases h1; exact ⟨by decide, sl_gw_at 324 (by decide +kernel) (by decide +kernel), sl_gw_at 194 (by decide +kernel) (by decide +kernel), sl_gw_at 52 (by decide +kernel) (by decide +kernel)⟩
def ck_X11 (p : Nat) : Nat := bif Nat.ble 187 p then (bif Nat.ble 207 p then (bif Nat.ble 217 p then (bif Nat.ble 221 p then (bif Nat.ble 225 p then (bif Nat.beq p 225 then 0 else 0) else (bif Nat.beq p 221 then 0 else 0)) else (bif Nat.beq p 217 then 0 else 0)) else (bif Nat.ble 210 p then (bif Nat.ble 214 p then (bif Nat.beq p 214 then 0 else 0) else (bif Nat.beq p 210 then 0 else 0)) else (bif Nat.beq p 207 then 0 else 0))) else (bif Nat.ble 197 p then (bif Nat.ble 200 p then (bif Nat.ble 204 p then (bif Nat.beq p 204 then 0 else 0) else (bif Nat.beq p 200 then 0 else 0)) else (bif Nat.beq p 197 then 0 else 0)) else (bif Nat.ble 190 p then (bif Nat.ble 194 p then (bif Nat.beq p 194 then 0 else 0) else (bif Nat.beq p 190 then 0 else 0)) else (bif Nat.beq p 187 then 0 else 0)))) else (bif Nat.ble 165 p then (bif Nat.ble 177 p then (bif Nat.ble 180 p then (bif Nat.ble 184 p then (bif Nat.beq p 184 then 0 else 0) else (bif Nat.beq p 180 then 0 else 0)) else (bif Nat.beq p 177 then 0 else 0)) else (bif Nat.ble 169 p then (bif Nat.ble 173 p then (bif Nat.beq p 173 then 0 else 0) else (bif Nat.beq p 169 then 0 else 0)) else (bif Nat.beq p 165 then 0 else 0))) else (bif Nat.ble 153 p then (bif Nat.ble 157 p then (bif Nat.ble 161 p then (bif Nat.beq p 161 then 0 else 0) else (bif Nat.beq p 157 then 1 else 0)) else (bif Nat.beq p 153 then 0 else 0)) else (bif Nat.ble 149 p then (bif Nat.beq p 149 then 0 else 0) else (bif Nat.beq p 146 then 0 else 0))))
theorem hfl_X11 : sl_hfl RX11 fl_X11 := by
  intro j ci k h
  have h1 := sl_tA (N := 143) (L := [(7, (11, 0)), (13, (11, 1)), (17, (11, 2)), (20, (11, 3)), (23, (11, 4)), (26, (11, 5)), (30, (11, 6)), (33, (11, 7)), (36, (11, 8)), (39, (11, 9)), (42, (11, 10)), (45, (11, 11)), (48, (11, 12)), (51, (11, 13)), (54, (11, 14)), (57, (11, 15)), (60, (11, 16)), (63, (11, 17)), (66, (11, 18)), (69, (11, 19)), (72, (11, 20)), (75, (11, 21)), (78, (11, 22)), (81, (11, 23)), (84, (11, 24)), (87, (11, 25)), (91, (11, 26)), (94, (11, 27)), (97, (11, 28)), (100, (11, 29)), (103, (11, 30)), (106, (11, 31)), (109, (11, 32)), (112, (11, 33)), (115, (11, 34)), (118, (11, 35)), (121, (11, 36)), (124, (11, 37)), (127, (11, 38)), (130, (11, 39)), (133, (11, 40)), (136, (11, 41)), (139, (11, 42)), (142, (11, 43))]) (fun p h => by unfold fl_X11; rw [Nat.ble_eq.mpr h]; rfl) (by decide +kernel) _ _ h
  clear h
  simp only [List.mem_cons, List.not_mem_nil, or_false] at h1
  rcases h1 with h1 | h1 | h1 | h1 | h1 | h1 | h1 | h1 | h1 | h1 | h1 | h1 | h1 | h1 | h1 | h1 | h1 | h1 | h1 | h1 | h1 | h1 | h1 | h1 | h1 | h1 | h1 | h1 | h1 | h1 | h1 | h1 | h1 | h1 | h1 | h1 | h1 | h1 | h1 | h1 | h1 | h1 | h1 | h1
  · cases h1; exact ⟨by decide, by decide, sl_gw_at 819 (by decide +kernel) (by decide +kernel)⟩
  · cases h1; exact ⟨by decide, by decide, sl_gw_at 820 (by decide +kernel) (by decide +kernel)⟩
  · cases h1; exact ⟨by decide, by decide, sl_gw_at 821 (by decide +kernel) (by decide +kernel)⟩
  · cases h1; exact ⟨by decide, by decide, sl_gw_at 822 (by decide +kernel) (by decide +kernel)⟩
  · cases h1; exact ⟨by decide, by decide, sl_gw_at 823 (by decide +kernel) (by decide +kernel)⟩
  · cases h1; exact ⟨by decide, by decide, sl_gw_at 824 (by decide +kernel) (by decide +kernel)⟩
  · cases h1; exact ⟨by decide, by decide, sl_gw_at 825 (by decide +kernel) (by decide +kernel)⟩
  · cases h1; exact ⟨by decide, by decide, sl_gw_at 826 (by decide +kernel) (by decide +kernel)⟩
  · cases h1; exact ⟨by decide, by decide, sl_gw_at 827 (by decide +kernel) (by decide +kernel)⟩
  · cases h1; exact ⟨by decide, by decide, sl_gw_at 828 (by decide +kernel) (by decide +kernel)⟩
  · cases h1; exact ⟨by decide, by decide, sl_gw_at 829 (by decide +kernel) (by decide +kernel)⟩
  · cases h1; exact ⟨by decide, by decide, sl_gw_at 830 (by decide +kernel) (by decide +kernel)⟩
  · cases h1; exact ⟨by decide, by decide, sl_gw_at 831 (by decide +kernel) (by decide +kernel)⟩
  · cases h1; exact ⟨by decide, by decide, sl_gw_at 832 (by decide +kernel) (by decide +kernel)⟩
  · cases h1; exact ⟨by decide, by decide, sl_gw_at 833 (by decide +kernel) (by decide +kernel)⟩
  · cases h1; exact ⟨by decide, by decide, sl_gw_at 834 (by decide +kernel) (by decide +kernel)⟩
  · cases h1; exact ⟨by decide, by decide, sl_gw_at 835 (by decide +kernel) (by decide +kernel)⟩
  · cases h1; exact ⟨by decide, by decide, sl_gw_at 836 (by decide +kernel) (by decide +kernel)⟩
  · cases h1; exact ⟨by decide, by decide, sl_gw_at 837 (by decide +kernel) (by decide +kernel)⟩
  · cases h1; exact ⟨by decide, by decide, sl_gw_at 838 (by decide +kernel) (by decide +kernel)⟩
  · cases h1; exact ⟨by decide, by decide, sl_gw_at 839 (by decide +kernel) (by decide +kernel)⟩
  · cases h1; exact ⟨by decide, by decide, sl_gw_at 840 (by decide +kernel) (by decide +kernel)⟩
  · cases h1; exact ⟨by decide, by decide, sl_gw_at 841 (by decide +kernel) (by decide +kernel)⟩
  · cases h1; exact ⟨by decide, by decide, sl_gw_at 842 (by decide +kernel) (by decide +kernel)⟩
  · cases h1; exact ⟨by decide, by decide, sl_gw_at 843 (by decide +kernel) (by decide +kernel)⟩
  · cases h1; exact ⟨by decide, by decide, sl_gw_at 844 (by decide +kernel) (by decide +kernel)⟩
  · cases h1; exact ⟨by decide, by decide, sl_gw_at 845 (by decide +kernel) (by decide +kernel)⟩
  · cases h1; exact ⟨by decide, by decide, sl_gw_at 846 (by decide +kernel) (by decide +kernel)⟩
  · cases h1; exact ⟨by decide, by decide, sl_gw_at 847 (by decide +kernel) (by decide +kernel)⟩
  · cases h1; exact ⟨by decide, by decide, sl_gw_at 848 (by decide +kernel) (by decide +kernel)⟩
  · cases h1; exact ⟨by decide, by decide, sl_gw_at 849 (by decide +kernel) (by decide +kernel)⟩
  · cases h1; exact ⟨by decide, by decide, sl_gw_at 850 (by decide +kernel) (by decide +kernel)⟩
  · cases h1; exact ⟨by decide, by decide, sl_gw_at 851 (by decide +kernel) (by decide +kernel)⟩
  · cases h1; exact ⟨by decide, by decide, sl_gw_at 852 (by decide +kernel) (by decide +kernel)⟩
  · cases h1; exact ⟨by decide, by decide, sl_gw_at 853 (by decide +kernel) (by decide +kernel)⟩
  · cases h1; exact ⟨by decide, by decide, sl_gw_at 854 (by decide +kernel) (by decide +kernel)⟩
  · cases h1; exact ⟨by decide, by decide, sl_gw_at 855 (by decide +kernel) (by decide +kernel)⟩
  · cases h1; exact ⟨by decide, by decide, sl_gw_at 856 (by decide +kernel) (by decide +kernel)⟩
  · cases h1; exact ⟨by decide, by decide, sl_gw_at 857 (by decide +kernel) (by decide +kernel)⟩
  · cases h1; exact ⟨by decide, by decide, sl_gw_at 858 (by decide +kernel) (by decide +kernel)⟩
  · cases h1; exact ⟨by decide, by decide, sl_gw_at 859 (by decide +kernel) (by decide +kernel)⟩
  · cases h1; exact ⟨by decide, by decide, sl_gw_at 860 (by decide +kernel) (by decide +kernel)⟩
  · cases h1; exact ⟨by decide, by decide, sl_gw_at 861 (by decide +kernel) (by decide +kernel)⟩
  · cases h1; exact ⟨by decide, by decide, sl_gw_at 862 (by decide +kernel) (by decide +kernel)⟩
theorem hpf_X11 {mn : String} : sl_hpf RX11 mn pf_X11 := by
  intro j ci k t h
  have h1 := sl_tA (N := 52) (L := [(7, (11, 0, 0)), (17, (11, 2, 0)), (23, (11, 4, 0)), (30, (11, 6, 0)), (33, (11, 7, 0)), (39, (11, 9, 0)), (42, (11, 10, 0)), (45, (11, 11, 0)), (48, (11, 12, 0)), (51, (11, 13, 0))]) (fun p h => by unfold pf_X11; rw [Nat.ble_eq.mpr h]; rfl) (by decide +kernel) _ _ h
  clear h
  simp only [List.mem_cons, List.not_mem_nil, or_false] at h1
  rcases h1 with h1 | h1 | h1 | h1 | h1 | h1 | h1 | h1 | h1 | h1
  · cases h1; exact ⟨by decide, by decide, sl_gw_at 819 (by decide +kernel) (by decide +kernel), Or.inl rfl, rfl⟩
  · cases h1; exact ⟨by decide, by decide, sl_gw_at 821 (by decide +kernel) (by decide +kernel), Or.inl rfl, rfl⟩
  · cases h1; exact ⟨by decide, by decide, sl_gw_at 823 (by decide +kernel) (by decide +kernel), Or.inl rfl, rfl⟩
  · cases h1; exact ⟨by decide, by decide, sl_gw_at 825 (by decide +kernel) (by decide +kernel), Or.inl rfl, rfl⟩
  · cases h1; exact ⟨by decide, by decide, sl_gw_at 826 (by decide +kernel) (by decide +kernel), Or.inl rfl, rfl⟩
  · cases h1; exact ⟨by decide, by decide, sl_gw_at 828 (by decide +kernel) (by decide +kernel), Or.inl rfl, rfl⟩
  · cases h1; exact ⟨by decide, by decide, sl_gw_at 829 (by decide +kernel) (by decide +kernel), Or.inl rfl, rfl⟩
  · cases h1; exact ⟨by decide, by decide, sl_gw_at 830 (by decide +kernel) (by decide +kernel), Or.inl rfl, rfl⟩
  · cases h1; exact ⟨by decide, by decide, sl_gw_at 831 (by decide +kernel) (by decide +kernel), Or.inl rfl, rfl⟩
  · cases h1; exact ⟨by decide, by decide, sl_gw_at 832 (by decide +kernel) (by decide +kernel), Or.inl rfl, rfl⟩
theorem hpi_X11 : sl_hpf RX11 "<init>" pi_X11 := by
  intro j ci k t h
  have h1 := sl_tA (N := 143) (L := [(7, (11, 0, 0)), (13, (11, 1, 2)), (17, (11, 2, 0)), (20, (11, 3, 2)), (23, (11, 4, 0)), (26, (11, 5, 2)), (30, (11, 6, 0)), (33, (11, 7, 0)), (36, (11, 8, 2)), (39, (11, 9, 0)), (42, (11, 10, 0)), (45, (11, 11, 0)), (48, (11, 12, 0)), (51, (11, 13, 0)), (54, (11, 14, 2)), (57, (11, 15, 2)), (60, (11, 16, 2)), (63, (11, 17, 2)), (66, (11, 18, 2)), (69, (11, 19, 2)), (72, (11, 20, 2)), (75, (11, 21, 2)), (78, (11, 22, 2)), (81, (11, 23, 2)), (84, (11, 24, 2)), (87, (11, 25, 2)), (91, (11, 26, 2)), (94, (11, 27, 2)), (97, (11, 28, 2)), (100, (11, 29, 2)), (103, (11, 30, 2)), (106, (11, 31, 2)), (109, (11, 32, 2)), (112, (11, 33, 2)), (115, (11, 34, 2)), (118, (11, 35, 2)), (121, (11, 36, 2)), (124, (11, 37, 2)), (127, (11, 38, 2)), (130, (11, 39, 2)), (133, (11, 40, 2)), (136, (11, 41, 2)), (139, (11, 42, 2)), (142, (11, 43, 2))]) (fun p h => by unfold pi_X11; rw [Nat.ble_eq.mpr h]; rfl) (by decide +kernel) _ _ h
  clear h
  simp only [List.mem_cons, List.not_mem_nil, or_false] at h1
  rcases h1 with h1 | h1 | h1 | h1 | h1 | h1 | h1 | h1 | h1 | h1 | h1 | h1 | h1 | h1 | h1 | h1 | h1 | h1 | h1 | h1 | h1 | h1 | h1 | h1 | h1 | h1 | h1 | h1 | h1 | h1 | h1 | h1 | h1 | h1 | h1 | h1 | h1 | h1 | h1 | h1 | h1 | h1 | h1 | h1
  · cases h1; exact ⟨by decide, by decide, sl_gw_at 819 (by decide +kernel) (by decide +kernel), Or.inl rfl, rfl⟩
  · cases h1; exact ⟨by decide, by decide, sl_gw_at 820 (by decide +kernel) (by decide +kernel), Or.inr ⟨rfl, rfl⟩, rfl⟩
  · cases h1; exact ⟨by decide, by decide, sl_gw_at 821 (by decide +kernel) (by decide +kernel), Or.inl rfl, rfl⟩
  · cases h1; exact ⟨by decide, by decide, sl_gw_at 822 (by decide +kernel) (by decide +kernel), Or.inr ⟨rfl, rfl⟩, rfl⟩
  · cases h1; exact ⟨by decide, by decide, sl_gw_at 823 (by decide +kernel) (by decide +kernel), Or.inl rfl, rfl⟩
  · cases h1; exact ⟨by decide, by decide, sl_gw_at 824 (by decide +kernel) (by decide +kernel), Or.inr ⟨rfl, rfl⟩, rfl⟩
  · cases h1; exact ⟨by decide, by decide, sl_gw_at 825 (by decide +kernel) (by decide +kernel), Or.inl rfl, rfl⟩
  · cases h1; exact ⟨by decide, by decide, sl_gw_at 826 (by decide +kernel) (by decide +kernel), Or.inl rfl, rfl⟩
  · cases h1; exact ⟨by decide, by decide, sl_gw_at 827 (by decide +kernel) (by decide +kernel), Or.inr ⟨rfl, rfl⟩, rfl⟩
  · cases h1; exact ⟨by decide, by decide, sl_gw_at 828 (by decide +kernel) (by decide +kernel), Or.inl rfl, rfl⟩
  · cases h1; exact ⟨by decide, by decide, sl_gw_at 829 (by decide +kernel) (by decide +kernel), Or.inl rfl, rfl⟩
  · cases h1; exact ⟨by decide, by decide, sl_gw_at 830 (by decide +kernel) (by decide +kernel), Or.inl rfl, rfl⟩
  · cases h1; exact ⟨by decide, by decide, sl_gw_at 831 (by decide +kernel) (by decide +kernel), Or.inl rfl, rfl⟩
  · cases h1; exact ⟨by decide, by decide, sl_gw_at 832 (by decide +kernel) (by decide +kernel), Or.inl rfl, rfl⟩
  · cases h1; exact ⟨by decide, by decide, sl_gw_at 833 (by decide +kernel) (by decide +kernel), Or.inr ⟨rfl, rfl⟩, rfl⟩
  · cases h1; exact ⟨by decide, by decide, sl_gw_at 834 (by decide +kernel) (by decide +kernel), Or.inr ⟨rfl, rfl⟩, rfl⟩
  · cases h1; exact ⟨by decide, by decide, sl_gw_at 835 (by decide +kernel) (by decide +kernel), Or.inr ⟨rfl, rfl⟩, rfl⟩
  · cases h1; exact ⟨by decide, by decide, sl_gw_at 836 (by decide +kernel) (by decide +kernel), Or.inr ⟨rfl, rfl⟩, rfl⟩
  · cases h1; exact ⟨by decide, by decide, sl_gw_at 837 (by decide +kernel) (by decide +kernel), Or.inr ⟨rfl, rfl⟩, rfl⟩
  · cases h1; exact ⟨by decide, by decide, sl_gw_at 838 (by decide +kernel) (by decide +kernel), Or.inr ⟨rfl, rfl⟩, rfl⟩
  · cases h1; exact ⟨by decide, by decide, sl_gw_at 839 (by decide +kernel) (by decide +kernel), Or.inr ⟨rfl, rfl⟩, rfl⟩
  · cases h1; exact ⟨by decide, by decide, sl_gw_at 840 (by decide +kernel) (by decide +kernel), Or.inr ⟨rfl, rfl⟩, rfl⟩
  · cases h1; exact ⟨by decide, by decide, sl_gw_at 841 (by decide +kernel) (by decide +kernel), Or.inr ⟨rfl, rfl⟩, rfl⟩
  · cases h1; exact ⟨by decide, by decide, sl_gw_at 842 (by decide +kernel) (by decide +kernel), Or.inr ⟨rfl, rfl⟩, rfl⟩
  · cases h1; exact ⟨by decide, by decide, sl_gw_at 843 (by decide +kernel) (by decide +kernel), Or.inr ⟨rfl, rfl⟩, rfl⟩
  · cases h1; exact ⟨by decide, by decide, sl_gw_at 844 (by decide +kernel) (by decide +kernel), Or.inr ⟨rfl, rfl⟩, rfl⟩
  · cases h1; exact ⟨by decide, by decide, sl_gw_at 845 (by decide +kernel) (by decide +kernel), Or.inr ⟨rfl, rfl⟩, rfl⟩
  · cases h1; exact ⟨by decide, by decide, sl_gw_at 846 (by decide +kernel) (by decide +kernel), Or.inr ⟨rfl, rfl⟩, rfl⟩
  · cases h1; exact ⟨by decide, by decide, sl_gw_at 847 (by decide +kernel) (by decide +kernel), Or.inr ⟨rfl, rfl⟩, rfl⟩
  · cases h1; exact ⟨by decide, by decide, sl_gw_at 848 (by decide +kernel) (by decide +kernel), Or.inr ⟨rfl, rfl⟩, rfl⟩
  · cases h1; exact ⟨by decide, by decide, sl_gw_at 849 (by decide +kernel) (by decide +kernel), Or.inr ⟨rfl, rfl⟩, rfl⟩
  · cases h1; exact ⟨by decide, by decide, sl_gw_at 850 (by decide +kernel) (by decide +kernel), Or.inr ⟨rfl, rfl⟩, rfl⟩
  · cases h1; exact ⟨by decide, by decide, sl_gw_at 851 (by decide +kernel) (by decide +kernel), Or.inr ⟨rfl, rfl⟩, rfl⟩
  · cases h1; exact ⟨by decide, by decide, sl_gw_at 852 (by decide +kernel) (by decide +kernel), Or.inr ⟨rfl, rfl⟩, rfl⟩
  · cases h1; exact ⟨by decide, by decide, sl_gw_at 853 (by decide +kernel) (by decide +kernel), Or.inr ⟨rfl, rfl⟩, rfl⟩
  · cases h1; exact ⟨by decide, by decide, sl_gw_at 854 (by decide +kernel) (by decide +kernel), Or.inr ⟨rfl, rfl⟩, rfl⟩
  · cases h1; exact ⟨by decide, by decide, sl_gw_at 855 (by decide +kernel) (by decide +kernel), Or.inr ⟨rfl, rfl⟩, rfl⟩
  · cases h1; exact ⟨by decide, by decide, sl_gw_at 856 (by decide +kernel) (by decide +kernel), Or.inr ⟨rfl, rfl⟩, rfl⟩
  · cases h1; exact ⟨by decide, by decide, sl_gw_at 857 (by decide +kernel) (by decide +kernel), Or.inr ⟨rfl, rfl⟩, rfl⟩
  · cases h1; exact ⟨by decide, by decide, sl_gw_at 858 (by decide +kernel) (by decide +kernel), Or.inr ⟨rfl, rfl⟩, rfl⟩
  · cases h1; exact ⟨by decide, by decide, sl_gw_at 859 (by decide +kernel) (by decide +kernel), Or.inr ⟨rfl, rfl⟩, rfl⟩
  · cases h1; exact ⟨by decide, by decide, sl_gw_at 860 (by decide +kernel) (by decide +kernel), Or.inr ⟨rfl, rfl⟩, rfl⟩
  · cases h1; exact ⟨by decide, by decide, sl_gw_at 861 (by decide +kernel) (by decide +kernel), Or.inr ⟨rfl, rfl⟩, rfl⟩
  · cases h1; exact ⟨by decide, by decide, sl_gw_at 862 (by decide +kernel) (by decide +kernel), Or.inr ⟨rfl, rfl⟩, rfl⟩
theorem hnw_X11 : sl_hnw RX11 nw_X11 := by
  intro j ci h
  cases h
def ck_X2 (p : Nat) : Nat := bif Nat.beq p 11 then 2 else 0
theorem hfl_X2 : sl_hfl RX2 fl_X2 := by
  intro j ci k h
  have h1 := sl_tA (N := 15) (L := [(14, (2, 0))]) (fun p h => by unfold fl_X2; rw [Nat.ble_eq.mpr h]; rfl) (by decide +kernel) _ _ h
  clear h
  simp only [List.mem_cons, List.not_mem_nil, or_false] at h1
  · cases h1; exact ⟨by decide, by decide, sl_gw_at 146 (by decide +kernel) (by decide +kernel)⟩
theorem hpf_X2 {mn : String} : sl_hpf RX2 mn pf_X2 := by
  intro j ci k t h
  cases h
theorem hpi_X2 : sl_hpf RX2 "<init>" pi_X2 := by
  intro j ci k t h
  have h1 := sl_tA (N := 15) (L := [(14, (2, 0, 2))]) (fun p h => by unfold pi_X2; rw [Nat.ble_eq.mpr h]; rfl) (by decide +kernel) _ _ h
  clear h
  simp only [List.mem_cons, List.not_mem_nil, or_false] at h1
  · cases h1; exact ⟨by decide, by decide, sl_gw_at 146 (by decide +kernel) (by decide +kernel), Or.inr ⟨rfl, rfl⟩, rfl⟩
theorem hnw_X2 : sl_hnw RX2 nw_X2 := by
  intro j ci h
  have h1 := sl_tA (N := 10) (L := [(9, 6)]) (fun p h => by unfold nw_X2; rw [Nat.ble_eq.mpr h]; rfl) (by decide +kernel) _ _ h
  clear h
  simp only [List.mem_cons, List.not_mem_nil, or_false] at h1
  · cases h1; exact ⟨by decide, sl_gw_at 144 (by decide +kernel) (by decide +kernel), sl_gw_at 119 (by decide +kernel) (by decide +kernel), sl_gw_at 49 (by decide +kernel) (by decide +kernel)⟩
def ck_X3 (p : Nat) : Nat := bif Nat.ble 26 p then (bif Nat.ble 30 p then (bif Nat.beq p 30 then 0 else 0) else (bif Nat.beq p 26 then 0 else 0)) else (bif Nat.beq p 18 then 0 else 0)
theorem hfl_X3 : sl_hfl RX3 fl_X3 := by
  intro j ci k h
  have h1 := sl_tA (N := 22) (L := [(9, (3, 1)), (15, (3, 0)), (21, (6, 1))]) (fun p h => by unfold fl_X3; rw [Nat.ble_eq.mpr h]; rfl) (by decide +kernel) _ _ h
  clear h
  simp only [List.mem_cons, List.not_mem_nil, or_false] at h1
  rcases h1 with h1 | h1 | h1
  · cases h1; exact ⟨by decide, by decide, sl_gw_at 201 (by decide +kernel) (by decide +kernel)⟩
  · cases h1; exact ⟨by decide, by decide, sl_gw_at 199 (by decide +kernel) (by decide +kernel)⟩
  · cases h1; exact ⟨by decide, by decide, sl_gw_at 127 (by decide +kernel) (by decide +kernel)⟩
theorem hpf_X3 {mn : String} : sl_hpf RX3 mn pf_X3 := by
  intro j ci k t h
  have h1 := sl_tA (N := 22) (L := [(9, (3, 1, 0)), (15, (3, 0, 0)), (21, (6, 1, 0))]) (fun p h => by unfold pf_X3; rw [Nat.ble_eq.mpr h]; rfl) (by decide +kernel) _ _ h
  clear h
  simp only [List.mem_cons, List.not_mem_nil, or_false] at h1
  rcases h1 with h1 | h1 | h1
  · cases h1; exact ⟨by decide, by decide, sl_gw_at 201 (by decide +kernel) (by decide +kernel), Or.inl rfl, rfl⟩
  · cases h1; exact ⟨by decide, by decide, sl_gw_at 199 (by decide +kernel) (by decide +kernel), Or.inl rfl, rfl⟩
  · cases h1; exact ⟨by decide, by decide, sl_gw_at 127 (by decide +kernel) (by decide +kernel), Or.inl rfl, rfl⟩
theorem hpi_X3 : sl_hpf RX3 "<init>" pi_X3 := by
  intro j ci k t h
  have h1 := sl_tA (N := 22) (L := [(9, (3, 1, 0)), (15, (3, 0, 0)), (21, (6, 1, 0))]) (fun p h => by unfold pi_X3; rw [Nat.ble_eq.mpr h]; rfl) (by decide +kernel) _ _ h
  clear h
  simp only [List.mem_cons, List.not_mem_nil, or_false] at h1
  rcases h1 with h1 | h1 | h1
  · cases h1; exact ⟨by decide, by decide, sl_gw_at 201 (by decide +kernel) (by decide +kernel), Or.inl rfl, rfl⟩
  · cases h1; exact ⟨by decide, by decide, sl_gw_at 199 (by decide +kernel) (by decide +kernel), Or.inl rfl, rfl⟩
  · cases h1; exact ⟨by decide, by decide, sl_gw_at 127 (by decide +kernel) (by decide +kernel), Or.inl rfl, rfl⟩
theorem hnw_X3 : sl_hnw RX3 nw_X3 := by
  intro j ci h
  cases h
def ck_X4 (p : Nat) : Nat := bif Nat.ble 51 p then (bif Nat.ble 59 p then (bif Nat.ble 79 p then (bif Nat.ble 88 p then (bif Nat.beq p 88 then 1 else 0) else (bif Nat.beq p 79 then 1 else 0)) else (bif Nat.beq p 59 then 0 else 0)) else (bif Nat.ble 55 p then (bif Nat.beq p 55 then 0 else 0) else (bif Nat.beq p 51 then 0 else 0))) else (bif Nat.ble 38 p then (bif Nat.ble 42 p then (bif Nat.ble 48 p then (bif Nat.beq p 48 then 0 else 0) else (bif Nat.beq p 42 then 1 else 0)) else (bif Nat.beq p 38 then 0 else 0)) else (bif Nat.ble 30 p then (bif Nat.beq p 30 then 3 else 0) else (bif Nat.beq p 19 then 2 else 0)))
theorem hfl_X4 : sl_hfl RX4 fl_X4 := by
  intro j ci k h
  have h1 := sl_tA (N := 86) (L := [(11, (4, 1)), (22, (4, 2)), (26, (4, 0)), (31, (4, 3)), (35, (4, 4)), (63, (2, 1)), (66, (2, 2)), (69, (6, 1)), (72, (2, 3)), (75, (2, 4)), (85, (2, 0))]) (fun p h => by unfold fl_X4; rw [Nat.ble_eq.mpr h]; rfl) (by decide +kernel) _ _ h
  clear h
  simp only [List.mem_cons, List.not_mem_nil, or_false] at h1
  rcases h1 with h1 | h1 | h1 | h1 | h1 | h1 | h1 | h1 | h1 | h1 | h1
  · cases h1; exact ⟨by decide, by decide, sl_gw_at 169 (by decide +kernel) (by decide +kernel)⟩
  · cases h1; exact ⟨by decide, by decide, sl_gw_at 170 (by decide +kernel) (by decide +kernel)⟩
  · cases h1; exact ⟨by decide, by decide, sl_gw_at 168 (by decide +kernel) (by decide +kernel)⟩
  · cases h1; exact ⟨by decide, by decide, sl_gw_at 171 (by decide +kernel) (by decide +kernel)⟩
  · cases h1; exact ⟨by decide, by decide, sl_gw_at 172 (by decide +kernel) (by decide +kernel)⟩
  · cases h1; exact ⟨by decide, by decide, sl_gw_at 149 (by decide +kernel) (by decide +kernel)⟩
  · cases h1; exact ⟨by decide, by decide, sl_gw_at 151 (by decide +kernel) (by decide +kernel)⟩
  · cases h1; exact ⟨by decide, by decide, sl_gw_at 132 (by decide +kernel) (by decide +kernel)⟩
  · cases h1; exact ⟨by decide, by decide, sl_gw_at 153 (by decide +kernel) (by decide +kernel)⟩
  · cases h1; exact ⟨by decide, by decide, sl_gw_at 155 (by decide +kernel) (by decide +kernel)⟩
  · cases h1; exact ⟨by decide, by decide, sl_gw_at 147 (by decide +kernel) (by decide +kernel)⟩
theorem hpf_X4 {mn : String} : sl_hpf RX4 mn pf_X4 := by
  intro j ci k t h
  have h1 := sl_tA (N := 76) (L := [(31, (4, 3, 0)), (35, (4, 4, 0)), (63, (2, 1, 0)), (66, (2, 2, 0)), (69, (6, 1, 0)), (72, (2, 3, 0)), (75, (2, 4, 1))]) (fun p h => by unfold pf_X4; rw [Nat.ble_eq.mpr h]; rfl) (by decide +kernel) _ _ h
  clear h
  simp only [List.mem_cons, List.not_mem_nil, or_false] at h1
  rcases h1 with h1 | h1 | h1 | h1 | h1 | h1 | h1
  · cases h1; exact ⟨by decide, by decide, sl_gw_at 171 (by decide +kernel) (by decide +kernel), Or.inl rfl, rfl⟩
  · cases h1; exact ⟨by decide, by decide, sl_gw_at 172 (by decide +kernel) (by decide +kernel), Or.inl rfl, rfl⟩
  · cases h1; exact ⟨by decide, by decide, sl_gw_at 149 (by decide +kernel) (by decide +kernel), Or.inl rfl, rfl⟩
  · cases h1; exact ⟨by decide, by decide, sl_gw_at 151 (by decide +kernel) (by decide +kernel), Or.inl rfl, rfl⟩
  · cases h1; exact ⟨by decide, by decide, sl_gw_at 132 (by decide +kernel) (by decide +kernel), Or.inl rfl, rfl⟩
  · cases h1; exact ⟨by decide, by decide, sl_gw_at 153 (by decide +kernel) (by decide +kernel), Or.inl rfl, rfl⟩
  · cases h1; exact ⟨by decide, by decide, sl_gw_at 155 (by decide +kernel) (by decide +kernel), Or.inl rfl, rfl⟩
theorem hpi_X4 : sl_hpf RX4 "<init>" pi_X4 := by
  intro j ci k t h
  have h1 := sl_tA (N := 76) (L := [(11, (4, 1, 2)), (22, (4, 2, 2)), (26, (4, 0, 2)), (31, (4, 3, 0)), (35, (4, 4, 0)), (63, (2, 1, 0)), (66, (2, 2, 0)), (69, (6, 1, 0)), (72, (2, 3, 0)), (75, (2, 4, 1))]) (fun p h => by unfold pi_X4; rw [Nat.ble_eq.mpr h]; rfl) (by decide +kernel) _ _ h
  clear h
  simp only [List.mem_cons, List.not_mem_nil, or_false] at h1
  rcases h1 with h1 | h1 | h1 | h1 | h1 | h1 | h1 | h1 | h1 | h1
  · cases h1; exact ⟨by decide, by decide, sl_gw_at 169 (by decide +kernel) (by decide +kernel), Or.inr ⟨rfl, rfl⟩, rfl⟩
  · cases h1; exact ⟨by decide, by decide, sl_gw_at 170 (by decide +kernel) (by decide +kernel), Or.inr ⟨rfl, rfl⟩, rfl⟩
  · cases h1; exact ⟨by decide, by decide, sl_gw_at 168 (by decide +kernel) (by decide +kernel), Or.inr ⟨rfl, rfl⟩, rfl⟩
  · cases h1; exact ⟨by decide, by decide, sl_gw_at 171 (by decide +kernel) (by decide +kernel), Or.inl rfl, rfl⟩
  · cases h1; exact ⟨by decide, by decide, sl_gw_at 172 (by decide +kernel) (by decide +kernel), Or.inl rfl, rfl⟩
  · cases h1; exact ⟨by decide, by decide, sl_gw_at 149 (by decide +kernel) (by decide +kernel), Or.inl rfl, rfl⟩
  · cases h1; exact ⟨by decide, by decide, sl_gw_at 151 (by decide +kernel) (by decide +kernel), Or.inl rfl, rfl⟩
  · cases h1; exact ⟨by decide, by decide, sl_gw_at 132 (by decide +kernel) (by decide +kernel), Or.inl rfl, rfl⟩
  · cases h1; exact ⟨by decide, by decide, sl_gw_at 153 (by decide +kernel) (by decide +kernel), Or.inl rfl, rfl⟩
  · cases h1; exact ⟨by decide, by decide, sl_gw_at 155 (by decide +kernel) (by decide +kernel), Or.inl rfl, rfl⟩
theorem hnw_X4 : sl_hnw RX4 nw_X4 := by
  intro j ci h
  have h1 := sl_tA (N := 18) (L := [(9, 2), (17, 6)]) (fun p h => by unfold nw_X4; rw [Nat.ble_eq.mpr h]; rfl) (by decide +kernel) _ _ h
  clear h
  simp only [List.mem_cons, List.not_mem_nil, or_false] at h1
  rcases h1 with h1 | h1
  · cases h1; exact ⟨by decide, sl_gw_at 116 (by decide +kernel) (by decide +kernel), sl_gw_at 139 (by decide +kernel) (by decide +kernel), sl_gw_at 50 (by decide +kernel) (by decide +kernel)⟩
  · cases h1; exact ⟨by decide, sl_gw_at 118 (by decide +kernel) (by decide +kernel), sl_gw_at 119 (by decide +kernel) (by decide +kernel), sl_gw_at 49 (by decide +kernel) (by decide +kernel)⟩
def ck_X5 (p : Nat) : Nat := bif Nat.ble 76 p then (bif Nat.ble 95 p then (bif Nat.ble 105 p then (bif Nat.ble 108 p then (bif Nat.ble 110 p then (bif Nat.beq p 110 then 0 else 0) else (bif Nat.beq p 108 then 0 else 0)) else (bif Nat.beq p 105 then 0 else 0)) else (bif Nat.ble 101 p then (bif Nat.beq p 101 then 0 else 0) else (bif Nat.beq p 95 then 0 else 0))) else (bif Nat.ble 88 p then (bif Nat.ble 91 p then (bif Nat.beq p 91 then 0 else 0) else (bif Nat.beq p 88 then 0 else 0)) else (bif Nat.ble 81 p then (bif Nat.beq p 81 then 0 else 0) else (bif Nat.beq p 76 then 0 else 0)))) else (bif Nat.ble 61 p then (bif Nat.ble 69 p then (bif Nat.ble 72 p then (bif Nat.beq p 72 then 0 else 0) else (bif Nat.beq p 69 then 0 else 0)) else (bif Nat.ble 65 p then (bif Nat.beq p 65 then 0 else 0) else (bif Nat.beq p 61 then 0 else 0))) else (bif Nat.ble 49 p then (bif Nat.ble 55 p then (bif Nat.beq p 55 then 0 else 0) else (bif Nat.beq p 49 then 1 else 0)) else (bif Nat.ble 43 p then (bif Nat.beq p 43 then 0 else 0) else (bif Nat.beq p 11 then 2 else 0))))
theorem hfl_X5 : sl_hfl RX5 fl_X5 := by
  intro j ci k h
  have h1 := sl_tA (N := 86) (L := [(14, (5, 3)), (20, (5, 5)), (24, (5, 6)), (27, (5, 0)), (31, (5, 1)), (35, (5, 2)), (39, (6, 1)), (46, (5, 4)), (85, (8, 2))]) (fun p h => by unfold fl_X5; rw [Nat.ble_eq.mpr h]; rfl) (by decide +kernel) _ _ h
  clear h
  simp only [List.mem_cons, List.not_mem_nil, or_false] at h1
  rcases h1 with h1 | h1 | h1 | h1 | h1 | h1 | h1 | h1 | h1
  · cases h1; exact ⟨by decide, by decide, sl_gw_at 273 (by decide +kernel) (by decide +kernel)⟩
  · cases h1; exact ⟨by decide, by decide, sl_gw_at 277 (by decide +kernel) (by decide +kernel)⟩
  · cases h1; exact ⟨by decide, by decide, sl_gw_at 278 (by decide +kernel) (by decide +kernel)⟩
  · cases h1; exact ⟨by decide, by decide, sl_gw_at 270 (by decide +kernel) (by decide +kernel)⟩
  · cases h1; exact ⟨by decide, by decide, sl_gw_at 271 (by decide +kernel) (by decide +kernel)⟩
  · cases h1; exact ⟨by decide, by decide, sl_gw_at 272 (by decide +kernel) (by decide +kernel)⟩
  · cases h1; exact ⟨by decide, by decide, sl_gw_at 125 (by decide +kernel) (by decide +kernel)⟩
  · cases h1; exact ⟨by decide, by decide, sl_gw_at 275 (by decide +kernel) (by decide +kernel)⟩
  · cases h1; exact ⟨by decide, by decide, sl_gw_at 82 (by decide +kernel) (by decide +kernel)⟩
theorem hpf_X5 {mn : String} : sl_hpf RX5 mn pf_X5 := by
  intro j ci k t h
  have h1 := sl_tA (N := 86) (L := [(39, (6, 1, 0)), (46, (5, 4, 0)), (85, (8, 2, 0))]) (fun p h => by unfold pf_X5; rw [Nat.ble_eq.mpr h]; rfl) (by decide +kernel) _ _ h
  clear h
  simp only [List.mem_cons, List.not_mem_nil, or_false] at h1
  rcases h1 with h1 | h1 | h1
  · cases h1; exact ⟨by decide, by decide, sl_gw_at 125 (by decide +kernel) (by decide +kernel), Or.inl rfl, rfl⟩
  · cases h1; exact ⟨by decide, by decide, sl_gw_at 275 (by decide +kernel) (by decide +kernel), Or.inl rfl, rfl⟩
  · cases h1; exact ⟨by decide, by decide, sl_gw_at 82 (by decide +kernel) (by decide +kernel), Or.inl rfl, rfl⟩
theorem hpi_X5 : sl_hpf RX5 "<init>" pi_X5 := by
  intro j ci k t h
  have h1 := sl_tA (N := 86) (L := [(14, (5, 3, 2)), (20, (5, 5, 2)), (24, (5, 6, 2)), (27, (5, 0, 2)), (31, (5, 1, 2)), (35, (5, 2, 2)), (39, (6, 1, 0)), (46, (5, 4, 0)), (85, (8, 2, 0))]) (fun p h => by unfold pi_X5; rw [Nat.ble_eq.mpr h]; rfl) (by decide +kernel) _ _ h
  clear h
  simp only [List.mem_cons, List.not_mem_nil, or_false] at h1
  rcases h1 with h1 | h1 | h1 | h1 | h1 | h1 | h1 | h1 | h1
  · cases h1; exact ⟨by decide, by decide, sl_gw_at 273 (by decide +kernel) (by decide +kernel), Or.inr ⟨rfl, rfl⟩, rfl⟩
  · cases h1; exact ⟨by decide, by decide, sl_gw_at 277 (by decide +kernel) (by decide +kernel), Or.inr ⟨rfl, rfl⟩, rfl⟩
  · cases h1; exact ⟨by decide, by decide, sl_gw_at 278 (by decide +kernel) (by decide +kernel), Or.inr ⟨rfl, rfl⟩, rfl⟩
  · cases h1; exact ⟨by decide, by decide, sl_gw_at 270 (by decide +kernel) (by decide +kernel), Or.inr ⟨rfl, rfl⟩, rfl⟩
  · cases h1; exact ⟨by decide, by decide, sl_gw_at 271 (by decide +kernel) (by decide +kernel), Or.inr ⟨rfl, rfl⟩, rfl⟩
  · cases h1; exact ⟨by decide, by decide, sl_gw_at 272 (by decide +kernel) (by decide +kernel), Or.inr ⟨rfl, rfl⟩, rfl⟩
  · cases h1; exact ⟨by decide, by decide, sl_gw_at 125 (by decide +kernel) (by decide +kernel), Or.inl rfl, rfl⟩
  · cases h1; exact ⟨by decide, by decide, sl_gw_at 275 (by decide +kernel) (by decide +kernel), Or.inl rfl, rfl⟩
  · cases h1; exact ⟨by decide, by decide, sl_gw_at 82 (by decide +kernel) (by decide +kernel), Or.inl rfl, rfl⟩
theorem hnw_X5 : sl_hnw RX5 nw_X5 := by
  intro j ci h
  have h1 := sl_tA (N := 10) (L := [(9, 6)]) (fun p h => by unfold nw_X5; rw [Nat.ble_eq.mpr h]; rfl) (by decide +kernel) _ _ h
  clear h
  simp only [List.mem_cons, List.not_mem_nil, or_false] at h1
  · cases h1; exact ⟨by decide, sl_gw_at 268 (by decide +kernel) (by decide +kernel), sl_gw_at 119 (by decide +kernel) (by decide +kernel), sl_gw_at 49 (by decide +kernel) (by decide +kernel)⟩
def ck_X6 (p : Nat) : Nat := bif Nat.ble 28 p then (bif Nat.ble 32 p then (bif Nat.beq p 32 then 0 else 0) else (bif Nat.beq p 28 then 0 else 0)) else (bif Nat.ble 25 p then (bif Nat.beq p 25 then 1 else 0) else (bif Nat.beq p 19 then 1 else 0))
theorem hfl_X6 : sl_hfl RX6 fl_X6 := by
  intro j ci k h
  have h1 := sl_tA (N := 16) (L := [(9, (6, 0)), (15, (6, 1))]) (fun p h => by unfold fl_X6; rw [Nat.ble_eq.mpr h]; rfl) (by decide +kernel) _ _ h
  clear h
  simp only [List.mem_cons, List.not_mem_nil, or_false] at h1
  rcases h1 with h1 | h1
  · cases h1; exact ⟨by decide, by decide, sl_gw_at 124 (by decide +kernel) (by decide +kernel)⟩
  · cases h1; exact ⟨by decide, by decide, sl_gw_at 126 (by decide +kernel) (by decide +kernel)⟩
theorem hpf_X6 {mn : String} : sl_hpf RX6 mn pf_X6 := by
  intro j ci k t h
  have h1 := sl_tA (N := 16) (L := [(15, (6, 1, 0))]) (fun p h => by unfold pf_X6; rw [Nat.ble_eq.mpr h]; rfl) (by decide +kernel) _ _ h
  clear h
  simp only [List.mem_cons, List.not_mem_nil, or_false] at h1
  · cases h1; exact ⟨by decide, by decide, sl_gw_at 126 (by decide +kernel) (by decide +kernel), Or.inl rfl, rfl⟩
theorem hpi_X6 : sl_hpf RX6 "<init>" pi_X6 := by
  intro j ci k t h
  have h1 := sl_tA (N := 16) (L := [(9, (6, 0, 2)), (15, (6, 1, 0))]) (fun p h => by unfold pi_X6; rw [Nat.ble_eq.mpr h]; rfl) (by decide +kernel) _ _ h
  clear h
  simp only [List.mem_cons, List.not_mem_nil, or_false] at h1
  rcases h1 with h1 | h1
  · cases h1; exact ⟨by decide, by decide, sl_gw_at 124 (by decide +kernel) (by decide +kernel), Or.inr ⟨rfl, rfl⟩, rfl⟩
  · cases h1; exact ⟨by decide, by decide, sl_gw_at 126 (by decide +kernel) (by decide +kernel), Or.inl rfl, rfl⟩
theorem hnw_X6 : sl_hnw RX6 nw_X6 := by
  intro j ci h
  cases h
def ck_X7 (p : Nat) : Nat := bif Nat.ble 97 p then (bif Nat.ble 117 p then (bif Nat.ble 126 p then (bif Nat.ble 130 p then (bif Nat.beq p 130 then 0 else 0) else (bif Nat.beq p 126 then 0 else 0)) else (bif Nat.ble 121 p then (bif Nat.beq p 121 then 0 else 0) else (bif Nat.beq p 117 then 0 else 0))) else (bif Nat.ble 107 p then (bif Nat.ble 113 p then (bif Nat.beq p 113 then 0 else 0) else (bif Nat.beq p 107 then 0 else 0)) else (bif Nat.ble 103 p then (bif Nat.beq p 103 then 0 else 0) else (bif Nat.beq p 97 then 1 else 0)))) else (bif Nat.ble 71 p then (bif Nat.ble 84 p then (bif Nat.ble 90 p then (bif Nat.beq p 90 then 0 else 0) else (bif Nat.beq p 84 then 0 else 0)) else (bif Nat.ble 75 p then (bif Nat.beq p 75 then 0 else 0) else (bif Nat.beq p 71 then 0 else 0))) else (bif Nat.ble 46 p then (bif Nat.ble 65 p then (bif Nat.beq p 65 then 0 else 0) else (bif Nat.beq p 46 then 0 else 0)) else (bif Nat.beq p 11 then 2 else 0)))
theorem hfl_X7 : sl_hfl RX7 fl_X7 := by
  intro j ci k h
  have h1 := sl_tA (N := 95) (L := [(14, (7, 3)), (20, (7, 9)), (24, (7, 10)), (27, (7, 11)), (30, (7, 12)), (34, (7, 0)), (38, (7, 1)), (42, (7, 2)), (49, (7, 4)), (53, (7, 5)), (56, (7, 6)), (59, (7, 7)), (62, (7, 8)), (78, (8, 2)), (81, (6, 1)), (87, (8, 4)), (94, (8, 3))]) (fun p h => by unfold fl_X7; rw [Nat.ble_eq.mpr h]; rfl) (by decide +kernel) _ _ h
  clear h
  simp only [List.mem_cons, List.not_mem_nil, or_false] at h1
  rcases h1 with h1 | h1 | h1 | h1 | h1 | h1 | h1 | h1 | h1 | h1 | h1 | h1 | h1 | h1 | h1 | h1 | h1
  · cases h1; exact ⟨by decide, by decide, sl_gw_at 219 (by decide +kernel) (by decide +kernel)⟩
  · cases h1; exact ⟨by decide, by decide, sl_gw_at 230 (by decide +kernel) (by decide +kernel)⟩
  · cases h1; exact ⟨by decide, by decide, sl_gw_at 231 (by decide +kernel) (by decide +kernel)⟩
  · cases h1; exact ⟨by decide, by decide, sl_gw_at 232 (by decide +kernel) (by decide +kernel)⟩
  · cases h1; exact ⟨by decide, by decide, sl_gw_at 233 (by decide +kernel) (by decide +kernel)⟩
  · cases h1; exact ⟨by decide, by decide, sl_gw_at 216 (by decide +kernel) (by decide +kernel)⟩
  · cases h1; exact ⟨by decide, by decide, sl_gw_at 217 (by decide +kernel) (by decide +kernel)⟩
  · cases h1; exact ⟨by decide, by decide, sl_gw_at 218 (by decide +kernel) (by decide +kernel)⟩
  · cases h1; exact ⟨by decide, by decide, sl_gw_at 221 (by decide +kernel) (by decide +kernel)⟩
  · cases h1; exact ⟨by decide, by decide, sl_gw_at 223 (by decide +kernel) (by decide +kernel)⟩
  · cases h1; exact ⟨by decide, by decide, sl_gw_at 225 (by decide +kernel) (by decide +kernel)⟩
  · cases h1; exact ⟨by decide, by decide, sl_gw_at 226 (by decide +kernel) (by decide +kernel)⟩
  · cases h1; exact ⟨by decide, by decide, sl_gw_at 228 (by decide +kernel) (by decide +kernel)⟩
  · cases h1; exact ⟨by decide, by decide, sl_gw_at 81 (by decide +kernel) (by decide +kernel)⟩
  · cases h1; exact ⟨by decide, by decide, sl_gw_at 130 (by decide +kernel) (by decide +kernel)⟩
  · cases h1; exact ⟨by decide, by decide, sl_gw_at 87 (by decide +kernel) (by decide +kernel)⟩
  · cases h1; exact ⟨by decide, by decide, sl_gw_at 84 (by decide +kernel) (by decide +kernel)⟩
theorem hpf_X7 {mn : String} : sl_hpf RX7 mn pf_X7 := by
  intro j ci k t h
  have h1 := sl_tA (N := 95) (L := [(49, (7, 4, 0)), (53, (7, 5, 0)), (56, (7, 6, 0)), (59, (7, 7, 0)), (62, (7, 8, 0)), (78, (8, 2, 0)), (81, (6, 1, 0)), (87, (8, 4, 0)), (94, (8, 3, 0))]) (fun p h => by unfold pf_X7; rw [Nat.ble_eq.mpr h]; rfl) (by decide +kernel) _ _ h
  clear h
  simp only [List.mem_cons, List.not_mem_nil, or_false] at h1
  rcases h1 with h1 | h1 | h1 | h1 | h1 | h1 | h1 | h1 | h1
  · cases h1; exact ⟨by decide, by decide, sl_gw_at 221 (by decide +kernel) (by decide +kernel), Or.inl rfl, rfl⟩
  · cases h1; exact ⟨by decide, by decide, sl_gw_at 223 (by decide +kernel) (by decide +kernel), Or.inl rfl, rfl⟩
  · cases h1; exact ⟨by decide, by decide, sl_gw_at 225 (by decide +kernel) (by decide +kernel), Or.inl rfl, rfl⟩
  · cases h1; exact ⟨by decide, by decide, sl_gw_at 226 (by decide +kernel) (by decide +kernel), Or.inl rfl, rfl⟩
  · cases h1; exact ⟨by decide, by decide, sl_gw_at 228 (by decide +kernel) (by decide +kernel), Or.inl rfl, rfl⟩
  · cases h1; exact ⟨by decide, by decide, sl_gw_at 81 (by decide +kernel) (by decide +kernel), Or.inl rfl, rfl⟩
  · cases h1; exact ⟨by decide, by decide, sl_gw_at 130 (by decide +kernel) (by decide +kernel), Or.inl rfl, rfl⟩
  · cases h1; exact ⟨by decide, by decide, sl_gw_at 87 (by decide +kernel) (by decide +kernel), Or.inl rfl, rfl⟩
  · cases h1; exact ⟨by decide, by decide, sl_gw_at 84 (by decide +kernel) (by decide +kernel), Or.inl rfl, rfl⟩
theorem hpi_X7 : sl_hpf RX7 "<init>" pi_X7 := by
  intro j ci k t h
  have h1 := sl_tA (N := 95) (L := [(14, (7, 3, 2)), (20, (7, 9, 2)), (24, (7, 10, 2)), (27, (7, 11, 2)), (30, (7, 12, 2)), (34, (7, 0, 2)), (38, (7, 1, 2)), (42, (7, 2, 2)), (49, (7, 4, 0)), (53, (7, 5, 0)), (56, (7, 6, 0)), (59, (7, 7, 0)), (62, (7, 8, 0)), (78, (8, 2, 0)), (81, (6, 1, 0)), (87, (8, 4, 0)), (94, (8, 3, 0))]) (fun p h => by unfold pi_X7; rw [Nat.ble_eq.mpr h]; rfl) (by decide +kernel) _ _ h
  clear h
  simp only [List.mem_cons, List.not_mem_nil, or_false] at h1
  rcases h1 with h1 | h1 | h1 | h1 | h1 | h1 | h1 | h1 | h1 | h1 | h1 | h1 | h1 | h1 | h1 | h1 | h1
  · cases h1; exact ⟨by decide, by decide, sl_gw_at 219 (by decide +kernel) (by decide +kernel), Or.inr ⟨rfl, rfl⟩, rfl⟩
  · cases h1; exact ⟨by decide, by decide, sl_gw_at 230 (by decide +kernel) (by decide +kernel), Or.inr ⟨rfl, rfl⟩, rfl⟩
  · cases h1; exact ⟨by decide, by decide, sl_gw_at 231 (by decide +kernel) (by decide +kernel), Or.inr ⟨rfl, rfl⟩, rfl⟩
  · cases h1; exact ⟨by decide, by decide, sl_gw_at 232 (by decide +kernel) (by decide +kernel), Or.inr ⟨rfl, rfl⟩, rfl⟩
  · cases h1; exact ⟨by decide, by decide, sl_gw_at 233 (by decide +kernel) (by decide +kernel), Or.inr ⟨rfl, rfl⟩, rfl⟩
  · cases h1; exact ⟨by decide, by decide, sl_gw_at 216 (by decide +kernel) (by decide +kernel), Or.inr ⟨rfl, rfl⟩, rfl⟩
  · cases h1; exact ⟨by decide, by decide, sl_gw_at 217 (by decide +kernel) (by decide +kernel), Or.inr ⟨rfl, rfl⟩, rfl⟩
  · cases h1; exact ⟨by decide, by decide, sl_gw_at 218 (by decide +kernel) (by decide +kernel), Or.inr ⟨rfl, rfl⟩, rfl⟩
  · cases h1; exact ⟨by decide, by decide, sl_gw_at 221 (by decide +kernel) (by decide +kernel), Or.inl rfl, rfl⟩
  · cases h1; exact ⟨by decide, by decide, sl_gw_at 223 (by decide +kernel) (by decide +kernel), Or.inl rfl, rfl⟩
  · cases h1; exact ⟨by decide, by decide, sl_gw_at 225 (by decide +kernel) (by decide +kernel), Or.inl rfl, rfl⟩
  · cases h1; exact ⟨by decide, by decide, sl_gw_at 226 (by decide +kernel) (by decide +kernel), Or.inl rfl, rfl⟩
  · cases h1; exact ⟨by decide, by decide, sl_gw_at 228 (by decide +kernel) (by decide +kernel), Or.inl rfl, rfl⟩
  · cases h1; exact ⟨by decide, by decide, sl_gw_at 81 (by decide +kernel) (by decide +kernel), Or.inl rfl, rfl⟩
  · cases h1; exact ⟨by decide, by decide, sl_gw_at 130 (by decide +kernel) (by decide +kernel), Or.inl rfl, rfl⟩
  · cases h1; exact ⟨by decide, by decide, sl_gw_at 87 (by decide +kernel) (by decide +kernel), Or.inl rfl, rfl⟩
  · cases h1; exact ⟨by decide, by decide, sl_gw_at 84 (by decide +kernel) (by decide +kernel), Or.inl rfl, rfl⟩
theorem hnw_X7 : sl_hnw RX7 nw_X7 := by
  intro j ci h
  have h1 := sl_tA (N := 10) (L := [(9, 6)]) (fun p h => by unfold nw_X7; rw [Nat.ble_eq.mpr h]; rfl) (by decide +kernel) _ _ h
  clear h
  simp only [List.mem_cons, List.not_mem_nil, or_false] at h1
  · cases h1; exact ⟨by decide, sl_gw_at 214 (by decide +kernel) (by decide +kernel), sl_gw_at 119 (by decide +kernel) (by decide +kernel), sl_gw_at 49 (by decide +kernel) (by decide +kernel)⟩
def ck_X8 (p : Nat) : Nat := bif Nat.ble 31 p then (bif Nat.ble 36 p then (bif Nat.beq p 36 then 0 else 0) else (bif Nat.beq p 31 then 1 else 0)) else (bif Nat.beq p 27 then 1 else 0)
theorem hfl_X8 : sl_hfl RX8 fl_X8 := by
  intro j ci k h
  have h1 := sl_tA (N := 25) (L := [(9, (8, 0)), (15, (8, 1)), (18, (8, 2)), (21, (8, 3)), (24, (8, 4))]) (fun p h => by unfold fl_X8; rw [Nat.ble_eq.mpr h]; rfl) (by decide +kernel) _ _ h
  clear h
  simp only [List.mem_cons, List.not_mem_nil, or_false] at h1
  rcases h1 with h1 | h1 | h1 | h1 | h1
  · cases h1; exact ⟨by decide, by decide, sl_gw_at 77 (by decide +kernel) (by decide +kernel)⟩
  · cases h1; exact ⟨by decide, by decide, sl_gw_at 78 (by decide +kernel) (by decide +kernel)⟩
  · cases h1; exact ⟨by decide, by decide, sl_gw_at 80 (by decide +kernel) (by decide +kernel)⟩
  · cases h1; exact ⟨by decide, by decide, sl_gw_at 83 (by decide +kernel) (by decide +kernel)⟩
  · cases h1; exact ⟨by decide, by decide, sl_gw_at 86 (by decide +kernel) (by decide +kernel)⟩
theorem hpf_X8 {mn : String} : sl_hpf RX8 mn pf_X8 := by
  intro j ci k t h
  have h1 := sl_tA (N := 25) (L := [(9, (8, 0, 0)), (15, (8, 1, 0)), (18, (8, 2, 0)), (21, (8, 3, 0)), (24, (8, 4, 0))]) (fun p h => by unfold pf_X8; rw [Nat.ble_eq.mpr h]; rfl) (by decide +kernel) _ _ h
  clear h
  simp only [List.mem_cons, List.not_mem_nil, or_false] at h1
  rcases h1 with h1 | h1 | h1 | h1 | h1
  · cases h1; exact ⟨by decide, by decide, sl_gw_at 77 (by decide +kernel) (by decide +kernel), Or.inl rfl, rfl⟩
  · cases h1; exact ⟨by decide, by decide, sl_gw_at 78 (by decide +kernel) (by decide +kernel), Or.inl rfl, rfl⟩
  · cases h1; exact ⟨by decide, by decide, sl_gw_at 80 (by decide +kernel) (by decide +kernel), Or.inl rfl, rfl⟩
  · cases h1; exact ⟨by decide, by decide, sl_gw_at 83 (by decide +kernel) (by decide +kernel), Or.inl rfl, rfl⟩
  · cases h1; exact ⟨by decide, by decide, sl_gw_at 86 (by decide +kernel) (by decide +kernel), Or.inl rfl, rfl⟩
theorem hpi_X8 : sl_hpf RX8 "<init>" pi_X8 := by
  intro j ci k t h
  have h1 := sl_tA (N := 25) (L := [(9, (8, 0, 0)), (15, (8, 1, 0)), (18, (8, 2, 0)), (21, (8, 3, 0)), (24, (8, 4, 0))]) (fun p h => by unfold pi_X8; rw [Nat.ble_eq.mpr h]; rfl) (by decide +kernel) _ _ h
  clear h
  simp only [List.mem_cons, List.not_mem_nil, or_false] at h1
  rcases h1 with h1 | h1 | h1 | h1 | h1
  · cases h1; exact ⟨by decide, by decide, sl_gw_at 77 (by decide +kernel) (by decide +kernel), Or.inl rfl, rfl⟩
  · cases h1; exact ⟨by decide, by decide, sl_gw_at 78 (by decide +kernel) (by decide +kernel), Or.inl rfl, rfl⟩
  · cases h1; exact ⟨by decide, by decide, sl_gw_at 80 (by decide +kernel) (by decide +kernel), Or.inl rfl, rfl⟩
  · cases h1; exact ⟨by decide, by decide, sl_gw_at 83 (by decide +kernel) (by decide +kernel), Or.inl rfl, rfl⟩
  · cases h1; exact ⟨by decide, by decide, sl_gw_at 86 (by decide +kernel) (by decide +kernel), Or.inl rfl, rfl⟩
theorem hnw_X8 : sl_hnw RX8 nw_X8 := by
  intro j ci h
  cases h
def ck_X9 (p : Nat) : Nat := bif Nat.beq p 15 then 1 else 0
theorem hfl_X9 : sl_hfl RX9 fl_X9 := by
  intro j ci k h
  have h1 := sl_tA (N := 10) (L := [(9, (9, 0))]) (fun p h => by unfold fl_X9; rw [Nat.ble_eq.mpr h]; rfl) (by decide +kernel) _ _ h
  clear h
  simp only [List.mem_cons, List.not_mem_nil, or_false] at h1
  · cases h1; exact ⟨by decide, by decide, sl_gw_at 105 (by decide +kernel) (by decide +kernel)⟩
theorem hpf_X9 {mn : String} : sl_hpf RX9 mn pf_X9 := by
  intro j ci k t h
  cases h
theorem hpi_X9 : sl_hpf RX9 "<init>" pi_X9 := by
  intro j ci k t h
  have h1 := sl_tA (N := 10) (L := [(9, (9, 0, 2))]) (fun p h => by unfold pi_X9; rw [Nat.ble_eq.mpr h]; rfl) (by decide +kernel) _ _ h
  clear h
  simp only [List.mem_cons, List.not_mem_nil, or_false] at h1
  · cases h1; exact ⟨by decide, by decide, sl_gw_at 105 (by decide +kernel) (by decide +kernel), Or.inr ⟨rfl, rfl⟩, rfl⟩
theorem hnw_X9 : sl_hnw RX9 nw_X9 := by
  intro j ci h
  cases h
