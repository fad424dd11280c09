/-! ===== what a table of instructions says of the bytes ===== -/
def sl_in (k : Nat) : Instr := match k with
  | 6 => .iadd
  | 7 => .isub
  | 8 => .imul
  | 9 => .idiv
  | 10 => .irem
  | 11 => .iand
  | 12 => .ior
  | 13 => .ixor
  | 14 => .ishl
  | 15 => .ishr
  | 16 => .iushr
  | 17 => .i2b
  | 18 => .i2l
  | 19 => .dup
  | 20 => .dup2
  | 21 => .pop
  | 37 => .iaload
  | 38 => .baload
  | 39 => .aaload
  | 40 => .laload
  | 41 => .iastore
  | 42 => .bastore
  | 43 => .aastore
  | 44 => .lastore
  | 45 => .arraylength
  | 47 => .ireturn
  | 48 => .areturn
  | 49 => .areturn
  | 50 => .return_
  | 51 => .aconst_null
  | 58 => .lcmp
  | 62 => .iaload
  | 63 => .arraylength
  | _ => .nop
def sl_oks (i : Instr) (k : Nat) : Bool := match i with
  | .iadd => Nat.beq k 6
  | .isub => Nat.beq k 7
  | .imul => Nat.beq k 8
  | .idiv => Nat.beq k 9
  | .irem => Nat.beq k 10
  | .iand => Nat.beq k 11
  | .ior => Nat.beq k 12
  | .ixor => Nat.beq k 13
  | .ishl => Nat.beq k 14
  | .ishr => Nat.beq k 15
  | .iushr => Nat.beq k 16
  | .i2b => Nat.beq k 17
  | .i2l => Nat.beq k 18
  | .dup => Nat.beq k 19
  | .dup2 => Nat.beq k 20
  | .pop => Nat.beq k 21
  | .iaload => Nat.beq k 37 || Nat.beq k 62
  | .baload => Nat.beq k 38
  | .aaload => Nat.beq k 39
  | .laload => Nat.beq k 40
  | .iastore => Nat.beq k 41
  | .bastore => Nat.beq k 42
  | .aastore => Nat.beq k 43
  | .lastore => Nat.beq k 44
  | .arraylength => Nat.beq k 45 || Nat.beq k 63
  | .ireturn => Nat.beq k 47
  | .areturn => Nat.beq k 48 || Nat.beq k 49
  | .return_ => Nat.beq k 50
  | .aconst_null => Nat.beq k 51
  | .lcmp => Nat.beq k 58
  | _ => false
theorem sl_oks_in {i : Instr} {k : Nat} (h : sl_oks i k = true) : i = sl_in k := by
  unfold sl_oks at h
  split at h <;> first | (cases h; done) | (simp only [Bool.or_eq_true, Nat.beq_eq] at h; first | (subst h; rfl) | (rcases h with h | h <;> (subst h; rfl)))
def sl_is1 (k : Nat) : Bool := Nat.beq k 6 || Nat.beq k 7 || Nat.beq k 8 || Nat.beq k 9 || Nat.beq k 10 || Nat.beq k 11 || Nat.beq k 12 || Nat.beq k 13 || Nat.beq k 14 || Nat.beq k 15 || Nat.beq k 16 || Nat.beq k 17 || Nat.beq k 18 || Nat.beq k 19 || Nat.beq k 20 || Nat.beq k 21 || Nat.beq k 37 || Nat.beq k 38 || Nat.beq k 39 || Nat.beq k 40 || Nat.beq k 41 || Nat.beq k 42 || Nat.beq k 43 || Nat.beq k 44 || Nat.beq k 45 || Nat.beq k 47 || Nat.beq k 48 || Nat.beq k 49 || Nat.beq k 50 || Nat.beq k 51 || Nat.beq k 58 || Nat.beq k 62 || Nat.beq k 63
def sl_is2 (k : Nat) : Bool := Nat.beq k 22 || Nat.beq k 23 || Nat.beq k 24 || Nat.beq k 25 || Nat.beq k 26 || Nat.beq k 27 || Nat.beq k 28 || Nat.beq k 29 || Nat.beq k 30 || Nat.beq k 31 || Nat.beq k 32 || Nat.beq k 33 || Nat.beq k 34 || Nat.beq k 52 || Nat.beq k 53
def sl_br (k : Nat) (off : Int) : Instr := match k with
  | 22 => .if_icmp .eq off
  | 23 => .if_icmp .ne off
  | 24 => .if_icmp .lt off
  | 25 => .if_icmp .ge off
  | 26 => .if_icmp .gt off
  | 27 => .if_icmp .le off
  | 28 => .ifCond .eq off
  | 29 => .ifCond .ne off
  | 30 => .ifCond .lt off
  | 31 => .ifCond .ge off
  | 32 => .ifCond .gt off
  | 33 => .ifCond .le off
  | 34 => .goto off
  | 52 => .ifnull off
  | 53 => .ifnonnull off
  | _ => .nop
def sl_okb2 (i : Instr) (pc k j : Nat) : Bool := match i with
  | .if_icmp .eq off => Nat.beq k 22 && decide ((pc : Int) + off = (j : Int))
  | .if_icmp .ne off => Nat.beq k 23 && decide ((pc : Int) + off = (j : Int))
  | .if_icmp .lt off => Nat.beq k 24 && decide ((pc : Int) + off = (j : Int))
  | .if_icmp .ge off => Nat.beq k 25 && decide ((pc : Int) + off = (j : Int))
  | .if_icmp .gt off => Nat.beq k 26 && decide ((pc : Int) + off = (j : Int))
  | .if_icmp .le off => Nat.beq k 27 && decide ((pc : Int) + off = (j : Int))
  | .ifCond .eq off => Nat.beq k 28 && decide ((pc : Int) + off = (j : Int))
  | .ifCond .ne off => Nat.beq k 29 && decide ((pc : Int) + off = (j : Int))
  | .ifCond .lt off => Nat.beq k 30 && decide ((pc : Int) + off = (j : Int))
  | .ifCond .ge off => Nat.beq k 31 && decide ((pc : Int) + off = (j : Int))
  | .ifCond .gt off => Nat.beq k 32 && decide ((pc : Int) + off = (j : Int))
  | .ifCond .le off => Nat.beq k 33 && decide ((pc : Int) + off = (j : Int))
  | .goto off => Nat.beq k 34 && decide ((pc : Int) + off = (j : Int))
  | .ifnull off => Nat.beq k 52 && decide ((pc : Int) + off = (j : Int))
  | .ifnonnull off => Nat.beq k 53 && decide ((pc : Int) + off = (j : Int))
  | _ => false
theorem sl_okb2_in {i : Instr} {pc k j : Nat} (h : sl_okb2 i pc k j = true) : ∃ off : Int, i = sl_br k off ∧ (pc : Int) + off = (j : Int) := by
  unfold sl_okb2 at h
  split at h <;> first | (cases h; done) | (simp only [Bool.and_eq_true, Nat.beq_eq, decide_eq_true_eq] at h; obtain ⟨h1, h2⟩ := h; subst h1; exact ⟨_, rfl, h2⟩)
def sl_okl (i : Instr) (k : Nat) (x : Int32) (j n : Nat) : Bool := match i with
  | .iload_n q => Nat.beq k 0 && (Nat.beq q.val j && Nat.beq n 1)
  | .iload q => Nat.beq k 0 && (Nat.beq q j && Nat.beq n 2)
  | .aload_n q => Nat.beq k 1 && (Nat.beq q.val j && Nat.beq n 1)
  | .aload q => Nat.beq k 1 && (Nat.beq q j && Nat.beq n 2)
  | .istore_n q => Nat.beq k 3 && (Nat.beq q.val j && Nat.beq n 1)
  | .istore q => Nat.beq k 3 && (Nat.beq q j && Nat.beq n 2)
  | .astore_n q => Nat.beq k 4 && (Nat.beq q.val j && Nat.beq n 1)
  | .astore q => Nat.beq k 4 && (Nat.beq q j && Nat.beq n 2)
  | .iinc q v => Nat.beq k 5 && (Nat.beq q j && (Nat.beq n 3 && decide (Int32.ofInt v = x)))
  | .iconst v => Nat.beq k 2 && (decide (Int32.ofInt v = x) && Nat.beq n 1)
  | .bipush v => Nat.beq k 2 && (decide ((Int8.ofInt v).toInt32 = x) && Nat.beq n 2)
  | .sipush v => Nat.beq k 2 && (decide ((Int16.ofInt v).toInt32 = x) && Nat.beq n 3)
  | _ => false
def sl_nk (t : ArrayType) : Nat := match t with
  | .byte => 100 | .int => 101 | .boolean => 102 | .long => 103 | _ => 0
def sl_okc (i : Instr) (k j n c9 : Nat) : Bool := match i with
  | .getfield q => Nat.beq k 35 && (Nat.beq q j && Nat.beq n 3)
  | .putfield q => Nat.beq k 36 && (Nat.beq q j && Nat.beq n 3)
  | .invokevirtual q => Nat.beq k 46 && (Nat.beq q j && (Nat.beq n 3 && Nat.beq c9 0))
  | .invokestatic q => Nat.beq k 46 && (Nat.beq q j && (Nat.beq n 3 && Nat.beq c9 1))
  | .invokespecial q => (Nat.beq k 46 && (Nat.beq q j && (Nat.beq n 3 && (Nat.beq c9 2 || Nat.beq c9 3)))) || (Nat.beq k 59 && (Nat.beq q j && Nat.beq n 3))
  | .new q => (Nat.beq k 54 || Nat.beq k 56) && (Nat.beq q j && Nat.beq n 3)
  | .newarray t => Nat.beq k 55 && (Nat.beq (sl_nk t) j && Nat.beq n 2)
  | .anewarray q => Nat.beq k 61 && (Nat.beq q j && Nat.beq n 3)
  | .ldc q => Nat.beq k 60 && (Nat.beq q j && Nat.beq n 2)
  | _ => false
def sl_oto (pc : Nat) : List Int → List Nat → Bool
  | [], [] => true
  | a :: r, t :: ts => decide ((pc : Int) + a = (t : Int)) && sl_oto pc r ts
  | _, _ => false
def sl_okt (i : Instr) (pc k j : Nat) (ts : List Nat) : Bool := match i with
  | .tableswitch d lo hi offs => Nat.beq k 57 && (decide (lo = 0) && (decide ((hi : Int) + 1 = ts.length) && (decide ((pc : Int) + d = (j : Int)) && (sl_oto pc offs.toList ts && decide (ts.length < 1000)))))
  | _ => false
def sl_oki (i : Instr) (pc k : Nat) (x : Int32) (j n : Nat) (ts : List Nat) (c9 : Nat) : Bool :=
  bif sl_is1 k then sl_oks i k && Nat.beq n 1 else bif sl_is2 k then sl_okb2 i pc k j && Nat.beq n 3 else bif Nat.ble k 5 then sl_okl i k x j n else bif Nat.beq k 57 then sl_okt i pc k j ts else sl_okc i k j n c9
def sl_okd (cc : ByteArray) (ck : Nat → Nat) (pc : Nat) (E : sl_E) : Bool := match decode cc pc with
  | .ok (i, n9) => Nat.beq n9 E.2.2.2.1 && sl_oki i pc E.1 E.2.1 E.2.2.1 E.2.2.2.1 E.2.2.2.2 (ck E.2.2.1)
  | _ => false
/-- every entry of a table, below N, is what the bytes say -/
def sl_okT (cc : ByteArray) (ck : Nat → Nat) (tb : Nat → Option sl_E) (N : Nat) : Bool := (List.range N).all (fun pc => match tb pc with
  | some E => sl_okd cc ck pc E
  | none => true)

theorem sl_dk {cc : ByteArray} {ck : Nat → Nat} {pc k j n : Nat} {x : Int32} {ts : List Nat} (h : sl_okd cc ck pc (k, x, j, n, ts) = true) : ∃ i, decode cc pc = .ok (i, n) ∧ sl_oki i pc k x j n ts (ck j) = true := by
  unfold sl_okd at h
  split at h
  · rename_i i n9 hd
    simp only [Bool.and_eq_true, Nat.beq_eq] at h
    obtain ⟨h1, h2⟩ := h
    subst h1
    exact ⟨i, hd, h2⟩
  · cases h
theorem sl_d1 {cc : ByteArray} {ck : Nat → Nat} {pc k j n : Nat} {x : Int32} {ts : List Nat} (h : sl_okd cc ck pc (k, x, j, n, ts) = true) (hk : sl_is1 k = true) : decode cc pc = .ok (sl_in k, 1) ∧ n = 1 := by
  obtain ⟨i, hd, hi⟩ := sl_dk h
  unfold sl_oki at hi
  rw [hk, cond_true, Bool.and_eq_true, Nat.beq_eq] at hi
  obtain ⟨h1, h2⟩ := hi
  subst h2
  exact ⟨by rw [hd, sl_oks_in h1], rfl⟩
theorem sl_d2 {cc : ByteArray} {ck : Nat → Nat} {pc k j n : Nat} {x : Int32} {ts : List Nat} (h : sl_okd cc ck pc (k, x, j, n, ts) = true) (hk : sl_is2 k = true) (hk1 : sl_is1 k = false) : ∃ off : Int, decode cc pc = .ok (sl_br k off, 3) ∧ n = 3 ∧ (pc : Int) + off = (j : Int) := by
  obtain ⟨i, hd, hi⟩ := sl_dk h
  unfold sl_oki at hi
  rw [hk1, hk, cond_false, cond_true, Bool.and_eq_true, Nat.beq_eq] at hi
  obtain ⟨h1, h2⟩ := hi
  subst h2
  obtain ⟨off, e1, e2⟩ := sl_okb2_in h1
  exact ⟨off, by rw [hd, e1], rfl, e2⟩
theorem sl_d3 {cc : ByteArray} {ck : Nat → Nat} {pc k j n : Nat} {x : Int32} {ts : List Nat} (h : sl_okd cc ck pc (k, x, j, n, ts) = true) (hk : Nat.ble k 5 = true) (hk1 : sl_is1 k = false) (hk2 : sl_is2 k = false) : ∃ i, decode cc pc = .ok (i, n) ∧ sl_okl i k x j n = true := by
  obtain ⟨i, hd, hi⟩ := sl_dk h
  unfold sl_oki at hi
  rw [hk1, hk2, hk, cond_false, cond_false, cond_true] at hi
  exact ⟨i, hd, hi⟩
theorem sl_d4 {cc : ByteArray} {ck : Nat → Nat} {pc k j n : Nat} {x : Int32} {ts : List Nat} (h : sl_okd cc ck pc (k, x, j, n, ts) = true) (hk : Nat.ble k 5 = false) (hk1 : sl_is1 k = false) (hk2 : sl_is2 k = false) (hk3 : Nat.beq k 57 = false) : ∃ i, decode cc pc = .ok (i, n) ∧ sl_okc i k j n (ck j) = true := by
  obtain ⟨i, hd, hi⟩ := sl_dk h
  unfold sl_oki at hi
  rw [hk1, hk2, hk, hk3, cond_false, cond_false, cond_false, cond_false] at hi
  exact ⟨i, hd, hi⟩
theorem sl_d5 {cc : ByteArray} {ck : Nat → Nat} {pc j n : Nat} {x : Int32} {ts : List Nat} (h : sl_okd cc ck pc (57, x, j, n, ts) = true) : ∃ i, decode cc pc = .ok (i, n) ∧ sl_okt i pc 57 j ts = true := by
  obtain ⟨i, hd, hi⟩ := sl_dk h
  exact ⟨i, hd, hi⟩
theorem sl_okT_at {cc : ByteArray} {ck : Nat → Nat} {tb : Nat → Option sl_E} {N : Nat} (h : sl_okT cc ck tb N = true) (hN : ∀ pc, N ≤ pc → tb pc = none) {pc : Nat} {E : sl_E} (ht : tb pc = some E) : sl_okd cc ck pc E = true := by
  have hlt : pc < N := by
    rcases Nat.lt_or_ge pc N with q | q
    · exact q
    · rw [hN pc q] at ht; cases ht
  have h1 := List.all_eq_true.mp h pc (List.mem_range.mpr hlt)
  rw [ht] at h1
  exact h1
/-! ===== classes, fields, words ===== -/
def sl_RX (c : Nat) : String := match c with
  | 0 => RX1
  | 1 => RX1
  | 2 => RX2
  | 3 => RX3
  | 4 => RX4
  | 5 => RX5
  | 6 => RX6
  | 7 => RX7
  | 8 => RX8
  | 9 => RX9
  | 10 => RX10
  | 11 => RX11
  | _ => ""
def sl_TX (c : Nat) : u_T := match c with
  | 0 => TX0
  | 1 => TX1
  | 2 => TX2
  | 3 => TX3
  | 4 => TX4
  | 5 => TX5
  | 6 => TX6
  | 7 => TX7
  | 8 => TX8
  | 9 => TX9
  | 10 => TX10
  | 11 => TX11
  | _ => TX0
def sl_TY (c : Nat) : Nat → FieldType := match c with
  | 0 => tyX0
  | 1 => tyX1
  | 2 => tyX2
  | 3 => tyX3
  | 4 => tyX4
  | 5 => tyX5
  | 6 => tyX6
  | 7 => tyX7
  | 8 => tyX8
  | 9 => tyX9
  | 10 => tyX10
  | 11 => tyX11
  | _ => tyX0
def sl_NX (c : Nat) : Nat := match c with
  | 0 => 0
  | 1 => 8
  | 2 => 5
  | 3 => 2
  | 4 => 5
  | 5 => 7
  | 6 => 2
  | 7 => 13
  | 8 => 5
  | 9 => 1
  | 10 => 9
  | 11 => 44
  | _ => 0
abbrev sl_cls : List vw_C := [(RX1, TX0, 0), (RX1, TX1, 8), (RX2, TX2, 5), (RX3, TX3, 2), (RX4, TX4, 5), (RX5, TX5, 7), (RX6, TX6, 2), (RX7, TX7, 13), (RX8, TX8, 5), (RX9, TX9, 1), (RX10, TX10, 9), (RX11, TX11, 44)]
abbrev sl_tys (cA : Nat → ClassId) : List (ClassId × FieldType) := [(cA 0, .byte), (cA 1, .int), (cA 2, .boolean), (cA 3, .long), (cA 4, .object "SerialLink$Frame")]
theorem sl_12 {P : Nat → Prop} (h0 : P 0) (h1 : P 1) (h2 : P 2) (h3 : P 3) (h4 : P 4) (h5 : P 5) (h6 : P 6) (h7 : P 7) (h8 : P 8) (h9 : P 9) (h10 : P 10) (h11 : P 11) {c : Nat} (hc : c < 12) : P c := by
  match c, hc with
  | 0, _ => exact h0
  | 1, _ => exact h1
  | 2, _ => exact h2
  | 3, _ => exact h3
  | 4, _ => exact h4
  | 5, _ => exact h5
  | 6, _ => exact h6
  | 7, _ => exact h7
  | 8, _ => exact h8
  | 9, _ => exact h9
  | 10, _ => exact h10
  | 11, _ => exact h11
  | n + 12, h => exact absurd h (by omega)
theorem sl_cls_at {c : Nat} (hc : c < 12) : sl_cls[c]? = some (sl_RX c, sl_TX c, sl_NX c) := sl_12 (P := fun c => sl_cls[c]? = some (sl_RX c, sl_TX c, sl_NX c)) rfl rfl rfl rfl rfl rfl rfl rfl rfl rfl rfl rfl hc
theorem sl_nm {c : Nat} (hc : c < 12) : ∀ a, a < sl_NX c → ∀ b, b < sl_NX c → a ≠ b → (sl_TX c a).2.1 ≠ (sl_TX c b).2.1 := sl_12 (P := fun c => ∀ a, a < sl_NX c → ∀ b, b < sl_NX c → a ≠ b → (sl_TX c a).2.1 ≠ (sl_TX c b).2.1) nmX0 nmX1 nmX2 nmX3 nmX4 nmX5 nmX6 nmX7 nmX8 nmX9 nmX10 nmX11 hc
theorem sl_ty {c : Nat} (hc : c < 12) : ∀ k, k < sl_NX c → parseFieldDescriptor (sl_TX c k).2.2.1 = some (sl_TY c k) := sl_12 (P := fun c => ∀ k, k < sl_NX c → parseFieldDescriptor (sl_TX c k).2.2.1 = some (sl_TY c k)) tyX0_ok tyX1_ok tyX2_ok tyX3_ok tyX4_ok tyX5_ok tyX6_ok tyX7_ok tyX8_ok tyX9_ok tyX10_ok tyX11_ok hc
theorem sl_dc0 : ∀ k, k < 0 → (TX0 k).1 = RX1 := by decide +kernel
theorem sl_dc1 : ∀ k, k < 8 → (TX1 k).1 = RX1 := by decide +kernel
theorem sl_dc2 : ∀ k, k < 5 → (TX2 k).1 = RX2 := by decide +kernel
theorem sl_dc3 : ∀ k, k < 2 → (TX3 k).1 = RX3 := by decide +kernel
theorem sl_dc4 : ∀ k, k < 5 → (TX4 k).1 = RX4 := by decide +kernel
theorem sl_dc5 : ∀ k, k < 7 → (TX5 k).1 = RX5 := by decide +kernel
theorem sl_dc6 : ∀ k, k < 2 → (TX6 k).1 = RX6 := by decide +kernel
theorem sl_dc7 : ∀ k, k < 13 → (TX7 k).1 = RX7 := by decide +kernel
theorem sl_dc8 : ∀ k, k < 5 → (TX8 k).1 = RX8 := by decide +kernel
theorem sl_dc9 : ∀ k, k < 1 → (TX9 k).1 = RX9 := by decide +kernel
theorem sl_dc10 : ∀ k, k < 9 → (TX10 k).1 = RX10 := by decide +kernel
theorem sl_dc11 : ∀ k, k < 44 → (TX11 k).1 = RX11 := by decide +kernel
theorem sl_decl {c k : Nat} (hc : c < 12) (hk : k < sl_NX c) : (sl_TX c k).1 = sl_RX c := sl_12 (P := fun c => ∀ k, k < sl_NX c → (sl_TX c k).1 = sl_RX c) sl_dc0 sl_dc1 sl_dc2 sl_dc3 sl_dc4 sl_dc5 sl_dc6 sl_dc7 sl_dc8 sl_dc9 sl_dc10 sl_dc11 hc k hk
def sl_tyk (t : FieldType) : Nat := match t with
  | .int => 0 | .boolean => 1 | .object _ => 2 | .array _ => 2 | _ => 9
def sl_GW : List Cond := lw_tbl.filter goodWord
theorem sl_gw {w : Cond} (h : w ∈ lw_tbl) (hg : goodWord w = true) : w ∈ sl_GW := List.mem_filter.mpr ⟨h, hg⟩
theorem sl_gw_at {w : Cond} (k : Nat) (h : lw_tbl[k]? = some w) (hg : goodWord w = true) : w ∈ sl_GW := sl_gw (List.mem_of_getElem? h) hg
theorem sl_gin {w1 w2 : Cond} (h : w2 ∈ sl_GW) : GoodIn (w1 :: sl_GW) (w2 :: sl_GW) := by
  intro w hw
  rcases List.mem_cons.mp hw with hw | hw
  · subst hw; exact ⟨List.mem_cons_of_mem _ h, good_of_word (List.mem_filter.mp h).2⟩
  · exact ⟨List.mem_cons_of_mem _ hw, good_of_word (List.mem_filter.mp hw).2⟩
theorem sl_uw0 : ∀ w ∈ u_ws RX1 TX0 0, w ∈ sl_GW := by
  intro w hw
  obtain ⟨k, hk, rfl⟩ := List.mem_map.mp hw
  have hk := List.mem_range.mp hk
  exact absurd hk (Nat.not_lt_zero _)
theorem sl_uw1 : ∀ w ∈ u_ws RX1 TX1 8, w ∈ sl_GW := by
  intro w hw
  obtain ⟨k, hk, rfl⟩ := List.mem_map.mp hw
  have hk := List.mem_range.mp hk
  match k, hk with
  | 0, _ => exact sl_gw_at 305 (by decide +kernel) (by decide +kernel)
  | 1, _ => exact sl_gw_at 307 (by decide +kernel) (by decide +kernel)
  | 2, _ => exact sl_gw_at 309 (by decide +kernel) (by decide +kernel)
  | 3, _ => exact sl_gw_at 311 (by decide +kernel) (by decide +kernel)
  | 4, _ => exact sl_gw_at 313 (by decide +kernel) (by decide +kernel)
  | 5, _ => exact sl_gw_at 315 (by decide +kernel) (by decide +kernel)
  | 6, _ => exact sl_gw_at 317 (by decide +kernel) (by decide +kernel)
  | 7, _ => exact sl_gw_at 319 (by decide +kernel) (by decide +kernel)
  | n + 8, h => exact absurd h (by omega)
theorem sl_uw2 : ∀ w ∈ u_ws RX2 TX2 5, w ∈ sl_GW := by
  intro w hw
  obtain ⟨k, hk, rfl⟩ := List.mem_map.mp hw
  have hk := List.mem_range.mp hk
  match k, hk with
  | 0, _ => exact sl_gw_at 157 (by decide +kernel) (by decide +kernel)
  | 1, _ => exact sl_gw_at 159 (by decide +kernel) (by decide +kernel)
  | 2, _ => exact sl_gw_at 161 (by decide +kernel) (by decide +kernel)
  | 3, _ => exact sl_gw_at 163 (by decide +kernel) (by decide +kernel)
  | 4, _ => exact sl_gw_at 165 (by decide +kernel) (by decide +kernel)
  | n + 5, h => exact absurd h (by omega)
theorem sl_uw3 : ∀ w ∈ u_ws RX3 TX3 2, w ∈ sl_GW := by
  intro w hw
  obtain ⟨k, hk, rfl⟩ := List.mem_map.mp hw
  have hk := List.mem_range.mp hk
  match k, hk with
  | 0, _ => exact sl_gw_at 203 (by decide +kernel) (by decide +kernel)
  | 1, _ => exact sl_gw_at 205 (by decide +kernel) (by decide +kernel)
  | n + 2, h => exact absurd h (by omega)
theorem sl_uw4 : ∀ w ∈ u_ws RX4 TX4 5, w ∈ sl_GW := by
  intro w hw
  obtain ⟨k, hk, rfl⟩ := List.mem_map.mp hw
  have hk := List.mem_range.mp hk
  match k, hk with
  | 0, _ => exact sl_gw_at 174 (by decide +kernel) (by decide +kernel)
  | 1, _ => exact sl_gw_at 176 (by decide +kernel) (by decide +kernel)
  | 2, _ => exact sl_gw_at 178 (by decide +kernel) (by decide +kernel)
  | 3, _ => exact sl_gw_at 180 (by decide +kernel) (by decide +kernel)
  | 4, _ => exact sl_gw_at 182 (by decide +kernel) (by decide +kernel)
  | n + 5, h => exact absurd h (by omega)
theorem sl_uw5 : ∀ w ∈ u_ws RX5 TX5 7, w ∈ sl_GW := by
  intro w hw
  obtain ⟨k, hk, rfl⟩ := List.mem_map.mp hw
  have hk := List.mem_range.mp hk
  match k, hk with
  | 0, _ => exact sl_gw_at 279 (by decide +kernel) (by decide +kernel)
  | 1, _ => exact sl_gw_at 281 (by decide +kernel) (by decide +kernel)
  | 2, _ => exact sl_gw_at 283 (by decide +kernel) (by decide +kernel)
  | 3, _ => exact sl_gw_at 285 (by decide +kernel) (by decide +kernel)
  | 4, _ => exact sl_gw_at 287 (by decide +kernel) (by decide +kernel)
  | 5, _ => exact sl_gw_at 289 (by decide +kernel) (by decide +kernel)
  | 6, _ => exact sl_gw_at 291 (by decide +kernel) (by decide +kernel)
  | n + 7, h => exact absurd h (by omega)
theorem sl_uw6 : ∀ w ∈ u_ws RX6 TX6 2, w ∈ sl_GW := by
  intro w hw
  obtain ⟨k, hk, rfl⟩ := List.mem_map.mp hw
  have hk := List.mem_range.mp hk
  match k, hk with
  | 0, _ => exact sl_gw_at 133 (by decide +kernel) (by decide +kernel)
  | 1, _ => exact sl_gw_at 135 (by decide +kernel) (by decide +kernel)
  | n + 2, h => exact absurd h (by omega)
theorem sl_uw7 : ∀ w ∈ u_ws RX7 TX7 13, w ∈ sl_GW := by
  intro w hw
  obtain ⟨k, hk, rfl⟩ := List.mem_map.mp hw
  have hk := List.mem_range.mp hk
  match k, hk with
  | 0, _ => exact sl_gw_at 234 (by decide +kernel) (by decide +kernel)
  | 1, _ => exact sl_gw_at 236 (by decide +kernel) (by decide +kernel)
  | 2, _ => exact sl_gw_at 238 (by decide +kernel) (by decide +kernel)
  | 3, _ => exact sl_gw_at 240 (by decide +kernel) (by decide +kernel)
  | 4, _ => exact sl_gw_at 242 (by decide +kernel) (by decide +kernel)
  | 5, _ => exact sl_gw_at 244 (by decide +kernel) (by decide +kernel)
  | 6, _ => exact sl_gw_at 246 (by decide +kernel) (by decide +kernel)
  | 7, _ => exact sl_gw_at 248 (by decide +kernel) (by decide +kernel)
  | 8, _ => exact sl_gw_at 250 (by decide +kernel) (by decide +kernel)
  | 9, _ => exact sl_gw_at 252 (by decide +kernel) (by decide +kernel)
  | 10, _ => exact sl_gw_at 254 (by decide +kernel) (by decide +kernel)
  | 11, _ => exact sl_gw_at 256 (by decide +kernel) (by decide +kernel)
  | 12, _ => exact sl_gw_at 258 (by decide +kernel) (by decide +kernel)
  | n + 13, h => exact absurd h (by omega)
theorem sl_uw8 : ∀ w ∈ u_ws RX8 TX8 5, w ∈ sl_GW := by
  intro w hw
  obtain ⟨k, hk, rfl⟩ := List.mem_map.mp hw
  have hk := List.mem_range.mp hk
  match k, hk with
  | 0, _ => exact sl_gw_at 88 (by decide +kernel) (by decide +kernel)
  | 1, _ => exact sl_gw_at 90 (by decide +kernel) (by decide +kernel)
  | 2, _ => exact sl_gw_at 92 (by decide +kernel) (by decide +kernel)
  | 3, _ => exact sl_gw_at 94 (by decide +kernel) (by decide +kernel)
  | 4, _ => exact sl_gw_at 96 (by decide +kernel) (by decide +kernel)
  | n + 5, h => exact absurd h (by omega)
theorem sl_uw9 : ∀ w ∈ u_ws RX9 TX9 1, w ∈ sl_GW := by
  intro w hw
  obtain ⟨k, hk, rfl⟩ := List.mem_map.mp hw
  have hk := List.mem_range.mp hk
  match k, hk with
  | 0, _ => exact sl_gw_at 106 (by decide +kernel) (by decide +kernel)
  | n + 1, h => exact absurd h (by omega)
theorem sl_uw10 : ∀ w ∈ u_ws RX10 TX10 9, w ∈ sl_GW := by
  intro w hw
  obtain ⟨k, hk, rfl⟩ := List.mem_map.mp hw
  have hk := List.mem_range.mp hk
  match k, hk with
  | 0, _ => exact sl_gw_at 335 (by decide +kernel) (by decide +kernel)
  | 1, _ => exact sl_gw_at 337 (by decide +kernel) (by decide +kernel)
  | 2, _ => exact sl_gw_at 339 (by decide +kernel) (by decide +kernel)
  | 3, _ => exact sl_gw_at 341 (by decide +kernel) (by decide +kernel)
  | 4, _ => exact sl_gw_at 343 (by decide +kernel) (by decide +kernel)
  | 5, _ => exact sl_gw_at 345 (by decide +kernel) (by decide +kernel)
  | 6, _ => exact sl_gw_at 347 (by decide +kernel) (by decide +kernel)
  | 7, _ => exact sl_gw_at 349 (by decide +kernel) (by decide +kernel)
  | 8, _ => exact sl_gw_at 351 (by decide +kernel) (by decide +kernel)
  | n + 9, h => exact absurd h (by omega)
theorem sl_uw11 : ∀ w ∈ u_ws RX11 TX11 44, w ∈ sl_GW := by
  intro w hw
  obtain ⟨k, hk, rfl⟩ := List.mem_map.mp hw
  have hk := List.mem_range.mp hk
  match k, hk with
  | 0, _ => exact sl_gw_at 863 (by decide +kernel) (by decide +kernel)
  | 1, _ => exact sl_gw_at 865 (by decide +kernel) (by decide +kernel)
  | 2, _ => exact sl_gw_at 867 (by decide +kernel) (by decide +kernel)
  | 3, _ => exact sl_gw_at 869 (by decide +kernel) (by decide +kernel)
  | 4, _ => exact sl_gw_at 871 (by decide +kernel) (by decide +kernel)
  | 5, _ => exact sl_gw_at 873 (by decide +kernel) (by decide +kernel)
  | 6, _ => exact sl_gw_at 875 (by decide +kernel) (by decide +kernel)
  | 7, _ => exact sl_gw_at 877 (by decide +kernel) (by decide +kernel)
  | 8, _ => exact sl_gw_at 879 (by decide +kernel) (by decide +kernel)
  | 9, _ => exact sl_gw_at 881 (by decide +kernel) (by decide +kernel)
  | 10, _ => exact sl_gw_at 883 (by decide +kernel) (by decide +kernel)
  | 11, _ => exact sl_gw_at 885 (by decide +kernel) (by decide +kernel)
  | 12, _ => exact sl_gw_at 887 (by decide +kernel) (by decide +kernel)
  | 13, _ => exact sl_gw_at 889 (by decide +kernel) (by decide +kernel)
  | 14, _ => exact sl_gw_at 891 (by decide +kernel) (by decide +kernel)
  | 15, _ => exact sl_gw_at 893 (by decide +kernel) (by decide +kernel)
  | 16, _ => exact sl_gw_at 895 (by decide +kernel) (by decide +kernel)
  | 17, _ => exact sl_gw_at 897 (by decide +kernel) (by decide +kernel)
  | 18, _ => exact sl_gw_at 899 (by decide +kernel) (by decide +kernel)
  | 19, _ => exact sl_gw_at 901 (by decide +kernel) (by decide +kernel)
  | 20, _ => exact sl_gw_at 903 (by decide +kernel) (by decide +kernel)
  | 21, _ => exact sl_gw_at 905 (by decide +kernel) (by decide +kernel)
  | 22, _ => exact sl_gw_at 907 (by decide +kernel) (by decide +kernel)
  | 23, _ => exact sl_gw_at 909 (by decide +kernel) (by decide +kernel)
  | 24, _ => exact sl_gw_at 911 (by decide +kernel) (by decide +kernel)
  | 25, _ => exact sl_gw_at 913 (by decide +kernel) (by decide +kernel)
  | 26, _ => exact sl_gw_at 915 (by decide +kernel) (by decide +kernel)
  | 27, _ => exact sl_gw_at 917 (by decide +kernel) (by decide +kernel)
  | 28, _ => exact sl_gw_at 919 (by decide +kernel) (by decide +kernel)
  | 29, _ => exact sl_gw_at 921 (by decide +kernel) (by decide +kernel)
  | 30, _ => exact sl_gw_at 923 (by decide +kernel) (by decide +kernel)
  | 31, _ => exact sl_gw_at 925 (by decide +kernel) (by decide +kernel)
  | 32, _ => exact sl_gw_at 927 (by decide +kernel) (by decide +kernel)
  | 33, _ => exact sl_gw_at 929 (by decide +kernel) (by decide +kernel)
  | 34, _ => exact sl_gw_at 931 (by decide +kernel) (by decide +kernel)
  | 35, _ => exact sl_gw_at 933 (by decide +kernel) (by decide +kernel)
  | 36, _ => exact sl_gw_at 935 (by decide +kernel) (by decide +kernel)
  | 37, _ => exact sl_gw_at 937 (by decide +kernel) (by decide +kernel)
  | 38, _ => exact sl_gw_at 939 (by decide +kernel) (by decide +kernel)
  | 39, _ => exact sl_gw_at 941 (by decide +kernel) (by decide +kernel)
  | 40, _ => exact sl_gw_at 943 (by decide +kernel) (by decide +kernel)
  | 41, _ => exact sl_gw_at 945 (by decide +kernel) (by decide +kernel)
  | 42, _ => exact sl_gw_at 947 (by decide +kernel) (by decide +kernel)
  | 43, _ => exact sl_gw_at 949 (by decide +kernel) (by decide +kernel)
  | n + 44, h => exact absurd h (by omega)
theorem sl_uw {c : Nat} (hc : c < 12) : ∀ w ∈ u_ws (sl_RX c) (sl_TX c) (sl_NX c), w ∈ sl_GW := sl_12 (P := fun c => ∀ w ∈ u_ws (sl_RX c) (sl_TX c) (sl_NX c), w ∈ sl_GW) sl_uw0 sl_uw1 sl_uw2 sl_uw3 sl_uw4 sl_uw5 sl_uw6 sl_uw7 sl_uw8 sl_uw9 sl_uw10 sl_uw11 hc
/-! ===== values and locals ===== -/
theorem sl_cat (ad : Nat → Nat → Nat) {v : sl_V} (h : sl_c1 v = true) : (sl_v ad v).category = 1 := by
  rcases v with x | (_ | q) | y
  · rfl
  · rfl
  · rfl
  · cases h
theorem sl_csum (ad : Nat → Nat → Nat) : ∀ st : List sl_V, ((st.map (sl_v ad)).map fun v => v.category).sum = sl_cs st
  | [] => rfl
  | v :: r => by
    have ih := sl_csum ad r
    rcases v with x | (_ | q) | y <;> simp only [List.map_cons, List.sum_cons, ih] <;> rfl
def sl_lh (ad : Nat → Nat → Nat) (ls : Array Slot) (nL : Nat) (lo : List (Option sl_V)) : Prop := ls.size = nL ∧ lv_wf ls ∧ ∀ (i : Nat) (v : sl_V), lo[i]? = some (some v) → ls[i]? = some (.val (sl_v ad v)) ∧ sl_c1 v = true
def sl_lv (ad : Nat → Nat → Nat) (lo : List (Option sl_V)) : List (Nat × Value) := (List.range lo.length).filterMap (fun i => (lo[i]?.join).map (fun v => (i, sl_v ad v)))
theorem sl_lv_mem {ad : Nat → Nat → Nat} {lo : List (Option sl_V)} {i : Nat} {w : Value} : (i, w) ∈ sl_lv ad lo ↔ ∃ v, lo[i]? = some (some v) ∧ w = sl_v ad v := by
  unfold sl_lv
  simp only [List.mem_filterMap, List.mem_range, Option.map_eq_some_iff]
  constructor
  · rintro ⟨a, -, v, hv, he⟩
    cases he
    refine ⟨v, ?_, rfl⟩
    cases h : lo[i]? with
    | none => rw [h] at hv; cases hv
    | some o => rw [h] at hv; cases o with
      | none => cases hv
      | some z => cases hv; rfl
  · rintro ⟨v, hv, rfl⟩
    exact ⟨i, (List.getElem?_eq_some_iff.mp hv).1, v, by rw [hv]; rfl, rfl⟩
theorem sl_lh_has {ad : Nat → Nat → Nat} {ls : Array Slot} {nL : Nat} {lo : List (Option sl_V)} (h : sl_lh ad ls nL lo) : lv_has ls nL (sl_lv ad lo) := by
  refine ⟨h.1, h.2.1, fun q hq => ?_⟩
  obtain ⟨v, h1, h2⟩ := sl_lv_mem.mp hq
  rw [h2]
  exact (h.2.2 _ _ h1).1
theorem sl_lh_set {ad : Nat → Nat → Nat} {ls ls1 : Array Slot} {nL : Nat} {lo : List (Option sl_V)} (h : sl_lh ad ls nL lo) {j : Nat} {v : sl_V} (hv : sl_c1 v = true)
    (h1 : lv_has ls1 nL ((j, sl_v ad v) :: (sl_lv ad lo).filter (fun q => !(q.1 == j) && !(q.1 + 1 == j && q.2.category == 2)))) : sl_lh ad ls1 nL (lo.set j (some v)) := by
  refine ⟨h1.1, h1.2.1, fun i w hw => ?_⟩
  by_cases hij : i = j
  · subst hij
    have hl : i < lo.length := by
      have := (List.getElem?_eq_some_iff.mp hw).1
      rwa [List.length_set] at this
    rw [List.getElem?_set_self hl] at hw
    cases hw
    exact ⟨h1.2.2 (i, sl_v ad v) List.mem_cons_self, hv⟩
  · rw [List.getElem?_set_ne (fun q => hij q.symm)] at hw
    have hc := (h.2.2 i w hw).2
    refine ⟨h1.2.2 (i, sl_v ad w) (List.mem_cons_of_mem _ (List.mem_filter.mpr ⟨sl_lv_mem.mpr ⟨w, hw, rfl⟩, ?_⟩)), hc⟩
    simp [hij, sl_cat ad hc]
theorem sl_lh_get {ad : Nat → Nat → Nat} {ls : Array Slot} {nL : Nat} {lo : List (Option sl_V)} (h : sl_lh ad ls nL lo) {i : Nat} {v : sl_V} (hv : lo[i]? = some (some v)) : ls[i]? = some (.val (sl_v ad v)) := (h.2.2 i v hv).1
theorem sl_lh_lt {ad : Nat → Nat → Nat} {ls : Array Slot} {nL : Nat} {lo : List (Option sl_V)} (h : sl_lh ad ls nL lo) {i : Nat} {v : sl_V} (hv : lo[i]? = some (some v)) : i < nL := by
  have := lv_lt (sl_lh_get h hv)
  rwa [h.1] at this
theorem sl_lh_weak {ad : Nat → Nat → Nat} {ls : Array Slot} {nL : Nat} {lo lo1 : List (Option sl_V)} (h : sl_lh ad ls nL lo) (hw : ∀ (i : Nat) (v : sl_V), lo1[i]? = some (some v) → lo[i]? = some (some v)) : sl_lh ad ls nL lo1 := ⟨h.1, h.2.1, fun i v hv => h.2.2 i v (hw i v hv)⟩
theorem sl_mask_weak : ∀ (bs : List Bool) (lo : List (Option sl_V)) (i : Nat) (v : sl_V), (sl_mask bs lo)[i]? = some (some v) → lo[i]? = some (some v)
  | [], _, i, v, h => by simp [sl_mask] at h
  | _ :: _, [], i, v, h => by simp [sl_mask] at h
  | b :: bs, w :: lo, 0, v, h => by
    cases b
    · simp [sl_mask] at h
    · simpa [sl_mask] using h
  | b :: bs, w :: lo, i + 1, v, h => by
    have h1 : (sl_mask bs lo)[i]? = some (some v) := by simpa [sl_mask] using h
    simpa using sl_mask_weak bs lo i v h1
/-! ===== the heap's picture ===== -/
def sl_ob (ad : Nat → Nat → Nat) (D : va_G) (cA : Nat → ClassId) (ln : Nat → Nat → Nat) (c i : Nat) (f : Nat → sl_V) (H : Heap) : Prop :=
  (c < 12 → t_OB (ad c i) (D.1 c) (sl_NX c) (D.2 c) H (fun k => sl_v ad (f k))) ∧ (20 ≤ c → c ≠ 41 → H[ad c i]? = some (arrV (cA (sl_ak c)) (ln c i) (fun k => sl_v ad (f k))))
theorem sl_ob_kept {ad : Nat → Nat → Nat} {D : va_G} {cA : Nat → ClassId} {ln : Nat → Nat → Nat} {c i : Nat} {f : Nat → sl_V} {H H1 : Heap} (h : sl_ob ad D cA ln c i f H) (hq : H1[ad c i]? = H[ad c i]?) : sl_ob ad D cA ln c i f H1 :=
  ⟨fun hc => (h.1 hc).kept hq, fun hc h4 => hq.trans (h.2 hc h4)⟩
section SLH
variable {M : Type} (ad : Nat → Nat → Nat) (base NA : Nat) (Hb : Heap) (D : va_G) (cA : Nat → ClassId) (ln : Nat → Nat → Nat) (rd : M → Nat → Nat → Nat → sl_V) (VR : M → Nat × Nat → Prop) (cn : M → Nat)
def sl_HP (m : M) (H : Heap) : Prop := base + min (cn m) NA ≤ H.size ∧ (cn m < NA → H.size = base + cn m) ∧ (∀ q : Nat, q < base → H[q]? = Hb[q]?) ∧ ∀ c i : Nat, VR m (c, i) → sl_ob ad D cA ln c i (rd m c i) H
variable (wr : M → Nat → Nat → Nat → sl_V → Option M) (al : M → Nat → Int32 → Option ((Nat × Nat) × M)) (MI : M → Prop) (sn : M → Nat)
/-- what an array keeps of a value -/
def sl_nar (c : Nat) (v : sl_V) : sl_V := match v with
  | .inl x => (match sl_ak c with
    | 0 => .inl x.toInt8.toInt32
    | 2 => .inl (x &&& 1)
    | _ => .inl x)
  | _ => v
def sl_nf (c : Nat) (v : sl_V) : sl_V := bif Nat.ble 20 c then sl_nar c v else v
/-- the laws of a memory -/
def sl_Mem : Prop :=
  (∀ (m : M) (c i k : Nat) (v : sl_V) (m1 : M), wr m c i k v = some m1 → VR m (c, i) → (∀ q, v = .inr (.inl (some q)) → VR m q) → MI m → (c < 12 ∨ 20 ≤ c) →
    MI m1 ∧ cn m1 = cn m ∧ sn m1 = sn m ∧ (∀ q, VR m1 q ↔ VR m q) ∧ base ≤ ad c i ∧ (∀ c1 i1 : Nat, VR m (c1, i1) → (c1, i1) ≠ (c, i) → rd m1 c1 i1 = rd m c1 i1) ∧ ∀ k1, (20 ≤ c → k1 < ln c i ∧ k < ln c i) → rd m1 c i k1 = if k1 = k then sl_nf c v else rd m c i k1) ∧
  (∀ (m : M) (c i k : Nat) (q : Nat × Nat), VR m (c, i) → MI m → (20 ≤ c → k < ln c i) → rd m c i k = .inr (.inl (some q)) → VR m q) ∧
  (∀ (m : M) (q r : Nat × Nat), VR m q → VR m r → ad q.1 q.2 = ad r.1 r.2 → q = r) ∧
  (∀ (m : M) (t : Nat) (x : Int32) (q : Nat × Nat) (m1 : M), al m t x = some (q, m1) → MI m →
    MI m1 ∧ cn m1 = cn m + 1 ∧ cn m < NA ∧ ad q.1 q.2 = base + cn m ∧ (∀ r, VR m1 r ↔ VR m r ∨ r = q) ∧ (∀ c i : Nat, VR m (c, i) → rd m1 c i = rd m c i) ∧
    ((t < 12 ∧ q.1 = t ∧ sn m1 = sn m + sl_NX t ∧ ∀ k, k < sl_NX t → sl_v ad (rd m1 q.1 q.2 k) = defaultValue (sl_TY t k)) ∨
     (100 ≤ t ∧ t ≤ 104 ∧ 20 ≤ q.1 ∧ q.1 ≠ 41 ∧ sl_ak q.1 + 100 = t ∧ ¬ x < 0 ∧ x.toNatClampNeg ≤ 100000 ∧ ln q.1 q.2 = x.toNatClampNeg ∧ sn m1 = sn m + x.toNatClampNeg ∧
       ∀ k, rd m1 q.1 q.2 k = (match t with
         | 103 => .inr (.inr 0)
         | 104 => .inr (.inl none)
         | _ => .inl 0))))
end SLH
