def sl_i (n : Nat) : Int32 := Int32.ofNat n
theorem i_lit (n : Nat) : (no_index (OfNat.ofNat n) : Int32) = sl_i n := rfl
theorem i_lit0 : (0 : Int32) = sl_i 0 := rfl
theorem i_ofNat (n : Nat) : Int32.ofNat n = sl_i n := rfl
theorem i_add (a b : Nat) : sl_i a + sl_i b = sl_i (a + b) := (Int32.ofNat_add a b).symm
theorem i_mul (a b : Nat) : sl_i a * sl_i b = sl_i (a * b) := (Int32.ofNat_mul a b).symm
theorem i_sub {a b : Nat} (h : b ≤ a) : sl_i a - sl_i b = sl_i (a - b) := (Int32.ofNat_sub a b h).symm
theorem i_addn {a b : Nat} (h : b ≤ a) : sl_i a + -(sl_i b) = sl_i (a - b) := by
  rw [← Int32.sub_eq_add_neg]; exact i_sub h
theorem i_subm (a b : Nat) : sl_i a - sl_i (a / b * b) = sl_i (a % b) := by
  rw [i_sub (Nat.div_mul_le_self a b), ← Nat.mod_eq_sub_div_mul]
theorem i_subm' (a b : Nat) : sl_i a - sl_i (b * (a / b)) = sl_i (a % b) := by
  rw [Nat.mul_comm, i_subm]
theorem y_nsm (a b : Nat) : a - a / b * b = a % b := Nat.mod_eq_sub_div_mul.symm
theorem i_le {a b : Nat} (ha : a < 2147483648) (hb : b < 2147483648) : (sl_i a ≤ sl_i b) = (a ≤ b) := propext (Int32.ofNat_le_iff_le ha hb)
theorem i_lt {a b : Nat} (ha : a < 2147483648) (hb : b < 2147483648) : (sl_i a < sl_i b) = (a < b) := propext (Int32.ofNat_lt_iff_lt ha hb)
theorem i_nat {a : Nat} (ha : a < 2147483648) : (sl_i a).toNatClampNeg = a := Int32.toNatClampNeg_ofNat_of_lt ha
theorem i_toInt {a : Nat} (ha : a < 2147483648) : (sl_i a).toInt = a := Int32.toInt_ofNat_of_lt ha
theorem i_eq {a b : Nat} (ha : a < 2147483648) (hb : b < 2147483648) : (sl_i a = sl_i b) = (a = b) := by
  apply propext
  refine ⟨fun h => ?_, fun h => h ▸ rfl⟩
  have := congrArg Int32.toNatClampNeg h
  rwa [i_nat ha, i_nat hb] at this
theorem i_div {a b : Nat} (ha : a < 2147483648) (hb : b < 2147483648) : sl_i a / sl_i b = sl_i (a / b) := (Int32.ofNat_div ha hb).symm
theorem i_ninj {b : Nat} (hb : b < 2147483648) : (-(sl_i b)).toInt = -(b : Int) := by
  have : (-(sl_i b)) = Int32.ofInt (-(b : Int)) := Int32.neg_ofNat
  rw [this, Int32.toInt_ofInt_of_le (by omega) (by omega)]
theorem i_nle {a b : Nat} (ha : a < 2147483648) (hb : b < 2147483648) (h0 : 0 < b) : (sl_i a ≤ -(sl_i b)) = False := by
  apply propext; rw [Int32.le_iff_toInt_le, i_ninj hb, i_toInt ha]; constructor
  · intro h; omega
  · intro h; exact h.elim
theorem i_nlt {a b : Nat} (ha : a < 2147483648) (hb : b < 2147483648) : (sl_i a < -(sl_i b)) = False := by
  apply propext; rw [Int32.lt_iff_toInt_lt, i_ninj hb, i_toInt ha]; constructor
  · intro h; omega
  · intro h; exact h.elim
theorem i_len {a b : Nat} (ha : a < 2147483648) (hb : b < 2147483648) : (-(sl_i b) ≤ sl_i a) = True := by
  apply propext; rw [Int32.le_iff_toInt_le, i_ninj hb, i_toInt ha]; constructor
  · intro h; trivial
  · intro h; omega
theorem i_ltn {a b : Nat} (ha : a < 2147483648) (hb : b < 2147483648) (h0 : 0 < b) : (-(sl_i b) < sl_i a) = True := by
  apply propext; rw [Int32.lt_iff_toInt_lt, i_ninj hb, i_toInt ha]; constructor
  · intro h; trivial
  · intro h; omega
theorem i_neq {a b : Nat} (ha : a < 2147483648) (hb : b < 2147483648) (h0 : 0 < b) : (sl_i a = -(sl_i b)) = False := by
  apply propext; rw [← Int32.toInt_inj, i_ninj hb, i_toInt ha]; constructor
  · intro h; omega
  · intro h; exact h.elim
theorem i_eqn {a b : Nat} (ha : a < 2147483648) (hb : b < 2147483648) (h0 : 0 < b) : (-(sl_i b) = sl_i a) = False := by
  apply propext; rw [← Int32.toInt_inj, i_ninj hb, i_toInt ha]; constructor
  · intro h; omega
  · intro h; exact h.elim
theorem i_bv (n : Nat) : (sl_i n).toBitVec = BitVec.ofNat 32 n := rfl
theorem i_and (a b : Nat) : sl_i a &&& sl_i b = sl_i (a &&& b) := by
  apply Int32.toBitVec_inj.1; rw [Int32.toBitVec_and, i_bv, i_bv, i_bv, BitVec.ofNat_and]
theorem i_or (a b : Nat) : sl_i a ||| sl_i b = sl_i (a ||| b) := by
  apply Int32.toBitVec_inj.1; rw [Int32.toBitVec_or, i_bv, i_bv, i_bv, BitVec.ofNat_or]
theorem i_xor (a b : Nat) : sl_i a ^^^ sl_i b = sl_i (a ^^^ b) := by
  apply Int32.toBitVec_inj.1; rw [Int32.toBitVec_xor, i_bv, i_bv, i_bv, BitVec.ofNat_xor]
theorem i_and1 (a : Nat) : sl_i a &&& sl_i 1 = sl_i (a % 2) := by rw [i_and, show (1 : Nat) = 2 ^ 1 - 1 from rfl, Nat.and_two_pow_sub_one_eq_mod]
theorem i_and15 (a : Nat) : sl_i a &&& sl_i 15 = sl_i (a % 16) := by rw [i_and, show (15 : Nat) = 2 ^ 4 - 1 from rfl, Nat.and_two_pow_sub_one_eq_mod]
theorem i_and31 (a : Nat) : sl_i a &&& sl_i 31 = sl_i (a % 32) := by rw [i_and, show (31 : Nat) = 2 ^ 5 - 1 from rfl, Nat.and_two_pow_sub_one_eq_mod]
theorem i_and63 (a : Nat) : sl_i a &&& sl_i 63 = sl_i (a % 64) := by rw [i_and, show (63 : Nat) = 2 ^ 6 - 1 from rfl, Nat.and_two_pow_sub_one_eq_mod]
/-! bytes -/
def sl_b8 (x : Int32) : Nat := x.toBitVec.toNat % 256
theorem b8_lt (x : Int32) : sl_b8 x < 256 := Nat.mod_lt _ (by decide)
theorem i_and255 (x : Int32) : x &&& sl_i 255 = sl_i (sl_b8 x) := by
  apply Int32.toBitVec_inj.1
  rw [Int32.toBitVec_and, i_bv, i_bv]
  apply BitVec.eq_of_toNat_eq
  rw [BitVec.toNat_and, BitVec.toNat_ofNat, BitVec.toNat_ofNat, show 255 % 2 ^ 32 = 2 ^ 8 - 1 from rfl, Nat.and_two_pow_sub_one_eq_mod]
  unfold sl_b8; omega
theorem b8_i (n : Nat) : sl_b8 (sl_i n) = n % 256 := by
  unfold sl_b8; rw [i_bv, BitVec.toNat_ofNat]; omega
theorem sx_bv (x : Int32) : (sl_sx x).toBitVec = (x.toBitVec.signExtend 8).signExtend 32 := rfl
theorem b8_bit (x : Int32) (j : Nat) : (sl_b8 x).testBit j = (decide (j < 8) && x.toBitVec.getLsbD j) := by
  unfold sl_b8; rw [show 256 = 2 ^ 8 from rfl, Nat.testBit_mod_two_pow]; rfl
theorem sx_bit (x : Int32) (j : Nat) : (sl_sx x).toBitVec.getLsbD j = (decide (j < 32) && x.toBitVec.getLsbD (if j < 8 then j else 7)) := by
  rw [sx_bv, BitVec.getLsbD_signExtend, BitVec.msb_signExtend, BitVec.getLsbD_signExtend]
  by_cases h : j < 8
  · have h2 : j < 32 := by omega
    simp [h, h2]
  · simp [h, BitVec.getLsbD_signExtend, BitVec.getMsbD]
theorem b8_sx (x : Int32) : sl_b8 (sl_sx x) = sl_b8 x := by
  apply Nat.eq_of_testBit_eq; intro j
  rw [b8_bit, b8_bit, sx_bit]
  by_cases h : j < 8
  · have h2 : j < 32 := by omega
    simp [h, h2]
  · simp [h]
theorem sx_inj {x y : Int32} (h : sl_b8 x = sl_b8 y) : sl_sx x = sl_sx y := by
  apply Int32.toBitVec_inj.1
  apply BitVec.eq_of_getLsbD_eq
  intro j hj
  rw [sx_bit, sx_bit]
  have h2 : ∀ k, k < 8 → x.toBitVec.getLsbD k = y.toBitVec.getLsbD k := by
    intro k hk
    have := congrArg (fun z => z.testBit k) h
    simp only [b8_bit, hk, decide_true, Bool.true_and] at this
    exact this
  by_cases h3 : j < 8
  · simp only [h3, if_true]; rw [h2 j h3]
  · simp only [h3, if_false]; rw [h2 7 (by decide)]
theorem sx_eq (x y : Int32) : (sl_sx x = sl_sx y) = (sl_b8 x = sl_b8 y) := by
  apply propext
  refine ⟨fun h => ?_, sx_inj⟩
  have := congrArg sl_b8 h
  rwa [b8_sx, b8_sx] at this
theorem sx_i0 : sl_i 0 = sl_sx (sl_i 0) := by decide
theorem sx_eq0 (x : Int32) : (sl_sx x = sl_i 0) = (sl_b8 x = 0) := by
  rw [sx_i0, sx_eq, b8_i]
theorem sx_sx (x : Int32) : sl_sx (sl_sx x) = sl_sx x := sx_inj (b8_sx x)
theorem b8_xor (x y : Int32) : sl_b8 (x ^^^ y) = sl_b8 x ^^^ sl_b8 y := by
  apply Nat.eq_of_testBit_eq; intro j
  rw [Nat.testBit_xor, b8_bit, b8_bit, b8_bit, Int32.toBitVec_xor, BitVec.getLsbD_xor]
  cases decide (j < 8) <;> simp
theorem b8_or (x y : Int32) : sl_b8 (x ||| y) = sl_b8 x ||| sl_b8 y := by
  apply Nat.eq_of_testBit_eq; intro j
  rw [Nat.testBit_or, b8_bit, b8_bit, b8_bit, Int32.toBitVec_or, BitVec.getLsbD_or]
  cases decide (j < 8) <;> simp
/-! shifts -/
theorem ush_bv (x : Int32) {k : Nat} (hk : k < 32) : (sl_ush x (sl_i k)).toBitVec = x.toBitVec >>> k := by
  have h1 : (sl_ush x (sl_i k)).toBitVec = x.toBitVec >>> ((BitVec.ofNat 32 k &&& 31#32).toNat % 32) := by
    unfold sl_ush
    rfl
  rw [h1, BitVec.toNat_and, BitVec.toNat_ofNat, show (31#32).toNat = 2 ^ 5 - 1 from rfl, Nat.and_two_pow_sub_one_eq_mod]
  congr 1; omega
theorem shr_bv (x : Int32) {k : Nat} (hk : k < 32) : (x >>> (sl_i k &&& sl_i 31)).toBitVec = x.toBitVec.sshiftRight k := by
  rw [i_and31, Nat.mod_eq_of_lt hk]
  have : (x >>> sl_i k).toBitVec = x.toBitVec.sshiftRight' ((sl_i k).toBitVec.smod 32) := rfl
  rw [this, BitVec.sshiftRight_eq', i_bv]
  have h2 : ∀ k : Fin 32, ((BitVec.ofNat 32 k.val).smod 32).toNat = k.val := by decide
  rw [h2 ⟨k, hk⟩]
theorem shl_bv (x : Int32) {k : Nat} (hk : k < 32) : (x <<< (sl_i k &&& sl_i 31)).toBitVec = x.toBitVec <<< k := by
  rw [i_and31, Nat.mod_eq_of_lt hk]
  have : (x <<< sl_i k).toBitVec = x.toBitVec <<< ((sl_i k).toBitVec.smod 32) := rfl
  rw [this, BitVec.shiftLeft_eq', i_bv]
  have h2 : ∀ k : Fin 32, ((BitVec.ofNat 32 k.val).smod 32).toNat = k.val := by decide
  rw [h2 ⟨k, hk⟩]
theorem b8_ush (x : Int32) {k : Nat} (hk : k < 32) : sl_b8 (sl_ush x (sl_i k)) = x.toBitVec.toNat / 2 ^ k % 256 := by
  unfold sl_b8; rw [ush_bv x hk, BitVec.toNat_ushiftRight, Nat.shiftRight_eq_div_pow]
theorem b8_shr (x : Int32) {k : Nat} (hk : k ≤ 24) : sl_b8 (x >>> (sl_i k &&& sl_i 31)) = x.toBitVec.toNat / 2 ^ k % 256 := by
  rw [← b8_ush x (by omega : k < 32)]
  apply Nat.eq_of_testBit_eq; intro j
  rw [b8_bit, b8_bit, ush_bv x (by omega), shr_bv x (by omega)]
  by_cases h : j < 8
  · rw [BitVec.getLsbD_sshiftRight, BitVec.getLsbD_ushiftRight]
    have h3 : ¬ (32 ≤ j) := by omega
    have h4 : k + j < 32 := by omega
    simp [h, h3, h4]
  · simp [h]
theorem b8_shr' (x : Int32) {k : Nat} (hk : k ≤ 24) : sl_b8 (x >>> sl_i k) = x.toBitVec.toNat / 2 ^ k % 256 := by
  have := b8_shr x hk
  rwa [i_and31, Nat.mod_eq_of_lt (by omega)] at this
theorem i_lt32 {n : Nat} (h : n < 4294967296) : (sl_i n).toBitVec.toNat = n := by
  rw [i_bv, BitVec.toNat_ofNat]; exact Nat.mod_eq_of_lt h
theorem i_ush {a k : Nat} (ha : a < 2147483648) (hk : k < 32) : sl_ush (sl_i a) (sl_i k) = sl_i (a / 2 ^ k) := by
  apply Int32.toBitVec_inj.1
  apply BitVec.eq_of_toNat_eq
  rw [ush_bv _ hk, BitVec.toNat_ushiftRight, Nat.shiftRight_eq_div_pow, i_lt32 (by omega), i_lt32]
  exact Nat.lt_of_le_of_lt (Nat.div_le_self _ _) (by omega)
theorem i_shr {a k : Nat} (ha : a < 2147483648) (hk : k < 32) : sl_i a >>> sl_i k = sl_i (a / 2 ^ k) := by
  have h1 := shr_bv (sl_i a) hk
  rw [i_and31, Nat.mod_eq_of_lt hk] at h1
  apply Int32.toBitVec_inj.1
  rw [h1, BitVec.sshiftRight_eq_of_msb_false]
  · apply BitVec.eq_of_toNat_eq
    rw [BitVec.toNat_ushiftRight, Nat.shiftRight_eq_div_pow, i_lt32 (by omega), i_lt32]
    exact Nat.lt_of_le_of_lt (Nat.div_le_self _ _) (by omega)
  · rw [i_bv, BitVec.msb_eq_false_iff_two_mul_lt, BitVec.toNat_ofNat]; omega
theorem i_shrA {a k : Nat} (ha : a < 2147483648) (hk : k < 32) : sl_i a >>> (sl_i k &&& sl_i 31) = sl_i (a / 2 ^ k) := by
  rw [i_and31, Nat.mod_eq_of_lt hk, i_shr ha hk]
theorem i_shl1 {k : Nat} (hk : k < 31) : sl_i 1 <<< sl_i k = sl_i (2 ^ k) := by
  have h1 := shl_bv (sl_i 1) (show k < 32 by omega)
  rw [i_and31, Nat.mod_eq_of_lt (by omega)] at h1
  apply Int32.toBitVec_inj.1
  rw [h1, i_bv, i_bv]
  apply BitVec.eq_of_toNat_eq
  rw [BitVec.toNat_shiftLeft, BitVec.toNat_ofNat, BitVec.toNat_ofNat, Nat.shiftLeft_eq]
  simp
/-- bit k of a byte, however it is read -/
theorem sx_bitk (x : Int32) {k : Nat} (hk : k < 8) : (sl_sx x >>> sl_i k) &&& sl_i 1 = sl_i (sl_b8 x / 2 ^ k % 2) := by
  have h1 := shr_bv (sl_sx x) (show k < 32 by omega)
  rw [i_and31, Nat.mod_eq_of_lt (by omega)] at h1
  apply Int32.toBitVec_inj.1
  apply BitVec.eq_of_toNat_eq
  rw [Int32.toBitVec_and, h1, i_bv, BitVec.toNat_and, BitVec.toNat_ofNat, show 1 % 2 ^ 32 = 2 ^ 1 - 1 from rfl, Nat.and_two_pow_sub_one_eq_mod, i_lt32 (by omega)]
  have h2 : ∀ n : Nat, n % 2 = (n.testBit 0).toNat := by intro n; rw [Nat.testBit_zero]; have := Nat.mod_two_eq_zero_or_one n; rcases this with h | h <;> simp [h]
  rw [show (2 : Nat) ^ 1 = 2 from rfl, h2, h2 (sl_b8 x / 2 ^ k)]
  congr 1
  rw [Nat.testBit_div_two_pow, b8_bit, BitVec.testBit_toNat, BitVec.getLsbD_sshiftRight, sx_bit]
  have h3 : ¬ (32 ≤ 0) := by omega
  have h4 : k < 32 := by omega
  simp [hk, h4]
theorem sx_and63 (x : Int32) : sl_sx x &&& sl_i 63 = sl_i (sl_b8 x % 64) := by
  apply Int32.toBitVec_inj.1
  apply BitVec.eq_of_toNat_eq
  rw [Int32.toBitVec_and, i_bv, BitVec.toNat_and, BitVec.toNat_ofNat, show 63 % 2 ^ 32 = 2 ^ 6 - 1 from rfl, Nat.and_two_pow_sub_one_eq_mod, i_lt32 (by omega)]
  have := b8_sx x
  unfold sl_b8 at this ⊢
  omega
/-! memory -/
theorem up_eq {m : sl_M} {c i k c' i' k' : Nat} {x : Int32} (h1 : c' = c) (h2 : i' = i) (h3 : k' = k) : (sl_up m c i k x).1 c' i' k' = x := by
  subst h1; subst h2; subst h3
  simp [sl_up, sl_hit]
theorem up_ne {m : sl_M} {c i k c' i' k' : Nat} {x : Int32} (h : c' ≠ c ∨ i' ≠ i ∨ k' ≠ k) : (sl_up m c i k x).1 c' i' k' = m.1 c' i' k' := by
  have : (c' == c && sl_hit c i k i' k') = false := by
    rw [Bool.and_eq_false_iff]
    by_cases h1 : c' = c
    · right
      have h2 : i' ≠ i ∨ k' ≠ k := by rcases h with h | h; exact absurd h1 h; exact h
      unfold sl_hit
      cases (c == 30) <;> rcases h2 with h2 | h2 <;> simp [h2]
    · left; simp [h1]
  simp only [sl_up, this, cond_false]
theorem up_2 (m : sl_M) (c i k : Nat) (x : Int32) : (sl_up m c i k x).2 = m.2 := rfl
theorem ob_some {α β : Type} (x : α) (f : α → Option β) : (some x).bind f = f x := of_eq_true (eq_self (f x))
