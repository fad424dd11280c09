/-! the check: bit by bit (class) and by halves of bytes (model) -/
def y_cb (u : BitVec 32) : BitVec 32 := (u >>> 1) ^^^ (bif u.getLsbD 0 then 0xEDB88320#32 else 0#32)
def y_cs (x : Int32) : Int32 := Int32.ofBitVec (y_cb x.toBitVec)
def y_c4 (u : BitVec 32) : BitVec 32 := y_cb (y_cb (y_cb (y_cb u)))
def y_c8 (x : Int32) : Int32 := y_cs (y_cs (y_cs (y_cs (y_cs (y_cs (y_cs (y_cs x)))))))
theorem y_cb_xor (a b : BitVec 32) : y_cb (a ^^^ b) = y_cb a ^^^ y_cb b := by
  unfold y_cb
  rw [BitVec.ushiftRight_xor_distrib, BitVec.getLsbD_xor]
  have : (bif (a.getLsbD 0 ^^ b.getLsbD 0) then 0xEDB88320#32 else 0#32) = (bif a.getLsbD 0 then 0xEDB88320#32 else 0#32) ^^^ (bif b.getLsbD 0 then 0xEDB88320#32 else 0#32) := by
    cases a.getLsbD 0 <;> cases b.getLsbD 0 <;> decide
  rw [this]; ac_rfl
theorem y_c4_xor (a b : BitVec 32) : y_c4 (a ^^^ b) = y_c4 a ^^^ y_c4 b := by unfold y_c4; simp only [y_cb_xor]
theorem y_cb_even (u : BitVec 32) (h : u.getLsbD 0 = false) : y_cb u = u >>> 1 := by unfold y_cb; rw [h]; simp
theorem y_c4_high (u : BitVec 32) : y_c4 (u &&& 0xFFFFFFF0#32) = u >>> 4 := by
  have hb : ∀ j, (u &&& 0xFFFFFFF0#32).getLsbD j = (u.getLsbD j && (0xFFFFFFF0#32).getLsbD j) := fun j => BitVec.getLsbD_and
  unfold y_c4
  rw [y_cb_even (u &&& 0xFFFFFFF0#32) (by rw [hb]; simp), y_cb_even ((u &&& 0xFFFFFFF0#32) >>> 1) (by rw [BitVec.getLsbD_ushiftRight, hb]; simp),
    y_cb_even ((u &&& 0xFFFFFFF0#32) >>> 1 >>> 1) (by rw [BitVec.getLsbD_ushiftRight, BitVec.getLsbD_ushiftRight, hb]; simp),
    y_cb_even ((u &&& 0xFFFFFFF0#32) >>> 1 >>> 1 >>> 1) (by rw [BitVec.getLsbD_ushiftRight, BitVec.getLsbD_ushiftRight, BitVec.getLsbD_ushiftRight, hb]; simp)]
  apply BitVec.eq_of_getLsbD_eq
  intro j hj
  simp only [BitVec.getLsbD_ushiftRight, hb]
  have h28 : ∀ i : Fin 28, (0xFFFFFFF0#32).getLsbD (1 + (1 + (1 + (1 + i.val)))) = true := by decide
  rw [show 1 + (1 + (1 + (1 + j))) = 4 + j by omega] at *
  by_cases h : j < 28
  · have := h28 ⟨j, h⟩
    simp only at this
    rw [show 1 + (1 + (1 + (1 + j))) = 4 + j by omega] at this
    rw [this, Bool.and_true]
  · rw [BitVec.getLsbD_of_ge u (4 + j) (by omega)]; rfl
theorem y_c4_split (u : BitVec 32) : y_c4 u = (u >>> 4) ^^^ y_c4 (u &&& 15#32) := by
  have : u = (u &&& 0xFFFFFFF0#32) ^^^ (u &&& 15#32) := by
    apply BitVec.eq_of_getLsbD_eq
    intro j hj
    rw [BitVec.getLsbD_xor, BitVec.getLsbD_and, BitVec.getLsbD_and]
    have h : ∀ i : Fin 32, (0xFFFFFFF0#32).getLsbD i.val = !(15#32).getLsbD i.val := by decide
    rw [h ⟨j, hj⟩]
    cases u.getLsbD j <;> cases (15#32).getLsbD j <;> rfl
  rw (config := {occs := .pos [1]}) [this]
  rw [y_c4_xor, y_c4_high]
def y_n15 (y : Int32) : Nat := y.toBitVec.toNat % 16
theorem i_and15' (x : Int32) : x &&& sl_i 15 = sl_i (y_n15 x) := by
  apply Int32.toBitVec_inj.1
  apply BitVec.eq_of_toNat_eq
  rw [Int32.toBitVec_and, i_bv, BitVec.toNat_and, BitVec.toNat_ofNat, show 15 % 2 ^ 32 = 2 ^ 4 - 1 from rfl, Nat.and_two_pow_sub_one_eq_mod]
  unfold y_n15
  rw [i_lt32 (by omega)]
theorem y_n15_lt (y : Int32) : y_n15 y < 16 := Nat.mod_lt _ (by decide)
theorem y_n15_lt' (y : Int32) : (y_n15 y < 16) = True := eq_true (y_n15_lt y)
theorem y_n15_nat (y : Int32) : (sl_i (y_n15 y)).toNatClampNeg = y_n15 y := i_nat (by have := y_n15_lt y; omega)
theorem y_n15_le (y : Int32) : (sl_i 0 ≤ sl_i (y_n15 y)) = True := by rw [i_le (by omega) (by have := y_n15_lt y; omega)]; exact eq_true (Nat.zero_le _)
theorem y_n15_bv (y : Int32) : BitVec.ofNat 32 (y_n15 y) = y.toBitVec &&& 15#32 := by
  apply BitVec.eq_of_toNat_eq
  rw [BitVec.toNat_and, BitVec.toNat_ofNat, show (15#32).toNat = 2 ^ 4 - 1 from rfl, Nat.and_two_pow_sub_one_eq_mod]
  unfold y_n15; omega
/-- the table of halves -/
def y_hv (m : sl_M) : Prop := ∀ k, k < 16 → (m.1 50 0 k).toBitVec = y_c4 (BitVec.ofNat 32 k)
theorem y_b8_bv (x : Int32) : BitVec.ofNat 32 (sl_b8 x) = x.toBitVec &&& 255#32 := by
  rw [show BitVec.ofNat 32 (sl_b8 x) = (sl_i (sl_b8 x)).toBitVec from rfl, ← i_and255]; rfl
theorem y_n4 : ∀ i : Fin 4, (15#32).getLsbD i.val = true ∧ (255#32).getLsbD i.val = true ∧ (255#32).getLsbD (4 + i.val) = true := by decide
theorem y_n28 : ∀ i : Fin 28, (15#32).getLsbD (4 + i.val) = false := by decide
theorem y_crc_a (v x : Int32) : (v ^^^ sl_sx x).toBitVec &&& 15#32 = (v.toBitVec ^^^ BitVec.ofNat 32 (sl_b8 x)) &&& 15#32 := by
  rw [y_b8_bv]
  apply BitVec.eq_of_getLsbD_eq
  intro j hj
  rw [BitVec.getLsbD_and, BitVec.getLsbD_and, Int32.toBitVec_xor, BitVec.getLsbD_xor, BitVec.getLsbD_xor, BitVec.getLsbD_and, sx_bit]
  by_cases h : j < 4
  · have h1 := y_n4 ⟨j, h⟩
    have h2 : j < 8 := by omega
    have h3 : j < 32 := by omega
    simp only at h1
    rw [h1.2.1]; simp [h2, h3]
  · have h1 := y_n28 ⟨j - 4, by omega⟩
    simp only at h1
    rw [show 4 + (j - 4) = j by omega] at h1
    rw [h1]; simp
theorem y_crc_b (w x : Int32) : (w ^^^ (sl_sx x >>> (sl_i 4 &&& sl_i 31))).toBitVec &&& 15#32 = (w.toBitVec ^^^ (BitVec.ofNat 32 (sl_b8 x) >>> 4)) &&& 15#32 := by
  rw [y_b8_bv]
  apply BitVec.eq_of_getLsbD_eq
  intro j hj
  rw [BitVec.getLsbD_and, BitVec.getLsbD_and, Int32.toBitVec_xor, BitVec.getLsbD_xor, BitVec.getLsbD_xor, BitVec.getLsbD_ushiftRight, BitVec.getLsbD_and, shr_bv _ (by omega), BitVec.getLsbD_sshiftRight, sx_bit]
  by_cases h : j < 4
  · have h1 := y_n4 ⟨j, h⟩
    have h2 : 4 + j < 8 := by omega
    have h3 : 4 + j < 32 := by omega
    have h4 : ¬ (32 ≤ j) := by omega
    simp only at h1
    rw [h1.2.2]; simp [h2, h3, h4]
  · have h1 := y_n28 ⟨j - 4, by omega⟩
    simp only at h1
    rw [show 4 + (j - 4) = j by omega] at h1
    rw [h1]; simp
theorem y_crc_step (m : sl_M) (hv : y_hv m) (v x : Int32) :
    sl_ush (sl_ush v (sl_i 4) ^^^ m.1 50 0 (y_n15 (v ^^^ sl_sx x))) (sl_i 4) ^^^ m.1 50 0 (y_n15 ((sl_ush v (sl_i 4) ^^^ m.1 50 0 (y_n15 (v ^^^ sl_sx x))) ^^^ (sl_sx x >>> (sl_i 4 &&& sl_i 31)))) = y_c8 (v ^^^ sl_i (sl_b8 x)) := by
  apply Int32.toBitVec_inj.1
  have h8 : (y_c8 (v ^^^ sl_i (sl_b8 x))).toBitVec = y_c4 (y_c4 (v.toBitVec ^^^ BitVec.ofNat 32 (sl_b8 x))) := rfl
  rw [h8, y_c4_split (v.toBitVec ^^^ _), Int32.toBitVec_xor, ush_bv _ (by omega), Int32.toBitVec_xor, ush_bv _ (by omega)]
  rw [hv _ (y_n15_lt _), hv _ (y_n15_lt _), y_n15_bv, y_n15_bv, y_crc_a, y_crc_b, Int32.toBitVec_xor, ush_bv _ (by omega), hv _ (y_n15_lt _), y_n15_bv, y_crc_a]
  generalize y_c4 ((v.toBitVec ^^^ BitVec.ofNat 32 (sl_b8 x)) &&& 15#32) = t
  rw [BitVec.ushiftRight_xor_distrib v.toBitVec (BitVec.ofNat 32 (sl_b8 x)) 4, show v.toBitVec >>> 4 ^^^ BitVec.ofNat 32 (sl_b8 x) >>> 4 ^^^ t = (v.toBitVec >>> 4 ^^^ t) ^^^ (BitVec.ofNat 32 (sl_b8 x) >>> 4) by ac_rfl]
  rw [y_c4_split ((v.toBitVec >>> 4 ^^^ t) ^^^ _)]
  congr 1
  rw [BitVec.ushiftRight_xor_distrib (v.toBitVec >>> 4 ^^^ t)]
  have hz : BitVec.ofNat 32 (sl_b8 x) >>> 4 >>> 4 = 0#32 := by
    apply BitVec.eq_of_toNat_eq
    have := b8_lt x
    rw [BitVec.toNat_ushiftRight, BitVec.toNat_ushiftRight, BitVec.toNat_ofNat, Nat.shiftRight_eq_div_pow, Nat.shiftRight_eq_div_pow]
    simp; omega
  rw [hz]; simp
theorem y_cs_eq (x : Int32) : (if (x &&& sl_i 1) = sl_i 0 then sl_ush x (sl_i 1) else (sl_ush x (sl_i 1)) ^^^ (-(sl_i 306674912))) = y_cs x := by
  have h1 : (x &&& sl_i 1 = sl_i 0) = (x.toBitVec.getLsbD 0 = false) := by
    apply propext
    rw [← Int32.toBitVec_inj, Int32.toBitVec_and, i_bv, i_bv]
    constructor
    · intro h
      have := congrArg (fun z => z.getLsbD 0) h
      simpa using this
    · intro h
      apply BitVec.eq_of_getLsbD_eq
      intro j hj
      rw [BitVec.getLsbD_and]
      by_cases h0 : j = 0
      · subst h0; rw [h]; simp
      · have : (BitVec.ofNat 32 1).getLsbD j = false := by
          rw [BitVec.getLsbD_ofNat, show (1 : Nat) = 2 ^ 1 - 1 from rfl, Nat.testBit_two_pow_sub_one]
          simp; omega
        rw [this]; simp
  apply Int32.toBitVec_inj.1
  unfold y_cs y_cb
  rw [Int32.toBitVec_ofBitVec]
  by_cases h : x.toBitVec.getLsbD 0 = false
  · rw [if_pos (h1 ▸ h), h, ush_bv _ (by omega)]; simp
  · rw [if_neg (fun h2 => h (h1 ▸ h2)), Int32.toBitVec_xor, ush_bv _ (by omega)]
    have : x.toBitVec.getLsbD 0 = true := by simpa using h
    rw [this]; rfl
/-- the check of n bytes of a row of bytes -/
def y_crc (g : Nat → Nat) : Nat → Int32
  | 0 => -(sl_i 1)
  | n + 1 => y_c8 (y_crc g n ^^^ sl_i (g n))
theorem y_crc_ext {g h : Nat → Nat} : ∀ n, (∀ i, i < n → g i = h i) → y_crc g n = y_crc h n
  | 0, _ => rfl
  | n + 1, e => by rw [y_crc, y_crc, y_crc_ext n (fun i hi => e i (by omega)), e n (by omega)]
/-! class -/
theorem y_at_in {m : sl_M} {r i L : Nat} (hl : m.1 6 r 1 = sl_i L) (hi : i < L) (hc : L ≤ sl_lr r) (hb : sl_lr r < 2147483648) :
    f_X6_at r (sl_i i) m = some ((sl_i (sl_b8 (m.1 20 r i)), 0, 0), m) := by
  rw [e_X6_at, hl]
  simp (disch := omega) only [i_lit, i_ofNat, i_lt, i_le, i_nat, if_neg, if_pos, i_and255, b8_sx]
theorem y_at_out {m : sl_M} {r i L : Nat} (hl : m.1 6 r 1 = sl_i L) (hi : L ≤ i) (hc : L ≤ sl_lr r) (hb : sl_lr r < 2147483648) (hi2 : i < 2147483648) :
    f_X6_at r (sl_i i) m = some ((-(sl_i 1), 0, 0), m) := by
  rw [e_X6_at, hl]
  simp (disch := omega) only [i_lit, i_ofNat, i_lt, i_le, i_nat, if_neg, if_pos]
theorem y_at_neg {m : sl_M} {r : Nat} {x : Int32} (hx : x < 0) : f_X6_at r x m = some ((-(sl_i 1), 0, 0), m) := by
  rw [e_X6_at, if_pos hx]; rfl
theorem y_lr_lt (r : Nat) : sl_lr r < 2147483648 := by
  unfold sl_lr
  split
  all_goals first | decide | skip
  cases Nat.ble 14 r <;> simp <;> (try split) <;> decide
def y_it : Nat → Int32 → Int32
  | 0, x => x
  | n + 1, x => y_it n (y_cs x)
theorem y_it8 (x : Int32) : y_it 8 x = y_c8 x := by
  simp only [y_it, y_c8]
theorem y_ck20 (v0 : Nat) (n i : Nat) (m : sl_M) : ∀ k j fuel v, j + k = 8 →
    b_X0_checkOf_20 (fuel + k + 1) v0 (sl_i n) v (sl_i i) (sl_i j) m = b_X0_checkOf_4 fuel v0 (sl_i n) (y_it k v) (sl_i (i + 1)) m := by
  intro k
  induction k with
  | zero =>
    intro j fuel v hj
    rw [e_X0_checkOf_20]
    simp (disch := omega) only [i_lit, i_le, if_pos, i_add, y_it, Nat.add_zero]
  | succ k ih =>
    intro j fuel v hj
    rw [e_X0_checkOf_20]
    simp (disch := omega) only [i_lit, i_le, if_neg, i_add]
    rw [show fuel + (k + 1) = fuel + k + 1 by omega]
    rw [ih (j + 1) fuel _ (by omega), ih (j + 1) fuel _ (by omega)]
    rw [show y_it (k + 1) v = y_it k (y_cs v) from rfl, ← y_cs_eq v]
    by_cases h : v &&& sl_i 1 = sl_i 0
    · simp only [if_pos h]
    · simp only [if_neg h]
theorem y_ck4 (r : Nat) (n L : Nat) (m : sl_M) (hl : m.1 6 r 1 = sl_i L) (hn : n ≤ L) (hc : L ≤ sl_lr r) (hL : L ≤ 4000) : ∀ k i fuel, i + k = n → 10 * k < fuel →
    b_X0_checkOf_4 fuel r (sl_i n) (y_crc (fun j => sl_b8 (m.1 20 r j)) i) (sl_i i) m = some ((y_crc (fun j => sl_b8 (m.1 20 r j)) n ^^^ (-(sl_i 1)), 0, 0), m) := by
  intro k
  have hb := y_lr_lt r
  induction k with
  | zero =>
    intro i fuel hi hf
    obtain ⟨f2, rfl⟩ : ∃ f2, fuel = f2 + 1 := ⟨fuel - 1, by omega⟩
    have : i = n := by omega
    subst this
    rw [e_X0_checkOf_4]
    simp (disch := omega) only [i_lit, i_le, if_pos]
  | succ k ih =>
    intro i fuel hi hf
    obtain ⟨f2, rfl⟩ : ∃ f2, fuel = f2 + 8 + 1 + 1 := ⟨fuel - 10, by omega⟩
    rw [e_X0_checkOf_4, y_at_in hl (by omega) hc hb]
    simp (disch := omega) only [i_lit, i_le, if_neg, ob_some]
    rw [y_ck20 r n i m 8 0 f2 _ (by omega)]
    have := ih (i + 1) f2 (by omega) (by omega)
    rw [y_crc] at this
    rw [y_it8]
    exact this
theorem y_ckX0 (r : Nat) (n L : Nat) (m : sl_M) (hl : m.1 6 r 1 = sl_i L) (hn : n ≤ L) (hc : L ≤ sl_lr r) (hL : L ≤ 4000) :
    f_X0_checkOf r (sl_i n) m = some ((y_crc (fun j => sl_b8 (m.1 20 r j)) n ^^^ (-(sl_i 1)), 0, 0), m) := by
  rw [e_X0_checkOf]
  exact y_ck4 r n L m hl hn hc hL n 0 99999 (by omega) (by omega)
/-! model -/
theorem y_lb_lt (r : Nat) : sl_lb r < 2147483648 := by
  unfold sl_lb
  split <;> decide
theorem y_ck6 (w o n : Nat) (m : sl_M) (hv : y_hv m) (ho : o + n ≤ sl_lb w) : ∀ k i fuel, i + k = n → k < fuel →
    b_X11_checkOf_6 fuel w (sl_i o) (sl_i n) (y_crc (fun j => sl_b8 (m.1 30 w (o + j))) i) (sl_i i) m = some ((y_crc (fun j => sl_b8 (m.1 30 w (o + j))) n ^^^ (-(sl_i 1)), 0, 0), m) := by
  intro k
  have hb := y_lb_lt w
  induction k with
  | zero =>
    intro i fuel hi hf
    obtain ⟨f2, rfl⟩ : ∃ f2, fuel = f2 + 1 := ⟨fuel - 1, by omega⟩
    have : i = n := by omega
    subst this
    rw [e_X11_checkOf_6]
    simp (disch := omega) only [i_lit, i_le, if_pos]
  | succ k ih =>
    intro i fuel hi hf
    obtain ⟨f2, rfl⟩ : ∃ f2, fuel = f2 + 1 := ⟨fuel - 1, by omega⟩
    rw [e_X11_checkOf_6]
    simp (disch := omega) only [i_lit, i_le, i_nat, i_add, if_neg]
    simp only [i_and15', y_n15_nat, y_n15_le, y_n15_lt', and_self, if_true, y_crc_step m hv]
    rw [if_pos (by omega)]
    exact ih (i + 1) f2 (by omega) (by omega)
theorem y_ckX11 (w o n : Nat) (m : sl_M) (hv : y_hv m) (ho : o + n ≤ sl_lb w) (hn : n < 9000) :
    f_X11_checkOf w (sl_i o) (sl_i n) m = some ((y_crc (fun j => sl_b8 (m.1 30 w (o + j))) n ^^^ (-(sl_i 1)), 0, 0), m) := by
  rw [e_X11_checkOf]
  exact y_ck6 w o n m hv ho n 0 99999 (by omega) (by omega)
