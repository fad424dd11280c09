/-! numbers in a ring; counts; frames' places; the relation's groups -/
theorem i_subadd {a b c : Nat} (h : b ≤ a + c) : sl_i a - sl_i b + sl_i c = sl_i (a + c - b) := by
  rw [← i_sub h, ← i_add, Int32.sub_eq_add_neg, Int32.sub_eq_add_neg, Int32.add_assoc, Int32.add_comm (-(sl_i b)), ← Int32.add_assoc]
theorem i_0sub (a b : Nat) (h : a ≤ b) : sl_i a - sl_i b = -(sl_i (b - a)) := by
  rw [← i_sub h, Int32.neg_sub]
theorem i_msb (x : Int32) : (sl_i 0 ≤ x) = (x.toBitVec.msb = false) := by
  apply propext
  rw [Int32.le_iff_toInt_le, show (sl_i 0).toInt = 0 from rfl, ← Int32.toInt_toBitVec, BitVec.msb_eq_toInt]
  simp
def y_md (a b s : Nat) : Nat := (a + s - b % s) % s
theorem y_md_lt (a b : Nat) {s : Nat} (h : 0 < s) : y_md a b s < s := Nat.mod_lt _ h
theorem y_md_ge {a b s : Nat} (hs : 0 < s) (h : b ≤ a) : y_md a b s = (a - b) % s := by
  unfold y_md
  have h1 : b = s * (b / s) + b % s := (Nat.div_add_mod b s).symm
  have h2 : b % s < s := Nat.mod_lt _ hs
  have h3 : a + s - b % s = (a - b) + s * (b / s + 1) := by rw [Nat.mul_add]; omega
  rw [h3, Nat.add_mul_mod_self_left]
theorem y_md_neg {a b s : Nat} (hs : 0 < s) (h : a < b) : y_md a b s = if (b - a) % s = 0 then 0 else s - (b - a) % s := by
  unfold y_md
  have h1 : b = s * (b / s) + b % s := (Nat.div_add_mod b s).symm
  have h2 : b % s < s := Nat.mod_lt _ hs
  have h4 : b - a = s * ((b - a) / s) + (b - a) % s := (Nat.div_add_mod (b - a) s).symm
  have h5 : (b - a) % s < s := Nat.mod_lt _ hs
  have h3 : a + s - b % s + s * ((b - a) / s) = (s - (b - a) % s) + s * (b / s) := by omega
  have h6 : (a + s - b % s) % s = (s - (b - a) % s) % s := by
    rw [← Nat.add_mul_mod_self_left (a + s - b % s) s ((b - a) / s), h3, Nat.add_mul_mod_self_left]
  rw [h6]
  by_cases h0 : (b - a) % s = 0
  · rw [if_pos h0, h0, Nat.sub_zero, Nat.mod_self]
  · rw [if_neg h0, Nat.mod_eq_of_lt (by omega)]
theorem y_fmod (m : sl_M) {a s : Nat} (ha : a < 2147483648) (hs : s < 2147483648) (h0 : 0 < s) : f_J9_floorMod_7cf53 (sl_i a) (sl_i s) m = some ((sl_i (a % s), 0, 0), m) := by
  rw [e_J9_floorMod_7cf53]
  have hx : a ^^^ s < 2147483648 := Nat.xor_lt_two_pow (n := 31) ha hs
  simp (disch := omega) only [i_lit, i_ofNat, i_add, i_mul, i_sub, i_addn, i_subm, y_nsm, i_le, i_lt, i_nat, i_eq, i_div, i_nle, i_nlt, i_len, i_ltn, i_neq, i_eqn, i_and1, i_and63, i_and255, b8_sx, ob_some, if_true, if_false, and_self, true_and, if_pos, if_neg, i_xor]
theorem y_fmodn (m : sl_M) {k s : Nat} (hk : k < 2147483648) (hk0 : 0 < k) (hs : s < 2147483648) (h0 : 0 < s) :
    f_J9_floorMod_7cf53 (-(sl_i k)) (sl_i s) m = some ((sl_i (if k % s = 0 then 0 else s - k % s), 0, 0), m) := by
  rw [e_J9_floorMod_7cf53]
  have hmod : k % s < s := Nat.mod_lt _ h0
  have hmk : k % s ≤ k := Nat.mod_le _ _
  have h1 : ((sl_i 0 ≤ -(sl_i k) ^^^ sl_i s)) = False := by
    rw [i_msb, Int32.toBitVec_xor, BitVec.msb_xor]
    have hA : (-(sl_i k)).toBitVec.msb = true := by
      have : ¬ (sl_i 0 ≤ -(sl_i k)) := by rw [i_nle (by omega) hk hk0]; exact fun h => h
      rw [i_msb] at this
      simpa using this
    have hB : (sl_i s).toBitVec.msb = false := by
      have : sl_i 0 ≤ sl_i s := by rw [i_le (by omega) hs]; omega
      rw [i_msb] at this
      exact this
    rw [hA, hB]; simp
  have hd : -(sl_i k) / sl_i s = -(sl_i (k / s)) := by
    apply Int32.toInt_inj.1
    have hle : k / s ≤ k := Nat.div_le_self _ _
    rw [Int32.toInt_div, i_ninj hk, i_toInt hs, i_ninj (by omega), Int.neg_tdiv, ← Int.ofNat_tdiv]
    generalize k / s = q at hle ⊢
    rw [Int.bmod_eq_of_le (by omega) (by omega)]
  have hm : -(sl_i k) - -(sl_i k) / sl_i s * sl_i s = -(sl_i (k % s)) := by
    rw [hd, Int32.neg_mul, i_mul, Int32.sub_neg, Int32.add_comm, ← Int32.sub_eq_add_neg, i_0sub _ _ (Nat.div_mul_le_self k s), ← Nat.mod_eq_sub_div_mul]
  rw [i_lit0, hm]
  simp (disch := omega) only [i_lit, i_ofNat, i_eq, h1, if_false, if_neg]
  by_cases hz : k % s = 0
  · rw [if_pos (by rw [hz]; rfl), if_pos hz, hz]; rfl
  · rw [if_neg, if_neg hz, Int32.add_comm, ← Int32.sub_eq_add_neg, i_sub (by omega)]
    intro h
    rw [i_eqn (by omega) (by omega) (by omega)] at h
    exact h
theorem y_inRing (m : sl_M) {a s : Nat} (hs : m.1 8 0 1 = sl_i s) (ha : a < 2147483648) (h0 : 0 < s) (h64 : s ≤ 64) :
    f_X8_inRing (sl_i a) m = some ((sl_i (a % s), 0, 0), m) := by
  rw [e_X8_inRing, hs]
  simp (disch := omega) only [i_lit, i_ofNat, i_add, i_mul, i_sub, i_addn, i_subm, y_nsm, i_le, i_lt, i_nat, i_eq, i_div, i_nle, i_nlt, i_len, i_ltn, i_neq, i_eqn, i_and1, i_and63, i_and255, b8_sx, ob_some, if_true, if_false, and_self, true_and, if_pos, if_neg]
  rw [y_fmod m ha (by omega) h0, ob_some]
theorem y_inRingd (m : sl_M) {a b s : Nat} (hs : m.1 8 0 1 = sl_i s) (ha : a < 2147483648) (hb : b < 2147483648) (h0 : 0 < s) (h64 : s ≤ 64) :
    f_X8_inRing (sl_i a - sl_i b) m = some ((sl_i (y_md a b s), 0, 0), m) := by
  by_cases h : b ≤ a
  · rw [i_sub h, y_inRing m hs (by omega) h0 h64, y_md_ge h0 h]
  · rw [e_X8_inRing, hs]
    simp (disch := omega) only [i_lit, i_le, if_neg]
    rw [i_0sub _ _ (by omega), y_fmodn m (by omega) (by omega) (by omega) h0, ob_some, y_md_neg h0 (by omega)]
theorem y_tally (m : sl_M) {k : Nat} (hk : k < 16) : f_X9_add (sl_i k) m = some ((sl_i 0, 0, 0), sl_up m 27 2 k (m.1 27 2 k + sl_i 1)) := by
  rw [e_X9_add]
  simp (disch := omega) only [i_lit, i_ofNat, i_add, i_mul, i_sub, i_addn, i_subm, y_nsm, i_le, i_lt, i_nat, i_eq, i_div, i_nle, i_nlt, i_len, i_ltn, i_neq, i_eqn, i_and1, i_and63, i_and255, b8_sx, ob_some, if_true, if_false, and_self, true_and, if_pos, if_neg]
theorem y_slot (m : sl_M) {e fi a : Nat} (hf : m.1 4 e 3 = sl_i fi) (h : fi + a < 1000) :
    f_X4_slot e (sl_i a) m = some ((sl_i 0, 40 * e + (fi + a) % 40, 0), m) := by
  rw [e_X4_slot, hf, i_add, show (40 : Int32) = sl_i 40 from rfl, y_fmod m (by omega) (by omega) (by omega)]
  have := Nat.mod_lt (fi + a) (show 0 < 40 by decide)
  simp (disch := omega) only [i_lit, i_ofNat, i_add, i_mul, i_sub, i_addn, i_subm, y_nsm, i_le, i_lt, i_nat, i_eq, i_div, i_nle, i_nlt, i_len, i_ltn, i_neq, i_eqn, i_and1, i_and63, i_and255, b8_sx, ob_some, if_true, if_false, and_self, true_and, if_pos, if_neg]
theorem y_nth (m : sl_M) {e fi n a : Nat} (hf : m.1 4 e 3 = sl_i fi) (hn : m.1 4 e 4 = sl_i n) (hn4 : n ≤ 40) (hfi : fi < 40) (h : a < n) :
    f_X4_nth e (sl_i a) m = some ((sl_i 0, 40 * e + (fi + a) % 40, 0), m) := by
  rw [e_X4_nth, hn]
  simp (disch := omega) only [i_lit, i_ofNat, i_add, i_mul, i_sub, i_addn, i_subm, y_nsm, i_le, i_lt, i_nat, i_eq, i_div, i_nle, i_nlt, i_len, i_ltn, i_neq, i_eqn, i_and1, i_and63, i_and255, b8_sx, ob_some, if_true, if_false, and_self, true_and, if_pos, if_neg]
  rw [y_slot m hf (by omega)]
  simp (disch := omega) only [i_lit, i_ofNat, i_add, i_mul, i_sub, i_addn, i_subm, y_nsm, i_le, i_lt, i_nat, i_eq, i_div, i_nle, i_nlt, i_len, i_ltn, i_neq, i_eqn, i_and1, i_and63, i_and255, b8_sx, ob_some, if_true, if_false, and_self, true_and, if_pos, if_neg]
theorem y_nthNo (m : sl_M) {e n a : Nat} (hn : m.1 4 e 4 = sl_i n) (hn4 : n ≤ 40) (ha : a < 2147483648) (h : n ≤ a) :
    f_X4_nth e (sl_i a) m = some ((sl_i 0, 0, 1), m) := by
  rw [e_X4_nth, hn]
  simp (disch := omega) only [i_lit, i_ofNat, i_add, i_mul, i_sub, i_addn, i_subm, y_nsm, i_le, i_lt, i_nat, i_eq, i_div, i_nle, i_nlt, i_len, i_ltn, i_neq, i_eqn, i_and1, i_and63, i_and255, b8_sx, ob_some, if_true, if_false, and_self, true_and, if_pos, if_neg]
/-! the relation, group by group; c: the class's memory, d: the model's -/
def y_gS (mo sp wi si ti : Nat) (c d : sl_M) : Prop :=
  (c.1 8 0 0 = sl_i mo ∧ c.1 8 0 1 = sl_i sp ∧ c.1 8 0 2 = sl_i wi ∧ c.1 8 0 3 = sl_i si ∧ c.1 8 0 4 = sl_i ti) ∧
  (d.1 11 0 9 = sl_i mo ∧ d.1 11 0 10 = sl_i sp ∧ d.1 11 0 11 = sl_i wi ∧ d.1 11 0 12 = sl_i si ∧ d.1 11 0 13 = sl_i ti) ∧
  mo ≤ 2 ∧ 2 ≤ sp ∧ sp ≤ 64 ∧ 1 ≤ wi ∧ (mo ≤ 1 → wi + 1 ≤ sp) ∧ (mo = 2 → 2 * wi ≤ sp) ∧ 1 ≤ si ∧ si ≤ 60 ∧ 1 ≤ ti ∧ ti ≤ 50
def y_gC (c d : sl_M) : Prop := ∀ k, k < 16 → c.1 27 2 k = d.1 68 0 k
def y_g3 (c d : sl_M) : Prop := ∀ k, k ≤ 2 → c.1 27 2 k = d.1 68 0 k
/-- one frame's place -/
def y_fr (f : Nat) (c d : sl_M) : Prop := ∃ len so nu lo ag : Nat,
  (c.1 6 (14 + f) 1 = sl_i len ∧ d.1 64 0 f = sl_i len ∧ len ≤ 67) ∧ (c.1 2 f 1 = sl_i so ∧ d.1 65 0 f = sl_i so) ∧ (c.1 2 f 2 = sl_i nu ∧ d.1 66 0 f = sl_i nu) ∧
  (c.1 2 f 3 = sl_i lo ∧ d.1 67 0 f = sl_i lo) ∧ (c.1 2 f 4 = sl_i ag ∧ d.1 73 0 f = sl_i ag ∧ ag ≤ 1) ∧
  (∀ j, j < len → y_rb c (14 + f) j = y_mb d 7 (80 * f + j)) ∧
  (len ≠ 0 → 3 ≤ len ∧ y_rb c (14 + f) (len - 1) = 0 ∧ ∀ j, j + 1 < len → y_rb c (14 + f) j ≠ 0) ∧
  (so = 1 → len ≠ 0 → 2 ≤ y_rb c (14 + f) 0 ∧ 64 ≤ y_rb c (14 + f) 1 ∧ y_rb c (14 + f) 1 < 128) ∧ so < 256
def y_gL (e fi n : Nat) (c d : sl_M) : Prop :=
  (c.1 4 e 3 = sl_i fi ∧ d.1 62 0 e = sl_i fi ∧ fi < 40) ∧ (c.1 4 e 4 = sl_i n ∧ d.1 63 0 e = sl_i n ∧ n ≤ 40) ∧
  (∀ j, j < n → c.1 6 (14 + (40 * e + (fi + j) % 40)) 1 ≠ sl_i 0) ∧ (∀ j, j < 40 → y_fr (40 * e + j) c d)
/-- where the class keeps lane e, and the model -/
def y_zF (e k w p : Nat) : Prop := (k = 4 ∧ w = e) ∨ (k = 2 ∧ 40 * e ≤ w ∧ w < 40 * e + 40) ∨ ((k = 20 ∨ (k = 6 ∧ p = 1)) ∧ 14 + 40 * e ≤ w ∧ w < 14 + 40 * e + 40)
def y_zFd (e k w p : Nat) : Prop := ((k = 62 ∨ k = 63) ∧ w = 0 ∧ p = e) ∨ ((k = 64 ∨ k = 65 ∨ k = 66 ∨ k = 67 ∨ k = 73) ∧ w = 0 ∧ 40 * e ≤ p ∧ p < 40 * e + 40) ∨ (k = 30 ∧ w = 7 ∧ 3200 * e ≤ p ∧ p < 3200 * e + 3200)
theorem y_fr_cong {f : Nat} {c d c' d' : sl_M} (h : y_fr f c d)
    (h1 : c'.1 6 (14 + f) 1 = c.1 6 (14 + f) 1) (h2 : ∀ p, c'.1 2 f p = c.1 2 f p) (h3 : ∀ j, c'.1 20 (14 + f) j = c.1 20 (14 + f) j)
    (h4 : ∀ k, k = 64 ∨ k = 65 ∨ k = 66 ∨ k = 67 ∨ k = 73 → d'.1 k 0 f = d.1 k 0 f) (h5 : ∀ j, j < 80 → d'.1 30 7 (80 * f + j) = d.1 30 7 (80 * f + j)) : y_fr f c' d' := by
  obtain ⟨len, so, nu, lo, ag, a1, a2, a3, a4, a5, a6, a7, a8, a9⟩ := h
  have hr : ∀ j, y_rb c' (14 + f) j = y_rb c (14 + f) j := fun j => by unfold y_rb; rw [h3]
  have hm : ∀ j, j < 80 → y_mb d' 7 (80 * f + j) = y_mb d 7 (80 * f + j) := fun j hj => by unfold y_mb; rw [h5 j hj]
  refine ⟨len, so, nu, lo, ag, ⟨by rw [h1]; exact a1.1, by rw [h4 _ (by omega)]; exact a1.2.1, a1.2.2⟩, ⟨by rw [h2]; exact a2.1, by rw [h4 _ (by omega)]; exact a2.2⟩,
    ⟨by rw [h2]; exact a3.1, by rw [h4 _ (by omega)]; exact a3.2⟩, ⟨by rw [h2]; exact a4.1, by rw [h4 _ (by omega)]; exact a4.2⟩,
    ⟨by rw [h2]; exact a5.1, by rw [h4 _ (by omega)]; exact a5.2.1, a5.2.2⟩, ?_, ?_, ?_, a9⟩
  · intro j hj; rw [hr, hm j (by omega)]; exact a6 j hj
  · intro hl
    obtain ⟨b1, b2, b3⟩ := a7 hl
    exact ⟨b1, by rw [hr]; exact b2, fun j hj => by rw [hr]; exact b3 j hj⟩
  · intro hs hl
    rw [hr, hr]; exact a8 hs hl
theorem y_gL_cong {e fi n : Nat} {c d c' d' : sl_M} {S T : Nat → Nat → Nat → Prop} (h : y_gL e fi n c d) (he : e < 2) (hc : y_sm S c c') (hd : y_sm T d d')
    (hS : ∀ k w p, y_zF e k w p → ¬ S k w p) (hT : ∀ k w p, y_zFd e k w p → ¬ T k w p) : y_gL e fi n c' d' := by
  obtain ⟨a1, a2, a3, a4⟩ := h
  have q : ∀ k w p, y_zF e k w p → c'.1 k w p = c.1 k w p := fun k w p h => hc.2 k w p (hS k w p h)
  have r : ∀ k w p, y_zFd e k w p → d'.1 k w p = d.1 k w p := fun k w p h => hd.2 k w p (hT k w p h)
  refine ⟨⟨by rw [q _ _ _ (by unfold y_zF; omega)]; exact a1.1, by rw [r _ _ _ (by unfold y_zFd; omega)]; exact a1.2.1, a1.2.2⟩,
    ⟨by rw [q _ _ _ (by unfold y_zF; omega)]; exact a2.1, by rw [r _ _ _ (by unfold y_zFd; omega)]; exact a2.2.1, a2.2.2⟩, ?_, ?_⟩
  · intro j hj
    rw [q _ _ _ (by unfold y_zF; omega)]; exact a3 j hj
  · intro j hj
    refine y_fr_cong (a4 j hj) (q _ _ _ (by unfold y_zF; omega)) (fun p => q _ _ _ (by unfold y_zF; omega)) (fun p => q _ _ _ (by unfold y_zF; omega)) ?_ ?_
    · intro k hk; exact r _ _ _ (by unfold y_zFd; omega)
    · intro i hi; exact r _ _ _ (by unfold y_zFd; omega)
