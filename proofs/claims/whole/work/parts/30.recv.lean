/-! the receiving half of an end -/
theorem y_modadd {s i : Nat} (W : Nat) (hi : i < s) : (W + i) % s = if W % s + i < s then W % s + i else W % s + i - s := by
  have hs : 0 < s := by omega
  have h2 : W % s < s := Nat.mod_lt _ hs
  have h1 : W + i = (W % s + i) + s * (W / s) := by have := Nat.div_add_mod W s; omega
  rw [h1, Nat.add_mul_mod_self_left]
  split
  · exact Nat.mod_eq_of_lt (by omega)
  · rw [Nat.mod_eq_sub_mod (by omega), Nat.mod_eq_of_lt (by omega)]
theorem y_modinj {s i j : Nat} (W : Nat) (hi : i < s) (hj : j < s) (h : (W + i) % s = (W + j) % s) : i = j := by
  have h2 : W % s < s := Nat.mod_lt _ (by omega)
  rw [y_modadd W hi, y_modadd W hj] at h
  split at h <;> split at h <;> omega
theorem y_mdW {a W s : Nat} (ha : a < s) : (W + y_md a W s) % s = a := by
  have h2 : W % s < s := Nat.mod_lt _ (by omega)
  have h3 : y_md a W s = if W % s ≤ a then a - W % s else a + s - W % s := by
    unfold y_md
    split
    · rw [show a + s - W % s = (a - W % s) + s by omega, Nat.add_mod_right, Nat.mod_eq_of_lt (by omega)]
    · exact Nat.mod_eq_of_lt (by omega)
  rw [y_modadd W (y_md_lt a W (by omega)), h3]
  split <;> split <;> omega
theorem y_md0 {a W s : Nat} (ha : a < s) : y_md a W s = 0 ↔ a = W % s := by
  have h2 : W % s < s := Nat.mod_lt _ (by omega)
  have h3 : y_md a W s = if W % s ≤ a then a - W % s else a + s - W % s := by
    unfold y_md
    split
    · rw [show a + s - W % s = (a - W % s) + s by omega, Nat.add_mod_right, Nat.mod_eq_of_lt (by omega)]
    · exact Nat.mod_eq_of_lt (by omega)
  rw [h3]; split <;> omega
def y_zR (e k w p : Nat) : Prop := (k = 5 ∧ w = e) ∨ (k = 27 ∧ w = e) ∨ (((k = 6 ∧ p = 1) ∨ k = 20) ∧ (w = 6 + e ∨ w = 8 + e))
def y_zRd (e k w p : Nat) : Prop := ((k = 52 ∨ k = 57) ∧ w = 0 ∧ p = e) ∨ ((k = 60 ∨ k = 71) ∧ w = 0 ∧ 64 * e ≤ p ∧ p < 64 * e + 64) ∨ (k = 30 ∧ w = 4 ∧ 3000 * e ≤ p ∧ p < 3000 * e + 3000) ∨ (k = 30 ∧ w = 5 ∧ 3840 * e ≤ p ∧ p < 3840 * e + 3840)
/-- what is held i behind the piece wanted -/
def y_hd (e sp si W i : Nat) (c d : sl_M) : Prop := ∃ sz, c.1 27 e ((W + i) % 64) = sl_i sz ∧ sz ≤ si ∧ d.1 71 0 (64 * e + (W + i) % sp) = sl_i (if sz = 0 then 0 else 1) ∧
  (sz ≠ 0 → d.1 60 0 (64 * e + (W + i) % sp) = sl_i sz ∧ ∀ j, j < sz → y_rb c (8 + e) (60 * ((W + i) % 64) + j) = y_mb d 5 (60 * (64 * e + (W + i) % sp) + j))
def y_gRx (e sp wi si W T : Nat) (c d : sl_M) : Prop :=
  (c.1 5 e 4 = sl_i W ∧ d.1 57 0 e = sl_i W ∧ W ≤ T) ∧ (c.1 6 (6 + e) 1 = sl_i T ∧ d.1 52 0 e = sl_i T ∧ T ≤ 3000 ∧ ∀ j, j < T → y_rb c (6 + e) j = y_mb d 4 (3000 * e + j)) ∧
  c.1 6 (8 + e) 1 = sl_i 3840 ∧ (∀ i, i < wi → y_hd e sp si W i c d) ∧
  (∀ s, s < 64 → (∀ i, i < wi → s ≠ (W + i) % 64) → c.1 27 e s = sl_i 0) ∧ (∀ k, k < 64 → (∀ i, i < wi → k ≠ (W + i) % sp) → d.1 71 0 (64 * e + k) = sl_i 0)
/-- the wanted one doesn't fit, if it is held -/
def y_rest (e T W : Nat) (c : sl_M) : Prop := ∀ sz, sz ≤ 60 → c.1 27 e (W % 64) = sl_i sz → sz ≠ 0 → 3000 < T + sz
theorem y_hd_cong {e sp si W i : Nat} {c d c' d' : sl_M} (h : y_hd e sp si W i c d) (h1 : c'.1 27 e ((W + i) % 64) = c.1 27 e ((W + i) % 64))
    (h2 : ∀ k, k = 60 ∨ k = 71 → d'.1 k 0 (64 * e + (W + i) % sp) = d.1 k 0 (64 * e + (W + i) % sp))
    (h3 : ∀ j, j < 60 → y_rb c' (8 + e) (60 * ((W + i) % 64) + j) = y_rb c (8 + e) (60 * ((W + i) % 64) + j))
    (h4 : ∀ j, j < 60 → y_mb d' 5 (60 * (64 * e + (W + i) % sp) + j) = y_mb d 5 (60 * (64 * e + (W + i) % sp) + j)) (hsi : si ≤ 60) : y_hd e sp si W i c' d' := by
  obtain ⟨sz, a1, a2, a3, a4⟩ := h
  refine ⟨sz, by rw [h1]; exact a1, a2, by rw [h2 _ (by omega)]; exact a3, fun hz => ⟨by rw [h2 _ (by omega)]; exact (a4 hz).1, fun j hj => ?_⟩⟩
  rw [h3 j (by omega), h4 j (by omega)]; exact (a4 hz).2 j hj
theorem y_gRx_cong {e sp wi si W T : Nat} {c d c' d' : sl_M} {S U : Nat → Nat → Nat → Prop} (h : y_gRx e sp wi si W T c d) (he : e < 2) (hsp : sp ≤ 64) (hsp0 : 0 < sp) (hsi : si ≤ 60) (hc : y_sm S c c') (hd : y_sm U d d')
    (hS : ∀ k w p, y_zR e k w p → ¬ S k w p) (hU : ∀ k w p, y_zRd e k w p → ¬ U k w p) : y_gRx e sp wi si W T c' d' := by
  obtain ⟨a1, a2, a3, a4, a5, a6⟩ := h
  have q : ∀ k w p, y_zR e k w p → c'.1 k w p = c.1 k w p := fun k w p h => hc.2 k w p (hS k w p h)
  have r : ∀ k w p, y_zRd e k w p → d'.1 k w p = d.1 k w p := fun k w p h => hd.2 k w p (hU k w p h)
  refine ⟨⟨?_, ?_, a1.2.2⟩, ⟨?_, ?_, a2.2.2.1, ?_⟩, ?_, ?_, ?_, ?_⟩
  · rw [q _ _ _ (by unfold y_zR; omega)]; exact a1.1
  · rw [r _ _ _ (by unfold y_zRd; omega)]; exact a1.2.1
  · rw [q _ _ _ (by unfold y_zR; omega)]; exact a2.1
  · rw [r _ _ _ (by unfold y_zRd; omega)]; exact a2.2.1
  · intro j hj
    have e1 : y_rb c' (6 + e) j = y_rb c (6 + e) j := by unfold y_rb; rw [q _ _ _ (by unfold y_zR; omega)]
    have e2 : y_mb d' 4 (3000 * e + j) = y_mb d 4 (3000 * e + j) := by unfold y_mb; rw [r _ _ _ (by unfold y_zRd; omega)]
    rw [e1, e2]; exact a2.2.2.2 j hj
  · rw [q _ _ _ (by unfold y_zR; omega)]; exact a3
  · intro i hi
    have hm : (W + i) % sp < sp := Nat.mod_lt _ hsp0
    refine y_hd_cong (a4 i hi) (q _ _ _ (by unfold y_zR; omega)) (fun k hk => r _ _ _ (by unfold y_zRd; omega)) ?_ ?_ hsi
    · intro j hj; unfold y_rb; rw [q _ _ _ (by unfold y_zR; omega)]
    · intro j hj; unfold y_mb; rw [r _ _ _ (by unfold y_zRd; omega)]
  · intro s hs h; rw [q _ _ _ (by unfold y_zR; omega)]; exact a5 s hs h
  · intro k hk h; rw [r _ _ _ (by unfold y_zRd; omega)]; exact a6 k hk h
/-! a load is taken -/
theorem y_gets20 (e w o n W T : Nat) (he : e < 2) (hw : w ≠ 4) (ho : o + n ≤ sl_lb w) (hT : T + n ≤ 3000) : ∀ k i fuel (d : sl_M), i + k = n → d.1 52 0 e = sl_i T → d.1 57 0 e = sl_i W →
    ∃ d', b_X11_getsAll_20 (fuel + k + 1) (sl_i e) w (sl_i o) (sl_i n) (sl_i i) d = some ((sl_i 1, 0, 0), d') ∧ d'.1 52 0 e = sl_i (T + n) ∧ d'.1 57 0 e = sl_i (W + 1) ∧
      (∀ j, i ≤ j → j < n → y_mb d' 4 (3000 * e + (T + j)) = y_mb d w (o + j)) ∧
      y_sm (fun k w p => ((k = 52 ∨ k = 57) ∧ w = 0 ∧ p = e) ∨ (k = 30 ∧ w = 4 ∧ 3000 * e + T + i ≤ p ∧ p < 3000 * e + T + n)) d d' := by
  have hb := y_lb_lt w
  intro k
  induction k with
  | zero =>
    intro i fuel d hi h52 h57
    have : i = n := by omega
    subst this
    refine ⟨sl_up (sl_up d 52 0 e (sl_i (T + i))) 57 0 e (sl_i (W + 1)), ?_, ?_, ?_, fun j _ _ => by omega, ?_⟩
    · rw [e_X11_getsAll_20]
      simp (disch := omega) only [i_lit, i_ofNat, i_add, i_mul, i_sub, i_addn, i_subm, y_nsm, i_le, i_lt, i_nat, i_eq, i_div, i_nle, i_nlt, i_len, i_ltn, i_neq, i_eqn, i_and1, i_and63, i_and255, b8_sx, ob_some, if_true, if_false, and_self, true_and, if_pos, if_neg, h52, h57]
    · rw [up_ne (by omega), up_eq rfl rfl rfl]
    · rw [up_eq rfl rfl rfl]
    · exact ⟨rfl, fun k w p h => by rw [up_ne (by omega), up_ne (by omega)]⟩
  | succ k ih =>
    intro i fuel d hi h52 h57
    obtain ⟨d', g1, g2, g3, g4, g5⟩ := ih (i + 1) fuel (sl_up d 30 4 (3000 * e + T + i) (sl_sx (d.1 30 w (o + i)))) (by omega) (by rw [up_ne (by omega)]; exact h52) (by rw [up_ne (by omega)]; exact h57)
    refine ⟨d', ?_, g2, g3, ?_, ?_⟩
    · rw [show fuel + (k + 1) + 1 = fuel + k + 1 + 1 from rfl, e_X11_getsAll_20]
      simp (disch := omega) only [i_lit, i_ofNat, i_add, i_mul, i_sub, i_addn, i_subm, y_nsm, i_le, i_lt, i_nat, i_eq, i_div, i_nle, i_nlt, i_len, i_ltn, i_neq, i_eqn, i_and1, i_and63, i_and255, b8_sx, ob_some, if_true, if_false, and_self, true_and, if_pos, if_neg, h52]
      exact g1
    · intro j hj hj2
      by_cases h : j = i
      · subst h
        rw [y_sm_mb g5 (by omega), y_mb_up rfl (by omega)]; rfl
      · rw [g4 j (by omega) hj2, y_mb_ne (by omega)]
    · exact ⟨g5.1, fun k w p h => by rw [g5.2 k w p (by omega), up_ne (by omega)]⟩
theorem y_gets (e w o n W T : Nat) (d : sl_M) (he : e < 2) (hw : w ≠ 4) (ho : o + n ≤ sl_lb w) (hT : T + n ≤ 3000) (h52 : d.1 52 0 e = sl_i T) (h57 : d.1 57 0 e = sl_i W) :
    ∃ d', f_X11_getsAll (sl_i e) w (sl_i o) (sl_i n) d = some ((sl_i 1, 0, 0), d') ∧ d'.1 52 0 e = sl_i (T + n) ∧ d'.1 57 0 e = sl_i (W + 1) ∧
      (∀ j, j < n → y_mb d' 4 (3000 * e + (T + j)) = y_mb d w (o + j)) ∧
      y_sm (fun k w p => ((k = 52 ∨ k = 57) ∧ w = 0 ∧ p = e) ∨ (k = 30 ∧ w = 4 ∧ 3000 * e + T ≤ p ∧ p < 3000 * e + T + n)) d d' := by
  obtain ⟨d', g1, g2, g3, g4, g5⟩ := y_gets20 e w o n W T he hw ho hT n 0 (99999 - n - 1) d (by omega) h52 h57
  rw [show 99999 - n - 1 + n + 1 = 99999 by omega] at g1
  refine ⟨d', ?_, g2, g3, fun j hj => g4 j (by omega) hj, y_sm_mono g5 (fun k w p h => by omega)⟩
  rw [e_X11_getsAll]
  simp (disch := omega) only [i_lit, i_ofNat, i_add, i_mul, i_sub, i_addn, i_subm, y_nsm, i_le, i_lt, i_nat, i_eq, i_div, i_nle, i_nlt, i_len, i_ltn, i_neq, i_eqn, i_and1, i_and63, i_and255, b8_sx, ob_some, if_true, if_false, and_self, true_and, if_pos, if_neg, h52]
  exact g1
theorem y_getsNo (e w n T : Nat) (o : Int32) (d : sl_M) (he : e < 2) (hT : 3000 < T + n) (hn : n ≤ 60) (hT2 : T ≤ 3000) (h52 : d.1 52 0 e = sl_i T) :
    f_X11_getsAll (sl_i e) w o (sl_i n) d = some ((sl_i 0, 0, 0), d) := by
  rw [e_X11_getsAll]
  simp (disch := omega) only [i_lit, i_ofNat, i_add, i_mul, i_sub, i_addn, i_subm, y_nsm, i_le, i_lt, i_nat, i_eq, i_div, i_nle, i_nlt, i_len, i_ltn, i_neq, i_eqn, i_and1, i_and63, i_and255, b8_sx, ob_some, if_true, if_false, and_self, true_and, if_pos, if_neg, h52]
/-! the bits of a KNOWN -/
def y_bits (h : Nat → Nat) (i : Nat) : Nat → Nat
  | 0 => 0
  | k + 1 => if h (8 * i + k) = 0 then y_bits h i k else y_bits h i k ||| 2 ^ k
theorem y_bits_lt (h : Nat → Nat) (i : Nat) : ∀ k, y_bits h i k < 2 ^ k
  | 0 => by show 0 < 1; decide
  | k + 1 => by
    have h1 := y_bits_lt h i k
    have h2 : 2 ^ (k + 1) = 2 ^ k + 2 ^ k := by rw [Nat.pow_succ]; omega
    rw [y_bits]
    split
    · omega
    · exact Nat.or_lt_two_pow (by omega) (by omega)
theorem y_bits_lt8 (h : Nat → Nat) (i k : Nat) (hk : k ≤ 8) : y_bits h i k < 256 := by
  have h1 := y_bits_lt h i k
  have h2 : 2 ^ k ≤ 2 ^ 8 := Nat.pow_le_pow_right (by omega) hk
  omega
theorem y_bits_top (h : Nat → Nat) (i : Nat) : ∀ r k, (∀ j, k ≤ j → j < k + r → h (8 * i + j) = 0) → y_bits h i (k + r) = y_bits h i k
  | 0, _, _ => rfl
  | r + 1, k, hz => by
    rw [show k + (r + 1) = (k + r) + 1 from rfl, y_bits, if_pos (hz (k + r) (by omega) (by omega)), y_bits_top h i r k (fun j h1 h2 => hz j h1 (by omega))]
theorem i_shlA {k : Nat} (hk : k < 31) : sl_i 1 <<< (sl_i k &&& sl_i 31) = sl_i (2 ^ k) := by rw [i_and31, Nat.mod_eq_of_lt (by omega), i_shl1 hk]
theorem y_hb4 (e W q : Nat) (h : Nat → Nat) (c : sl_M) (he : e < 2) (hW : W ≤ 4000) (hq : q ≤ 4) (h5 : c.1 5 e 4 = sl_i W)
    (hh : ∀ j, j < 8 → ∃ sz, c.1 27 e ((W + 1 + 8 * q + j) % 64) = sl_i sz ∧ sz ≤ 60 ∧ (sz = 0 ↔ h (8 * q + j) = 0)) : ∀ k j fuel, j + k = 8 →
    b_X5_heldBits_4 (fuel + k + 1) e (sl_i (8 * q)) (sl_i (y_bits h q j)) (sl_i j) c = some ((sl_i (y_bits h q 8), 0, 0), c) := by
  have hl7 : sl_l7 e = 64 := by unfold sl_l7; rw [show (e == 2) = false by simp; omega]; rfl
  intro k
  induction k with
  | zero =>
    intro j fuel hj
    have : j = 8 := by omega
    subst this
    rw [e_X5_heldBits_4]
    simp (disch := omega) only [i_lit, i_ofNat, i_add, i_mul, i_sub, i_addn, i_subm, y_nsm, i_le, i_lt, i_nat, i_eq, i_div, i_nle, i_nlt, i_len, i_ltn, i_neq, i_eqn, i_and1, i_and63, i_and255, b8_sx, ob_some, if_true, if_false, and_self, true_and, if_pos, if_neg]
  | succ k ih =>
    intro j fuel hj
    obtain ⟨sz, a1, a2, a3⟩ := hh j (by omega)
    have hbl := y_bits_lt8 h q j (by omega)
    rw [show fuel + (k + 1) + 1 = fuel + k + 1 + 1 from rfl, e_X5_heldBits_4, hl7, h5]
    simp (disch := omega) only [i_lit, i_ofNat, i_add, i_mul, i_sub, i_addn, i_subm, y_nsm, i_le, i_lt, i_nat, i_eq, i_div, i_nle, i_nlt, i_len, i_ltn, i_neq, i_eqn, i_and1, i_and63, i_and255, b8_sx, ob_some, if_true, if_false, and_self, true_and, if_pos, if_neg, a1, i_shlA, i_or]
    have e1 := ih (j + 1) fuel (by omega)
    rw [y_bits] at e1
    by_cases hz : sz = 0
    · rw [if_pos (by omega)]
      rw [if_pos (a3.1 hz)] at e1
      exact e1
    · rw [if_neg (by omega)]
      rw [if_neg (fun h => hz (a3.2 h))] at e1
      exact e1
