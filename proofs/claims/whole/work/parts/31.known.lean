/-! a KNOWN is laid -/
theorem y_lk30 (e W load : Nat) (h : Nat → Nat) (he : e < 2) (hW : W ≤ 4000) (hl4 : load ≤ 4) : ∀ k i fuel (c : sl_M), i + k = load → c.1 5 e 4 = sl_i W → c.1 6 (2 + e) 1 = sl_i (1 + i) →
    (∀ q, q < load → ∀ j, j < 8 → ∃ sz, c.1 27 e ((W + 1 + 8 * q + j) % 64) = sl_i sz ∧ sz ≤ 60 ∧ (sz = 0 ↔ h (8 * q + j) = 0)) →
    ∃ c1, b_X5_layKnown_30 (fuel + k) e (2 + e) (sl_i load) (sl_i i) c = b_X5_layKnown_30 fuel e (2 + e) (sl_i load) (sl_i load) c1 ∧ c1.1 6 (2 + e) 1 = sl_i (1 + load) ∧
      (∀ j, i ≤ j → j < load → y_rb c1 (2 + e) (1 + j) = y_bits h j 8) ∧ y_sm (fun k w p => (k = 6 ∧ w = 2 + e ∧ p = 1) ∨ (k = 20 ∧ w = 2 + e ∧ 1 + i ≤ p)) c c1 := by
  have hlr := y_lr2 he
  intro k
  induction k with
  | zero =>
    intro i fuel c hi h5 hl hh
    have : i = load := by omega
    subst this
    exact ⟨c, rfl, hl, fun j _ _ => by omega, y_sm_refl _ _⟩
  | succ k ih =>
    intro i fuel c hi h5 hl hh
    have hbl := y_bits_lt8 h i 8 (by omega)
    obtain ⟨c1, g1, g2, g3, g4⟩ := ih (i + 1) fuel (sl_up (sl_up c 20 (2 + e) (1 + i) (sl_sx (sl_i (y_bits h i 8)))) 6 (2 + e) 1 (sl_i (1 + i + 1))) (by omega)
      (by rw [up_ne (by omega), up_ne (by omega)]; exact h5) (by rw [up_eq rfl rfl rfl]; rfl)
      (fun q hq j hj => by rw [up_ne (by omega), up_ne (by omega)]; exact hh q hq j hj)
    refine ⟨c1, ?_, g2, ?_, ?_⟩
    · have hb := y_hb4 e W i h c he hW (by omega) h5 (hh i (by omega)) 8 0 99990 (by omega)
      rw [show fuel + (k + 1) = fuel + k + 1 from rfl, e_X5_layKnown_30]
      simp (disch := omega) only [i_lit, i_ofNat, i_add, i_mul, i_sub, i_addn, i_subm, y_nsm, i_le, i_lt, i_nat, i_eq, i_div, i_nle, i_nlt, i_len, i_ltn, i_neq, i_eqn, i_and1, i_and63, i_and255, b8_sx, ob_some, if_true, if_false, and_self, true_and, if_pos, if_neg]
      rw [e_X5_heldBits]
      simp only [i_lit]
      rw [show y_bits h i 0 = 0 from rfl] at hb
      rw [hb, ob_some, y_add c _ hl (by omega), ob_some]
      exact g1
    · intro j hj hj2
      by_cases hji : j = i
      · subst hji
        rw [y_sm_rb g4 (by omega), y_rb_ne (by omega), y_rb_up rfl rfl, b8_i]; omega
      · exact g3 j (by omega) hj2
    · exact ⟨g4.1, fun k w p h => by rw [g4.2 k w p (by omega), up_ne (by omega), up_ne (by omega)]⟩
theorem y_lk28 (e load : Nat) (hl4 : load ≤ 4) : ∀ k i fuel (d : sl_M), i + k = load →
    ∃ d1, b_X11_layKnown_28 (fuel + k + 1) (sl_i e) (sl_i load) (sl_i i) d = b_X11_layKnown_50 fuel (sl_i e) (sl_i load) (sl_i 0) d1 ∧
      (∀ j, i ≤ j → j < load → y_mb d1 8 (1 + j) = 0) ∧ y_sm (fun k w p => k = 30 ∧ w = 8 ∧ 1 + i ≤ p ∧ p < 1 + load) d d1 := by
  intro k
  induction k with
  | zero =>
    intro i fuel d hi
    have : i = load := by omega
    subst this
    refine ⟨d, ?_, fun j _ _ => by omega, y_sm_refl _ _⟩
    rw [e_X11_layKnown_28]
    simp (disch := omega) only [i_lit, i_ofNat, i_add, i_mul, i_sub, i_addn, i_subm, y_nsm, i_le, i_lt, i_nat, i_eq, i_div, i_nle, i_nlt, i_len, i_ltn, i_neq, i_eqn, i_and1, i_and63, i_and255, b8_sx, ob_some, if_true, if_false, and_self, true_and, if_pos, if_neg, Nat.add_zero]
  | succ k ih =>
    intro i fuel d hi
    obtain ⟨d1, g1, g2, g3⟩ := ih (i + 1) fuel (sl_up d 30 8 (1 + i) (sl_i 0)) (by omega)
    refine ⟨d1, ?_, ?_, ?_⟩
    · rw [show fuel + (k + 1) + 1 = fuel + k + 1 + 1 from rfl, e_X11_layKnown_28]
      simp (disch := omega) only [i_lit, i_ofNat, i_add, i_mul, i_sub, i_addn, i_subm, y_nsm, i_le, i_lt, i_nat, i_eq, i_div, i_nle, i_nlt, i_len, i_ltn, i_neq, i_eqn, i_and1, i_and63, i_and255, b8_sx, ob_some, if_true, if_false, and_self, true_and, if_pos, if_neg]
      exact g1
    · intro j hj hj2
      by_cases hji : j = i
      · subst hji
        rw [y_sm_mb g3 (by omega), sx_i0, y_mb_up rfl rfl, b8_i]
      · exact g2 j (by omega) hj2
    · exact ⟨g3.1, fun k w p h => by rw [g3.2 k w p (by omega), up_ne (by omega)]⟩
theorem y_lk50 (e W sp wi load : Nat) (h : Nat → Nat) (he : e < 2) (hW : W ≤ 4000) (hsp : sp ≤ 64) (hsp0 : 0 < sp) (hwi1 : 1 ≤ wi) (hwi : wi ≤ 32) (hload : load = (wi + 6) / 8) : ∀ k i fuel (d : sl_M), i + k + 1 = wi →
    d.1 11 0 9 = sl_i 2 → d.1 11 0 10 = sl_i sp → d.1 11 0 11 = sl_i wi → d.1 57 0 e = sl_i W →
    (∀ j, j + 1 < wi → d.1 71 0 (64 * e + (W + (j + 1)) % sp) = sl_i (if h j = 0 then 0 else 1)) →
    (∀ q, q < load → y_mb d 8 (1 + q) = y_bits h q (min 8 (i - 8 * q))) →
    ∃ d1, b_X11_layKnown_50 (fuel + k + 1) (sl_i e) (sl_i load) (sl_i i) d = (f_X11_lay (sl_i e) (sl_i (1 + load)) (sl_i 0) d1).bind (fun q1 => some ((sl_i 0, 0, 0), q1.2)) ∧
      (∀ q, q < load → y_mb d1 8 (1 + q) = y_bits h q (min 8 (wi - 1 - 8 * q))) ∧ y_sm (fun k w p => k = 30 ∧ w = 8 ∧ 1 ≤ p) d d1 := by
  intro k
  induction k with
  | zero =>
    intro i fuel d hi h9 h10 h11 h57 h71 hb
    refine ⟨d, ?_, ?_, y_sm_refl _ _⟩
    · rw [e_X11_layKnown_50, h11]
      simp (disch := omega) only [i_lit, i_ofNat, i_add, i_mul, i_sub, i_addn, i_subm, y_nsm, i_le, i_lt, i_nat, i_eq, i_div, i_nle, i_nlt, i_len, i_ltn, i_neq, i_eqn, i_and1, i_and63, i_and255, b8_sx, ob_some, if_true, if_false, and_self, true_and, if_pos, if_neg]
    · intro q hq
      rw [hb q hq, show i = wi - 1 by omega]
  | succ k ih =>
    intro i fuel d hi h9 h10 h11 h57 h71 hb
    have hm : (W + (i + 1)) % sp < sp := Nat.mod_lt _ hsp0
    have h71i := h71 i (by omega)
    rw [show fuel + (k + 1) + 1 = fuel + k + 1 + 1 from rfl, e_X11_layKnown_50]
    simp (disch := omega) only [i_lit, i_ofNat, i_add, i_mul, i_sub, i_addn, i_subm, y_nsm, i_le, i_lt, i_nat, i_eq, i_div, i_nle, i_nlt, i_len, i_ltn, i_neq, i_eqn, i_and1, i_and63, i_and255, b8_sx, ob_some, if_true, if_false, and_self, true_and, if_pos, if_neg, h9, h10, h11, h57, Nat.add_assoc, h71i]
    by_cases hz : h i = 0
    · rw [if_pos hz]
      simp (disch := omega) only [i_lit, i_ofNat, i_add, i_mul, i_sub, i_addn, i_subm, y_nsm, i_le, i_lt, i_nat, i_eq, i_div, i_nle, i_nlt, i_len, i_ltn, i_neq, i_eqn, i_and1, i_and63, i_and255, b8_sx, ob_some, if_true, if_false, and_self, true_and, if_pos, if_neg]
      obtain ⟨d1, g1, g2, g3⟩ := ih (i + 1) fuel d (by omega) h9 h10 h11 h57 h71 (by
        intro q hq
        rw [hb q hq]
        by_cases hq2 : q = i / 8
        · have e1 : min 8 (i - 8 * q) = i % 8 := by omega
          have e2 : min 8 (i + 1 - 8 * q) = i % 8 + 1 := by omega
          rw [e1, e2, y_bits, if_pos (by rw [hq2, show 8 * (i / 8) + i % 8 = i by omega]; exact hz)]
        · have e1 : min 8 (i - 8 * q) = min 8 (i + 1 - 8 * q) := by omega
          rw [e1])
      exact ⟨d1, g1, g2, g3⟩
    · rw [if_neg hz]
      simp (disch := omega) only [i_lit, i_ofNat, i_add, i_mul, i_sub, i_addn, i_subm, y_nsm, i_le, i_lt, i_nat, i_eq, i_div, i_nle, i_nlt, i_len, i_ltn, i_neq, i_eqn, i_and1, i_and63, i_and255, b8_sx, ob_some, if_true, if_false, and_self, true_and, if_pos, if_neg]
      have hbl := y_bits_lt8 h (i / 8) (i % 8 + 1) (by omega)
      obtain ⟨d1, g1, g2, g3⟩ := ih (i + 1) fuel (sl_up d 30 8 (1 + i / 8) (sl_sx (sl_sx (d.1 30 8 (1 + i / 8)) ||| sl_i 1 <<< (sl_i (i % 8) &&& sl_i 31)))) (by omega)
        (by rw [up_ne (by omega)]; exact h9) (by rw [up_ne (by omega)]; exact h10) (by rw [up_ne (by omega)]; exact h11) (by rw [up_ne (by omega)]; exact h57)
        (fun j hj => by rw [up_ne (by omega)]; exact h71 j hj) (by
        intro q hq
        by_cases hq2 : q = i / 8
        · subst hq2
          have e1 : min 8 (i - 8 * (i / 8)) = i % 8 := by omega
          have e2 : min 8 (i + 1 - 8 * (i / 8)) = i % 8 + 1 := by omega
          have e3 := hb (i / 8) hq
          rw [e1] at e3
          rw [y_mb_up rfl rfl, b8_or, b8_sx, i_shlA (by omega), b8_i, e2]
          rw [show sl_b8 (d.1 30 8 (1 + i / 8)) = y_bits h (i / 8) (i % 8) from e3]
          rw [y_bits, if_neg (by rw [show 8 * (i / 8) + i % 8 = i by omega]; exact hz)]
          have e4 : 2 ^ (i % 8) < 2 ^ 8 := Nat.pow_lt_pow_right (by omega) (by omega)
          rw [Nat.mod_eq_of_lt (show 2 ^ (i % 8) < 256 by omega)]
        · have e1 : min 8 (i - 8 * q) = min 8 (i + 1 - 8 * q) := by omega
          rw [y_mb_ne (by omega), hb q hq, e1])
      refine ⟨d1, g1, g2, ?_⟩
      exact ⟨g3.1, fun k w p h => by rw [g3.2 k w p (by omega), up_ne (by omega)]⟩
theorem y_layKnown (mo sp wi si ti e fi n W T : Nat) (c d : sl_M) (he : e < 2) (hS : y_gS mo sp wi si ti c d) (hL : y_gL e fi n c d) (hv : y_hv d) (hC : y_gC c d) (hR : y_gRx e sp wi si W T c d) :
    ∃ c' d', f_X5_layKnown e c = some ((sl_i 0, 0, 0), c') ∧ f_X11_layKnown (sl_i e) d = some ((sl_i 0, 0, 0), d') ∧
      y_gL e fi (if n < 40 then n + 1 else n) c' d' ∧ y_gC c' d' ∧
      (n < 40 → c'.1 2 (40 * e + (fi + n) % 40) 1 = sl_i 1) ∧ (∀ j, j < 40 → (n < 40 → j ≠ (fi + n) % 40) → c'.1 2 (40 * e + j) 1 = c.1 2 (40 * e + j) 1) ∧
      y_sm (y_zLc e) c c' ∧ y_sm (y_zLd e) d d' := by
  obtain ⟨⟨c0, c1, c2, c3, c4⟩, ⟨d0, d1, d2, d3, d4⟩, hmo, hsp2, hsp64, hw1, hwA, hwB, hsi1, hsi60, hti1, hti50⟩ := hS
  obtain ⟨a1, a2, a3, a4, a5, a6⟩ := hR
  have hlr := y_lr2 he
  have hWm : W % sp < sp := Nat.mod_lt _ (by omega)
  obtain ⟨load, hload⟩ : ∃ load, load = (if mo = 2 then (wi + 6) / 8 else 0) := ⟨_, rfl⟩
  have hl4 : load ≤ 4 := by rw [hload]; split <;> omega
  obtain ⟨h, hh⟩ : ∃ h : Nat → Nat, h = fun j => (c.1 27 e ((W + (j + 1)) % 64)).toNatClampNeg := ⟨_, rfl⟩
  have hsz : mo = 2 → ∀ j, j < 32 → ∃ sz, c.1 27 e ((W + (j + 1)) % 64) = sl_i sz ∧ sz ≤ 60 ∧ h j = sz ∧ (wi ≤ j + 1 → sz = 0) := by
    intro hm2 j hj
    by_cases hjw : j + 1 < wi
    · obtain ⟨sz, b1, b2, b3⟩ := a4 (j + 1) hjw
      exact ⟨sz, b1, by omega, by rw [hh]; simp only [b1]; exact i_nat (by omega), fun _ => by omega⟩
    · have := a5 ((W + (j + 1)) % 64) (by omega) (fun i hi => by omega)
      exact ⟨0, this, by omega, by rw [hh]; simp only [this]; exact i_nat (by omega), fun _ => rfl⟩
  obtain ⟨m1, hm1⟩ : ∃ m1, m1 = sl_up (sl_up (sl_up c 6 (2 + e) 1 (sl_i 0)) 20 (2 + e) 0 (sl_sx (sl_i (64 * 1 + W % sp)))) 6 (2 + e) 1 (sl_i 1) := ⟨_, rfl⟩
  have hm1s : y_sm (fun k w p => (k = 6 ∧ w = 2 + e ∧ p = 1) ∨ (k = 20 ∧ w = 2 + e)) c m1 := by
    rw [hm1]; exact ⟨rfl, fun k w p h => by rw [up_ne (by omega), up_ne (by omega), up_ne (by omega)]⟩
  obtain ⟨m2, g1, g2, g3, g4⟩ := y_lk30 e W load h he (by omega) hl4 load 0 (99999 - load) m1 (by omega) (by rw [hm1s.2 _ _ _ (by omega)]; exact a1.1) (by rw [hm1, up_eq rfl rfl rfl])
    (fun q hq j hj => by
      have hm2 : mo = 2 := by
        by_cases h2 : mo = 2
        · exact h2
        · rw [if_neg h2] at hload; omega
      obtain ⟨sz, b1, b2, b3, b4⟩ := hsz hm2 (8 * q + j) (by omega)
      refine ⟨sz, ?_, b2, by rw [b3]⟩
      rw [hm1s.2 _ _ _ (by omega), show W + 1 + 8 * q + j = W + (8 * q + j + 1) by omega]; exact b1)
  have hcs : y_sm (fun k w p => (k = 6 ∧ w = 2 + e ∧ p = 1) ∨ (k = 20 ∧ w = 2 + e)) c m2 := y_sm_tr hm1s g4 (fun _ _ _ h => h) (fun k w p h => by omega)
  obtain ⟨n1, hn1⟩ : ∃ n1, n1 = sl_up d 30 8 0 (sl_sx (sl_i (64 + W % sp))) := ⟨_, rfl⟩
  have hn1s : y_sm (fun k w p => k = 30 ∧ w = 8) d n1 := by rw [hn1]; exact y_sm_up (y_sm_refl _ _) (fun _ _ _ h => h) (by omega)
  obtain ⟨n2, k1, k2, k3⟩ := y_lk28 e load hl4 load 0 (99999 - load - 1) n1 (by omega)
  rw [show 99999 - load - 1 + load + 1 = 99999 by omega] at k1
  have hn2s : y_sm (fun k w p => k = 30 ∧ w = 8) d n2 := y_sm_tr hn1s k3 (fun _ _ _ h => h) (fun k w p h => by omega)
  obtain ⟨n3, l1, l2, l3⟩ : ∃ n3, b_X11_layKnown_50 (99999 - load - 1) (sl_i e) (sl_i load) (sl_i 0) n2 = (f_X11_lay (sl_i e) (sl_i (1 + load)) (sl_i 0) n3).bind (fun q1 => some ((sl_i 0, 0, 0), q1.2)) ∧
      (∀ q, q < load → y_mb n3 8 (1 + q) = y_bits h q 8) ∧ y_sm (fun k w p => k = 30 ∧ w = 8 ∧ 1 ≤ p) n2 n3 := by
    by_cases hm2 : mo = 2
    · rw [if_pos hm2] at hload
      subst hm2
      obtain ⟨n3, l1, l2, l3⟩ := y_lk50 e W sp wi load h he (by omega) hsp64 (by omega) hw1 (by omega) hload (wi - 1) 0 (99999 - load - 1 - wi) n2 (by omega)
        (by rw [hn2s.2 _ _ _ (by omega)]; exact d0) (by rw [hn2s.2 _ _ _ (by omega)]; exact d1) (by rw [hn2s.2 _ _ _ (by omega)]; exact d2) (by rw [hn2s.2 _ _ _ (by omega)]; exact a1.2.1)
        (fun j hj => by
          obtain ⟨sz, b1, b2, b3, b4⟩ := a4 (j + 1) hj
          obtain ⟨sz2, e1, e2, e3, e4⟩ := hsz rfl j (by omega)
          rw [b1, i_eq (by omega) (by omega)] at e1
          subst e1
          rw [hn2s.2 _ _ _ (by omega), b3, e3])
        (fun q hq => by rw [k2 q (by omega) hq, show min 8 (0 - 8 * q) = 0 by omega]; rfl)
      rw [show 99999 - load - 1 - wi + (wi - 1) + 1 = 99999 - load - 1 by omega] at l1
      refine ⟨n3, l1, fun q hq => ?_, l3⟩
      rw [l2 q hq]
      by_cases h8 : 8 ≤ wi - 1 - 8 * q
      · rw [show min 8 (wi - 1 - 8 * q) = 8 by omega]
      · rw [show min 8 (wi - 1 - 8 * q) = wi - 1 - 8 * q by omega]
        have := y_bits_top h q (8 - (wi - 1 - 8 * q)) (wi - 1 - 8 * q) (fun j h1 h2 => by
          obtain ⟨sz2, e1, e2, e3, e4⟩ := hsz rfl (8 * q + j) (by omega)
          rw [e3]; exact e4 (by omega))
        rw [← this, show wi - 1 - 8 * q + (8 - (wi - 1 - 8 * q)) = 8 by omega]
    · rw [if_neg hm2] at hload
      subst hload
      refine ⟨n2, ?_, fun q hq => by omega, y_sm_refl _ _⟩
      rw [show 99999 - 0 - 1 = 99997 + 1 from rfl, e_X11_layKnown_50, hn2s.2 11 0 11 (by omega), hn2s.2 11 0 9 (by omega), d2, d0]
      simp (disch := omega) only [i_lit, i_ofNat, i_add, i_mul, i_sub, i_addn, i_subm, y_nsm, i_le, i_lt, i_nat, i_eq, i_div, i_nle, i_nlt, i_len, i_ltn, i_neq, i_eqn, i_and1, i_and63, i_and255, b8_sx, ob_some, if_true, if_false, and_self, true_and, if_pos, if_neg, Nat.add_zero]
      by_cases hw : wi ≤ 1
      · rw [if_pos (by omega)]
      · rw [if_neg (by omega)]
  have hds : y_sm (fun k w p => k = 30 ∧ w = 8) d n3 := y_sm_tr hn2s l3 (fun _ _ _ h => h) (fun k w p h => by omega)
  have hb0 : y_mb n3 8 0 = 64 + W % sp := by
    rw [y_sm_mb l3 (by omega), y_sm_mb k3 (by omega), hn1, y_mb_up rfl rfl, b8_i]; omega
  have hm20 : y_rb m2 (2 + e) 0 = 64 + W % sp := by
    rw [y_sm_rb g4 (by omega), hm1, y_rb_ne (by omega), y_rb_up rfl rfl, b8_i]; omega
  obtain ⟨c', d', r1, r2, r3, r4, r5, r6, r7, r8, r9⟩ := y_lay e fi n (1 + load) 0 m2 n3 he
    (y_gL_cong hL he hcs hds (fun k w p h => by unfold y_zF at h; omega) (fun k w p h => by unfold y_zFd at h; omega))
    (fun k hk => by rw [hds.2 _ _ _ (by omega)]; exact hv k hk) g2 (by omega) (by omega) (by omega)
    (fun j hj => by
      by_cases hj0 : j = 0
      · subst hj0; rw [hb0, hm20]
      · have e1 := g3 (j - 1) (by omega) (by omega)
        have e2 := l2 (j - 1) (by omega)
        rw [show 1 + (j - 1) = j by omega] at e1 e2
        rw [e1, e2])
    (by rw [hb0]; omega)
    (fun k hk h1 => by rw [hcs.2 _ _ _ (by omega), hds.2 _ _ _ (by omega)]; exact hC k (by omega))
    (by rw [if_pos rfl, hcs.2 _ _ _ (by omega), hds.2 _ _ _ (by omega)]; exact hC 1 (by omega))
  have r4 : y_gC c' d' := by
    intro k hk
    by_cases h2 : k ≤ 2
    · exact r4 k h2
    · rw [r8.2 _ _ _ (fun q => by unfold y_zF at q; omega), r9.2 _ _ _ (fun q => by unfold y_zFd at q; omega), hcs.2 _ _ _ (by omega), hds.2 _ _ _ (by omega)]; exact hC k hk
  refine ⟨c', d', ?_, ?_, r3, r4, ?_, ?_, ?_, ?_⟩
  · rw [e_X5_layKnown, a1.1, y_inRing c c1 (by omega) (by omega) hsp64, ob_some]
    simp only [i_lit]
    rw [y_startBody c he, ← hm1, ob_some, e_X8_knownLoad, y_each m1 (mo := mo) (by rw [hm1s.2 _ _ _ (by omega)]; exact c0) hmo, ob_some, hm1s.2 8 0 2 (by omega), c2]
    have hk : (if (sl_i (if mo = 2 then 1 else 0)) = 0 then some ((0, 0, 0), m1) else some (((sl_i wi - 1 + 7) / 8, 0, 0), m1)) = (some ((sl_i load, 0, 0), m1) : Option (sl_PL × sl_M)) := by
      by_cases hm2 : mo = 2
      · rw [if_pos hm2] at hload ⊢
        simp (disch := omega) only [i_lit, i_ofNat, i_add, i_mul, i_sub, i_addn, i_subm, y_nsm, i_le, i_lt, i_nat, i_eq, i_div, i_nle, i_nlt, i_len, i_ltn, i_neq, i_eqn, i_and1, i_and63, i_and255, b8_sx, ob_some, if_true, if_false, and_self, true_and, if_pos, if_neg]
        rw [hload, show wi - 1 + 7 = wi + 6 by omega]
      · rw [if_neg hm2] at hload ⊢
        simp (disch := omega) only [i_lit, i_ofNat, i_add, i_mul, i_sub, i_addn, i_subm, y_nsm, i_le, i_lt, i_nat, i_eq, i_div, i_nle, i_nlt, i_len, i_ltn, i_neq, i_eqn, i_and1, i_and63, i_and255, b8_sx, ob_some, if_true, if_false, and_self, true_and, if_pos, if_neg]
        rw [hload]
    simp only [i_lit] at hk ⊢
    rw [hk, ob_some]
    rw [show 99999 = 99999 - load + load by omega, g1]
    obtain ⟨f2, hf2⟩ : ∃ f2, 99999 - load = f2 + 1 := ⟨99998 - load, by omega⟩
    rw [hf2, e_X5_layKnown_30]
    simp (disch := omega) only [i_lit, i_ofNat, i_add, i_mul, i_sub, i_addn, i_subm, y_nsm, i_le, i_lt, i_nat, i_eq, i_div, i_nle, i_nlt, i_len, i_ltn, i_neq, i_eqn, i_and1, i_and63, i_and255, b8_sx, ob_some, if_true, if_false, and_self, true_and, if_pos, if_neg]
    rw [r1, ob_some]
  · have hk : f_X11_knownBytes d = some ((sl_i load, 0, 0), d) := by
      rw [e_X11_knownBytes, d0, d2]
      by_cases hm2 : mo = 2
      · rw [if_pos hm2] at hload
        simp (disch := omega) only [i_lit, i_ofNat, i_add, i_mul, i_sub, i_addn, i_subm, y_nsm, i_le, i_lt, i_nat, i_eq, i_div, i_nle, i_nlt, i_len, i_ltn, i_neq, i_eqn, i_and1, i_and63, i_and255, b8_sx, ob_some, if_true, if_false, and_self, true_and, if_pos, if_neg]
        rw [hload]
      · rw [if_neg hm2] at hload
        simp (disch := omega) only [i_lit, i_ofNat, i_add, i_mul, i_sub, i_addn, i_subm, y_nsm, i_le, i_lt, i_nat, i_eq, i_div, i_nle, i_nlt, i_len, i_ltn, i_neq, i_eqn, i_and1, i_and63, i_and255, b8_sx, ob_some, if_true, if_false, and_self, true_and, if_pos, if_neg]
        rw [hload]
    rw [e_X11_layKnown, hk, ob_some]
    simp (disch := omega) only [i_lit, i_ofNat, i_add, i_mul, i_sub, i_addn, i_subm, y_nsm, i_le, i_lt, i_nat, i_eq, i_div, i_nle, i_nlt, i_len, i_ltn, i_neq, i_eqn, i_and1, i_and63, i_and255, b8_sx, ob_some, if_true, if_false, and_self, true_and, if_pos, if_neg, d1, a1.2.1]
    rw [← hn1, k1, l1, r2, ob_some]
  · intro hn
    rw [r6 hn, hb0, show (64 + W % sp) / 64 = 1 by omega]
  · intro j hj hjn
    rw [r7 j hj hjn, hcs.2 _ _ _ (by omega)]
  · refine y_sm_tr hcs r8 ?_ ?_
    · intro k w p h; unfold y_zLc; omega
    · intro k w p h; unfold y_zLc; omega
  · refine y_sm_tr hds r9 ?_ ?_
    · intro k w p h; unfold y_zLd; omega
    · intro k w p h
      unfold y_zLd
      rcases h with h | h | h
      · exact .inl (by omega)
      · exact .inr (.inl h)
      · exact .inr (.inr h)
