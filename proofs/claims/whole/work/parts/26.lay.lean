/-! a frame is laid -/
/-- what lay does behind its counting (class) -/
def y_layX (this : Nat) (a0 : Int32) (m0 : sl_M) : Option (sl_PL × sl_M) :=
  if (40 : Int32) ≤ (m0.1 4 this 4) then
    (f_X9_add (2 : Int32) m0).bind (fun q2 =>
    some ((0, 0, 0), q2.2))
  else
    (f_X4_slot this (m0.1 4 this 4) m0).bind (fun q3 =>
    if q3.1.2.2 = 1 then
      (f_X9_add (2 : Int32) q3.2).bind (fun q4 =>
      some ((0, 0, 0), q4.2))
    else
      (f_X6_at (2 + this) (0 : Int32) (sl_up q3.2 4 this 4 ((q3.2.1 4 this 4) + (1 : Int32)))).bind (fun q5 =>
      if a0 = 0 ∨ a0 = 1 then
        (f_X0_checkOf (2 + this) (q5.2.1 6 (2 + this) 1) (sl_up (sl_up (sl_up (sl_up q5.2 2 q3.1.2.1 1 (q5.1.1 / (64 : Int32))) 2 q3.1.2.1 2 (q5.1.1 - q5.1.1 / (64 : Int32) * (64 : Int32))) 2 q3.1.2.1 3 ((q5.2.1 6 (2 + this) 1) - (1 : Int32))) 2 q3.1.2.1 4 a0)).bind (fun q6 =>
        b_X4_lay_127 99999 this q3.1.2.1 q6.1.1 (0 : Int32) q6.2)
      else none))
theorem y_layX_eq (this : Nat) (a0 : Int32) (m : sl_M) : f_X4_lay this a0 m = (f_X9_add (0 : Int32) m).bind (fun q1 => if a0 = 0 then y_layX this a0 q1.2 else (f_X9_add (1 : Int32) q1.2).bind (fun q7 => y_layX this a0 q7.2)) := by
  rw [e_X4_lay]; unfold y_layX; rfl
theorem y_lay127 (e f b : Nat) (X : Int32) (he : e < 2) (hb : b + 4 ≤ 65) : ∀ k i fuel (c : sl_M), i + k = 4 → c.1 6 (2 + e) 1 = sl_i (b + i) →
    ∃ c1, b_X4_lay_127 (fuel + k) e f X (sl_i i) c = b_X4_lay_127 fuel e f X (sl_i 4) c1 ∧ c1.1 6 (2 + e) 1 = sl_i (b + 4) ∧
      (∀ j, i ≤ j → j < 4 → y_rb c1 (2 + e) (b + j) = X.toBitVec.toNat / 2 ^ (8 * j) % 256) ∧
      y_sm (fun k w p => (k = 6 ∧ w = 2 + e ∧ p = 1) ∨ (k = 20 ∧ w = 2 + e ∧ b + i ≤ p)) c c1 := by
  have hlr := y_lr2 he
  intro k
  induction k with
  | zero =>
    intro i fuel c hi hl
    have : i = 4 := by omega
    subst this
    exact ⟨c, rfl, hl, fun j _ _ => by omega, y_sm_refl _ _⟩
  | succ k ih =>
    intro i fuel c hi hl
    obtain ⟨c1, h1, h2, h3, h4⟩ := ih (i + 1) fuel (sl_up (sl_up c 20 (2 + e) (b + i) (sl_sx (sl_ush X (sl_i (8 * i))))) 6 (2 + e) 1 (sl_i (b + i + 1))) (by omega) (by rw [up_eq rfl rfl rfl]; rfl)
    refine ⟨c1, ?_, h2, ?_, ?_⟩
    · rw [show fuel + (k + 1) = fuel + k + 1 from rfl, e_X4_lay_127]
      simp (disch := omega) only [i_lit, i_ofNat, i_add, i_mul, i_sub, i_addn, i_subm, y_nsm, i_le, i_lt, i_nat, i_eq, i_div, i_nle, i_nlt, i_len, i_ltn, i_neq, i_eqn, i_and1, i_and63, i_and255, b8_sx, ob_some, if_true, if_false, and_self, true_and, if_pos, if_neg]
      rw [y_add c _ hl (by omega), ob_some]
      exact h1
    · intro j hj hj4
      by_cases h : j = i
      · subst h
        rw [y_sm_rb h4 (by omega), y_rb_ne (by omega), y_rb_up rfl rfl, b8_ush _ (by omega)]
      · exact h3 j (by omega) hj4
    · exact ⟨h4.1, fun k w p h => by rw [h4.2 k w p (by omega), up_ne (by omega), up_ne (by omega)]⟩
theorem y_layC (e fi n b ag : Nat) (c : sl_M) (he : e < 2) (hfi : c.1 4 e 3 = sl_i fi) (hfi4 : fi < 40) (hn : c.1 4 e 4 = sl_i n) (hn4 : n < 40)
    (hl : c.1 6 (2 + e) 1 = sl_i b) (hb1 : 1 ≤ b) (hb : b ≤ 61) (hag : ag ≤ 1) (f : Nat) (hf : f = 40 * e + (fi + n) % 40) :
    ∃ c2, y_layX e (sl_i ag) c = (f_X0_pack (2 + e) (14 + f) c2).bind (fun q1 => (f_X6_add (14 + f) (sl_i 0) q1.2).bind (fun q2 => some ((sl_i 0, 0, 0), q2.2))) ∧
      c2.1 6 (2 + e) 1 = sl_i (b + 4) ∧ (∀ j, j < b → y_rb c2 (2 + e) j = y_rb c (2 + e) j) ∧
      (∀ j, j < 4 → y_rb c2 (2 + e) (b + j) = (y_crc (y_rb c (2 + e)) b ^^^ (-(sl_i 1))).toBitVec.toNat / 2 ^ (8 * j) % 256) ∧
      c2.1 4 e 4 = sl_i (n + 1) ∧ c2.1 2 f 1 = sl_i (y_rb c (2 + e) 0 / 64) ∧ c2.1 2 f 2 = sl_i (y_rb c (2 + e) 0 % 64) ∧ c2.1 2 f 3 = sl_i (b - 1) ∧ c2.1 2 f 4 = sl_i ag ∧
      y_sm (fun k w p => (k = 4 ∧ w = e ∧ p = 4) ∨ (k = 2 ∧ w = f ∧ 1 ≤ p ∧ p ≤ 4) ∨ (k = 6 ∧ w = 2 + e ∧ p = 1) ∨ (k = 20 ∧ w = 2 + e ∧ b ≤ p)) c c2 := by
  have hlr := y_lr2 he
  have hrb := y_rb_lt c (2 + e) 0
  obtain ⟨c1, hc1⟩ : ∃ c1, c1 = sl_up (sl_up (sl_up (sl_up (sl_up c 4 e 4 (sl_i (n + 1))) 2 f 1 (sl_i (y_rb c (2 + e) 0 / 64))) 2 f 2 (sl_i (y_rb c (2 + e) 0 % 64))) 2 f 3 (sl_i (b - 1))) 2 f 4 (sl_i ag) := ⟨_, rfl⟩
  have hl1 : c1.1 6 (2 + e) 1 = sl_i b := by
    rw [hc1, up_ne (by omega), up_ne (by omega), up_ne (by omega), up_ne (by omega), up_ne (by omega)]; exact hl
  have hr1 : ∀ j, y_rb c1 (2 + e) j = y_rb c (2 + e) j := by
    intro j
    rw [hc1, y_rb_ne (by omega), y_rb_ne (by omega), y_rb_ne (by omega), y_rb_ne (by omega), y_rb_ne (by omega)]
  obtain ⟨c2, h1, h2, h3, h4⟩ := y_lay127 e f b (y_crc (y_rb c (2 + e)) b ^^^ (-(sl_i 1))) he (by omega) 4 0 99995 c1 (by omega) hl1
  refine ⟨c2, ?_, h2, ?_, ?_, ?_, ?_, ?_, ?_, ?_, ?_⟩
  · unfold y_layX
    rw [hn]
    simp (disch := omega) only [i_lit, i_ofNat, i_add, i_mul, i_sub, i_addn, i_subm, y_nsm, i_le, i_lt, i_nat, i_eq, i_div, i_nle, i_nlt, i_len, i_ltn, i_neq, i_eqn, i_and1, i_and63, i_and255, b8_sx, ob_some, if_true, if_false, and_self, true_and, if_pos, if_neg]
    rw [y_slot c hfi (by omega), ob_some, ← hf]
    simp only [Nat.zero_ne_one, if_false, hn, i_lit, i_add]
    rw [y_at _ (L := b) (by rw [up_ne (by omega)]; exact hl) (by omega) (by omega), ob_some, up_ne (by omega), hl, y_rb_ne (by omega)]
    simp (disch := omega) only [i_div, i_mul, i_sub, y_nsm]
    rw [← hc1, y_ckX0 (2 + e) b b c1 hl1 (by omega) (by omega) (by omega), ob_some]
    rw [show y_crc (fun j => sl_b8 (c1.1 20 (2 + e) j)) b = y_crc (y_rb c (2 + e)) b from y_crc_ext b (fun i _ => hr1 i)]
    rw [show (99999 : Nat) = 99995 + 4 from rfl, h1, e_X4_lay_127]
    simp (disch := omega) only [i_lit, i_ofNat, i_add, i_mul, i_sub, i_addn, i_subm, y_nsm, i_le, i_lt, i_nat, i_eq, i_div, i_nle, i_nlt, i_len, i_ltn, i_neq, i_eqn, i_and1, i_and63, i_and255, b8_sx, ob_some, if_true, if_false, and_self, true_and, if_pos, if_neg]
  · intro j hj
    rw [y_sm_rb h4 (by omega)]; exact hr1 j
  · intro j hj
    exact h3 j (by omega) hj
  · rw [h4.2 _ _ _ (by omega), hc1, up_ne (by omega), up_ne (by omega), up_ne (by omega), up_ne (by omega), up_eq rfl rfl rfl]
  · rw [h4.2 _ _ _ (by omega), hc1, up_ne (by omega), up_ne (by omega), up_ne (by omega), up_eq rfl rfl rfl]
  · rw [h4.2 _ _ _ (by omega), hc1, up_ne (by omega), up_ne (by omega), up_eq rfl rfl rfl]
  · rw [h4.2 _ _ _ (by omega), hc1, up_ne (by omega), up_eq rfl rfl rfl]
  · rw [h4.2 _ _ _ (by omega), hc1, up_eq rfl rfl rfl]
  · refine ⟨by rw [h4.1, hc1]; rfl, fun k w p h => ?_⟩
    rw [h4.2 _ _ _ (by omega), hc1, up_ne (by omega), up_ne (by omega), up_ne (by omega), up_ne (by omega), up_ne (by omega)]
/-- the model's four bytes of check -/
theorem y_lay47 (e b : Nat) (v3 X : Int32) (hb : b + 4 ≤ 200) : ∀ k i fuel (d : sl_M), i + k = 4 →
    ∃ d1, b_X11_lay_47 (fuel + k) (sl_i e) (sl_i b) v3 X (sl_i i) d = b_X11_lay_47 fuel (sl_i e) (sl_i b) v3 X (sl_i 4) d1 ∧
      (∀ j, i ≤ j → j < 4 → y_mb d1 8 (b + j) = X.toBitVec.toNat / 2 ^ (8 * j) % 256) ∧
      y_sm (fun k w p => k = 30 ∧ w = 8 ∧ b + i ≤ p) d d1 := by
  intro k
  induction k with
  | zero =>
    intro i fuel d hi
    have : i = 4 := by omega
    subst this
    exact ⟨d, rfl, fun j _ _ => by omega, y_sm_refl _ _⟩
  | succ k ih =>
    intro i fuel d hi
    obtain ⟨d1, h1, h3, h4⟩ := ih (i + 1) fuel (sl_up d 30 8 (b + i) (sl_sx (X >>> (sl_i (8 * i) &&& sl_i 31)))) (by omega)
    refine ⟨d1, ?_, ?_, ?_⟩
    · rw [show fuel + (k + 1) = fuel + k + 1 from rfl, e_X11_lay_47]
      simp (disch := omega) only [i_lit, i_ofNat, i_add, i_mul, i_sub, i_addn, i_subm, y_nsm, i_le, i_lt, i_nat, i_eq, i_div, i_nle, i_nlt, i_len, i_ltn, i_neq, i_eqn, i_and1, i_and63, i_and255, b8_sx, ob_some, if_true, if_false, and_self, true_and, if_pos, if_neg]
      exact h1
    · intro j hj hj4
      by_cases h : j = i
      · subst h
        rw [y_sm_mb h4 (by omega), y_mb_up rfl rfl, b8_shr _ (by omega)]
      · exact h3 j (by omega) hj4
    · exact ⟨h4.1, fun k w p h => by rw [h4.2 k w p (by omega), up_ne (by omega)]⟩
/-- laying, class against model -/
theorem y_lay (e fi n b ag : Nat) (c d : sl_M) (he : e < 2) (hL : y_gL e fi n c d) (hv : y_hv d)
    (hl : c.1 6 (2 + e) 1 = sl_i b) (hb1 : 1 ≤ b) (hb : b ≤ 61) (hag : ag ≤ 1) (hbd : ∀ j, j < b → y_rb c (2 + e) j = y_mb d 8 j) (hh : y_mb d 8 0 < 128)
    (hC : ∀ k, k ≤ 2 → k ≠ 1 → c.1 27 2 k = d.1 68 0 k) (hC1 : (if ag = 0 then c.1 27 2 1 else c.1 27 2 1 + sl_i 1) = d.1 68 0 1) :
    ∃ c' d', f_X4_lay e (sl_i ag) c = some ((sl_i 0, 0, 0), c') ∧ f_X11_lay (sl_i e) (sl_i b) (sl_i ag) d = some ((sl_i 0, 0, 0), d') ∧
      y_gL e fi (if n < 40 then n + 1 else n) c' d' ∧ y_g3 c' d' ∧ d'.1 68 0 0 = d.1 68 0 0 + sl_i 1 ∧
      (n < 40 → c'.1 2 (40 * e + (fi + n) % 40) 1 = sl_i (y_mb d 8 0 / 64)) ∧ (∀ j, j < 40 → (n < 40 → j ≠ (fi + n) % 40) → c'.1 2 (40 * e + j) 1 = c.1 2 (40 * e + j) 1) ∧
      y_sm (fun k w p => (k = 27 ∧ w = 2 ∧ p ≤ 2) ∨ y_zF e k w p ∨ (k = 6 ∧ w = 2 + e ∧ p = 1) ∨ (k = 20 ∧ w = 2 + e)) c c' ∧
      y_sm (fun k w p => (k = 68 ∧ w = 0 ∧ (p = 0 ∨ p = 2)) ∨ y_zFd e k w p ∨ (k = 30 ∧ w = 8)) d d' := by
  obtain ⟨hfi, hn, hne, hfr⟩ := hL
  have hlr := y_lr2 he
  obtain ⟨c1, hc1, hc1s, hc10, hc11, hc1k⟩ : ∃ c1, f_X4_lay e (sl_i ag) c = y_layX e (sl_i ag) c1 ∧ y_sm (fun k w p => k = 27 ∧ w = 2 ∧ (p = 0 ∨ p = 1)) c c1 ∧
      c1.1 27 2 0 = c.1 27 2 0 + sl_i 1 ∧ c1.1 27 2 1 = d.1 68 0 1 ∧ (∀ k, 2 ≤ k → c1.1 27 2 k = c.1 27 2 k) := by
    rcases (show ag = 0 ∨ ag = 1 by omega) with h | h
    · subst h
      refine ⟨sl_up c 27 2 0 (c.1 27 2 0 + sl_i 1), ?_, y_sm_up (y_sm_refl _ _) (fun _ _ _ h => h) (by omega), ?_, ?_, ?_⟩
      · rw [y_layX_eq]
        simp (disch := omega) only [i_lit, i_ofNat, i_add, i_mul, i_sub, i_addn, i_subm, y_nsm, i_le, i_lt, i_nat, i_eq, i_div, i_nle, i_nlt, i_len, i_ltn, i_neq, i_eqn, i_and1, i_and63, i_and255, b8_sx, ob_some, if_true, if_false, and_self, true_and, if_pos, if_neg, y_tally]
      · rw [up_eq rfl rfl rfl]
      · rw [up_ne (by omega)]; exact hC1
      · intro k hk; rw [up_ne (by omega)]
    · subst h
      refine ⟨sl_up (sl_up c 27 2 0 (c.1 27 2 0 + sl_i 1)) 27 2 1 (c.1 27 2 1 + sl_i 1), ?_, y_sm_up (y_sm_up (U := fun k w p => k = 27 ∧ w = 2 ∧ (p = 0 ∨ p = 1)) (y_sm_refl _ _) (fun _ _ _ h => h) (by omega)) (fun _ _ _ h => h) (by omega), ?_, ?_, ?_⟩
      · rw [y_layX_eq]
        simp (disch := omega) only [i_lit, i_ofNat, i_add, i_mul, i_sub, i_addn, i_subm, y_nsm, i_le, i_lt, i_nat, i_eq, i_div, i_nle, i_nlt, i_len, i_ltn, i_neq, i_eqn, i_and1, i_and63, i_and255, b8_sx, ob_some, if_true, if_false, and_self, true_and, if_pos, if_neg, y_tally, up_ne]
      · rw [up_ne (by omega), up_eq rfl rfl rfl]
      · rw [up_eq rfl rfl rfl]; exact hC1
      · intro k hk; rw [up_ne (by omega), up_ne (by omega)]
  have hf1 : c1.1 4 e 3 = sl_i fi := by rw [hc1s.2 _ _ _ (by omega)]; exact hfi.1
  have hn1 : c1.1 4 e 4 = sl_i n := by rw [hc1s.2 _ _ _ (by omega)]; exact hn.1
  have hl1 : c1.1 6 (2 + e) 1 = sl_i b := by rw [hc1s.2 _ _ _ (by omega)]; exact hl
  have hr1 : ∀ j, y_rb c1 (2 + e) j = y_rb c (2 + e) j := fun j => y_sm_rb hc1s (by omega)
  by_cases h40 : n < 40
  · obtain ⟨f, hf⟩ : ∃ f, f = 40 * e + (fi + n) % 40 := ⟨_, rfl⟩
    have hfm := Nat.mod_lt (fi + n) (show 0 < 40 by decide)
    obtain ⟨c2, g1, g2, g3, g4, g5, g6, g7, g8, g9, g10⟩ := y_layC e fi n b ag c1 he hf1 hfi.2.2 hn1 h40 hl1 hb1 hb hag f hf
    obtain ⟨d1, hd1⟩ : ∃ d1, d1 = sl_up d 68 0 0 (d.1 68 0 0 + sl_i 1) := ⟨_, rfl⟩
    have hv1 : y_hv d1 := fun k hk => by rw [hd1, up_ne (by omega)]; exact hv k hk
    have hck := y_ckX11 8 0 b d1 hv1 (by show 0 + b ≤ 200; omega) (by omega)
    have hcrc : y_crc (fun j => sl_b8 (d1.1 30 8 (0 + j))) b = y_crc (y_rb c1 (2 + e)) b := by
      apply y_crc_ext
      intro i hi
      rw [hd1, up_ne (by omega), Nat.zero_add, hr1]
      exact (hbd i hi).symm
    rw [hcrc] at hck
    obtain ⟨X, hX⟩ : ∃ X, X = y_crc (y_rb c1 (2 + e)) b ^^^ (-(sl_i 1)) := ⟨_, rfl⟩
    rw [← hX] at hck g4
    obtain ⟨d2, k1, k3, k4⟩ := y_lay47 e b (sl_i ag) X (by omega) 4 0 99995 d1 (by omega)
    obtain ⟨d3, hd3⟩ : ∃ d3, d3 = sl_up d2 63 0 e (sl_i (n + 1)) := ⟨_, rfl⟩
    have hd3r : ∀ j, y_mb d3 8 j = y_mb d2 8 j := fun j => by rw [hd3, y_mb_ne (by omega)]
    have hd2b : ∀ j, j < b → y_mb d2 8 j = y_mb d 8 j := fun j hj => by
      rw [y_sm_mb k4 (by omega), hd1, y_mb_ne (by omega)]
    have hg' : ∀ j, j < b + 4 → y_mb d3 8 j = y_rb c2 (2 + e) j := by
      intro j hj
      rw [hd3r]
      by_cases h : j < b
      · rw [hd2b j h, g3 j h, hr1]; exact (hbd j h).symm
      · have e1 := k3 (j - b) (by omega) (by omega)
        have e2 := g4 (j - b) (by omega)
        rw [show b + (j - b) = j by omega] at e1 e2
        rw [e1, e2]
    obtain ⟨L, c3, d4, s1, s2, s3, s4, s5, s6, s7, s8⟩ := y_stuff (y_rb c2 (2 + e)) (2 + e) (14 + f) 8 7 (80 * f) (b + 4) c2 d3 (by omega) (by omega) (by omega) (by omega)
      (by rw [y_lr14]; omega) (by show _ ≤ 6400; omega) (by show _ ≤ 200; omega) g2 (fun j _ => rfl) hg'
    have hd4r : ∀ k w p, k ≠ 30 → d4.1 k w p = d3.1 k w p := fun k w p h => s8.2 k w p (by omega)
    have h8 : ∀ j, y_mb d4 8 j = y_mb d3 8 j := fun j => y_sm_mb s8 (by omega)
    have h80 : sl_b8 (d4.1 30 8 0) = y_mb d 8 0 := by
      have := h8 0
      rw [hd3r, hd2b 0 (by omega)] at this
      exact this
    have hc30 : y_rb c1 (2 + e) 0 = y_mb d 8 0 := by rw [hr1]; exact hbd 0 (by omega)
    rw [hc30] at g6 g7
    refine ⟨sl_up (sl_up c3 20 (14 + f) L (sl_sx (sl_i 0))) 6 (14 + f) 1 (sl_i (L + 1)),
      sl_up (sl_up (sl_up (sl_up (sl_up (sl_up d4 30 7 (80 * f + L) (sl_i 0)) 64 0 f (sl_i (L + 1))) 65 0 f (sl_i (y_mb d 8 0 / 64))) 66 0 f (sl_i (y_mb d 8 0 % 64))) 67 0 f (sl_i (b - 1))) 73 0 f (sl_i ag), ?_, ?_, ?_, ?_, ?_, ?_, ?_, ?_, ?_⟩
    · rw [hc1, g1, s1, ob_some, y_add _ _ s3 (by rw [y_lr14]; omega), ob_some]
    · have h62 : d2.1 62 0 e = sl_i fi := by rw [k4.2 _ _ _ (by omega), hd1, up_ne (by omega)]; exact hfi.2.1
      have h63 : d2.1 63 0 e = sl_i n := by rw [k4.2 _ _ _ (by omega), hd1, up_ne (by omega)]; exact hn.2.1
      rw [e_X11_lay]
      simp (disch := omega) only [i_lit, i_ofNat, i_add, i_mul, i_sub, i_addn, i_subm, y_nsm, i_le, i_lt, i_nat, i_eq, i_div, i_nle, i_nlt, i_len, i_ltn, i_neq, i_eqn, i_and1, i_and63, i_and255, b8_sx, ob_some, if_true, if_false, and_self, true_and, if_pos, if_neg, hn.2.1]
      rw [← hd1, hck, ob_some]
      simp only [i_lit]
      rw [show (99999 : Nat) = 99995 + 4 from rfl, k1, e_X11_lay_47]
      simp (disch := omega) only [i_lit, i_ofNat, i_add, i_mul, i_sub, i_addn, i_subm, y_nsm, i_le, i_lt, i_nat, i_eq, i_div, i_nle, i_nlt, i_len, i_ltn, i_neq, i_eqn, i_and1, i_and63, i_and255, b8_sx, ob_some, if_true, if_false, and_self, true_and, if_pos, if_neg, h62, h63]
      rw [← hf, ← hd3, s2]
      simp (disch := omega) only [i_lit, i_ofNat, i_add, i_mul, i_sub, i_addn, i_subm, y_nsm, i_le, i_lt, i_nat, i_eq, i_div, i_nle, i_nlt, i_len, i_ltn, i_neq, i_eqn, i_and1, i_and63, i_and255, b8_sx, ob_some, if_true, if_false, and_self, true_and, if_pos, if_neg, sx_and63]
      rw [h80]
      have := y_mb_lt d 8 0
      simp (disch := omega) only [i_shrA]
    · rw [if_pos h40]
      refine ⟨⟨?_, ?_, hfi.2.2⟩, ⟨?_, ?_, by omega⟩, ?_, ?_⟩
      · rw [up_ne (by omega), up_ne (by omega), s7.2 _ _ _ (by omega), g10.2 _ _ _ (by omega)]; exact hf1
      · rw [up_ne (by omega), up_ne (by omega), up_ne (by omega), up_ne (by omega), up_ne (by omega), up_ne (by omega), hd4r _ _ _ (by omega), hd3, up_ne (by omega), k4.2 _ _ _ (by omega), hd1, up_ne (by omega)]; exact hfi.2.1
      · rw [up_ne (by omega), up_ne (by omega), s7.2 _ _ _ (by omega)]; exact g5
      · rw [up_ne (by omega), up_ne (by omega), up_ne (by omega), up_ne (by omega), up_ne (by omega), up_ne (by omega), hd4r _ _ _ (by omega), hd3, up_eq rfl rfl rfl]
      · intro j hj
        by_cases h : j = n
        · subst h
          rw [up_eq rfl (by rw [hf]) rfl, ne_eq, i_eq (by omega) (by omega)]; omega
        · have hne2 : (fi + j) % 40 ≠ (fi + n) % 40 := by omega
          rw [up_ne (by omega), up_ne (by omega), s7.2 _ _ _ (by omega), g10.2 _ _ _ (by omega), hc1s.2 _ _ _ (by omega)]
          exact hne j (by omega)
      · intro j hj
        by_cases h : 40 * e + j = f
        · rw [h]
          refine ⟨L + 1, y_mb d 8 0 / 64, y_mb d 8 0 % 64, b - 1, ag, ⟨?_, ?_, by omega⟩, ⟨?_, ?_⟩, ⟨?_, ?_⟩, ⟨?_, ?_⟩, ⟨?_, ?_, hag⟩, ?_, ?_, ?_, by omega⟩
          · rw [up_eq rfl rfl rfl]
          · rw [up_ne (by omega), up_ne (by omega), up_ne (by omega), up_ne (by omega), up_eq rfl rfl rfl]
          · rw [up_ne (by omega), up_ne (by omega), s7.2 _ _ _ (by omega)]; exact g6
          · rw [up_ne (by omega), up_ne (by omega), up_ne (by omega), up_eq rfl rfl rfl]
          · rw [up_ne (by omega), up_ne (by omega), s7.2 _ _ _ (by omega)]; exact g7
          · rw [up_ne (by omega), up_ne (by omega), up_eq rfl rfl rfl]
          · rw [up_ne (by omega), up_ne (by omega), s7.2 _ _ _ (by omega)]; exact g8
          · rw [up_ne (by omega), up_eq rfl rfl rfl]
          · rw [up_ne (by omega), up_ne (by omega), s7.2 _ _ _ (by omega)]; exact g9
          · rw [up_eq rfl rfl rfl]
          · intro i hi
            rw [y_rb_ne (by omega), y_mb_ne (by omega), y_mb_ne (by omega), y_mb_ne (by omega), y_mb_ne (by omega), y_mb_ne (by omega)]
            by_cases h2 : i = L
            · rw [y_rb_up rfl h2, sx_i0, y_mb_up rfl (by omega), b8_sx]
            · rw [y_rb_ne (by omega), y_mb_ne (by omega)]
              exact s6.1 i (by omega)
          · intro _
            refine ⟨by omega, ?_, ?_⟩
            · rw [y_rb_ne (by omega), y_rb_up rfl (by omega)]; rfl
            · intro i hi
              rw [y_rb_ne (by omega), y_rb_ne (by omega)]
              exact s6.2.1 i (by omega)
          · intro hso _
            have h2 := s6.2.2 (by rw [g3 0 (by omega), hc30]; omega) (by omega)
            rw [y_rb_ne (by omega), y_rb_ne (by omega), y_rb_ne (by omega), y_rb_ne (by omega)]
            rw [g3 0 (by omega), hc30] at h2
            omega
        · refine y_fr_cong (hfr j hj) ?_ ?_ ?_ ?_ ?_
          · rw [up_ne (by omega), up_ne (by omega), s7.2 _ _ _ (by omega), g10.2 _ _ _ (by omega), hc1s.2 _ _ _ (by omega)]
          · intro p
            rw [up_ne (by omega), up_ne (by omega), s7.2 _ _ _ (by omega), g10.2 _ _ _ (by omega), hc1s.2 _ _ _ (by omega)]
          · intro p
            rw [up_ne (by omega), up_ne (by omega), s7.2 _ _ _ (by omega), g10.2 _ _ _ (by omega), hc1s.2 _ _ _ (by omega)]
          · intro k hk
            rw [up_ne (by omega), up_ne (by omega), up_ne (by omega), up_ne (by omega), up_ne (by omega), up_ne (by omega), hd4r _ _ _ (by omega), hd3, up_ne (by omega), k4.2 _ _ _ (by omega), hd1, up_ne (by omega)]
          · intro p hp
            rw [up_ne (by omega), up_ne (by omega), up_ne (by omega), up_ne (by omega), up_ne (by omega), up_ne (by omega), s8.2 _ _ _ (by omega), hd3, up_ne (by omega), k4.2 _ _ _ (by omega), hd1, up_ne (by omega)]
    · intro k hk
      rw [up_ne (by omega), up_ne (by omega), s7.2 _ _ _ (by omega), g10.2 _ _ _ (by omega)]
      rw [up_ne (by omega), up_ne (by omega), up_ne (by omega), up_ne (by omega), up_ne (by omega), up_ne (by omega), hd4r _ _ _ (by omega), hd3, up_ne (by omega), k4.2 _ _ _ (by omega), hd1]
      by_cases h0 : k = 0
      · subst h0
        rw [up_eq rfl rfl rfl, hc10, hC 0 (by omega) (by omega)]
      · rw [up_ne (by omega)]
        by_cases h1 : k = 1
        · subst h1; exact hc11
        · rw [hc1k k (by omega)]; exact hC k hk h1
    · rw [up_ne (by omega), up_ne (by omega), up_ne (by omega), up_ne (by omega), up_ne (by omega), up_ne (by omega), hd4r _ _ _ (by omega), hd3, up_ne (by omega), k4.2 _ _ _ (by omega), hd1, up_eq rfl rfl rfl]
    · intro _
      rw [← hf, up_ne (by omega), up_ne (by omega), s7.2 _ _ _ (by omega)]; exact g6
    · intro j hj hjn
      have := hjn h40
      rw [up_ne (by omega), up_ne (by omega), s7.2 _ _ _ (by omega), g10.2 _ _ _ (by omega), hc1s.2 _ _ _ (by omega)]
    · refine ⟨?_, fun k w p h => ?_⟩
      · rw [up_2, up_2, s7.1, g10.1, hc1s.1]
      · unfold y_zF at h
        rw [up_ne (by omega), up_ne (by omega), s7.2 _ _ _ (by omega), g10.2 _ _ _ (by omega), hc1s.2 _ _ _ (by omega)]
    · refine ⟨?_, fun k w p h => ?_⟩
      · rw [up_2, up_2, up_2, up_2, up_2, up_2, s8.1, hd3, up_2, k4.1, hd1, up_2]
      · unfold y_zFd at h
        rw [up_ne (by omega), up_ne (by omega), up_ne (by omega), up_ne (by omega), up_ne (by omega), up_ne (by omega), s8.2 _ _ _ (by omega), hd3, up_ne (by omega), k4.2 _ _ _ (by omega), hd1, up_ne (by omega)]
  · have hn40 : n = 40 := by omega
    subst hn40
    refine ⟨sl_up c1 27 2 2 (c1.1 27 2 2 + sl_i 1), sl_up (sl_up d 68 0 0 (d.1 68 0 0 + sl_i 1)) 68 0 2 (d.1 68 0 2 + sl_i 1), ?_, ?_, ?_, ?_, ?_, fun h => by omega, ?_, ?_, ?_⟩
    · rw [hc1]
      unfold y_layX
      rw [hn1]
      simp (disch := omega) only [i_lit, i_ofNat, i_add, i_mul, i_sub, i_addn, i_subm, y_nsm, i_le, i_lt, i_nat, i_eq, i_div, i_nle, i_nlt, i_len, i_ltn, i_neq, i_eqn, i_and1, i_and63, i_and255, b8_sx, ob_some, if_true, if_false, and_self, true_and, if_pos, if_neg]
      rw [y_tally _ (by omega), ob_some]
    · rw [e_X11_lay]
      simp (disch := omega) only [i_lit, i_ofNat, i_add, i_mul, i_sub, i_addn, i_subm, y_nsm, i_le, i_lt, i_nat, i_eq, i_div, i_nle, i_nlt, i_len, i_ltn, i_neq, i_eqn, i_and1, i_and63, i_and255, b8_sx, ob_some, if_true, if_false, and_self, true_and, if_pos, if_neg, hn.2.1]
    · rw [if_neg h40]
      refine y_gL_cong ⟨hfi, hn, hne, hfr⟩ he (S := fun k w p => k = 27) (T := fun k w p => k = 68) ?_ ?_ ?_ ?_
      · exact ⟨by rw [up_2, hc1s.1], fun k w p h => by rw [up_ne (by omega), hc1s.2 _ _ _ (by omega)]⟩
      · exact ⟨rfl, fun k w p h => by rw [up_ne (by omega), up_ne (by omega)]⟩
      · intro k w p h; unfold y_zF at h; omega
      · intro k w p h; unfold y_zFd at h; omega
    · intro k hk
      by_cases h2 : k = 2
      · subst h2
        rw [up_eq rfl rfl rfl, up_eq rfl rfl rfl, hc1k 2 (by omega), hC 2 (by omega) (by omega)]
      · rw [up_ne (by omega), up_ne (by omega)]
        by_cases h0 : k = 0
        · subst h0
          rw [up_eq rfl rfl rfl, hc10, hC 0 (by omega) (by omega)]
        · rw [up_ne (by omega)]
          by_cases h1 : k = 1
          · subst h1; exact hc11
          · rw [hc1k k (by omega)]; exact hC k hk h1
    · rw [up_ne (by omega), up_eq rfl rfl rfl]
    · intro j hj _
      rw [up_ne (by omega), hc1s.2 _ _ _ (by omega)]
    · exact ⟨by rw [up_2, hc1s.1], fun k w p h => by rw [up_ne (by omega), hc1s.2 _ _ _ (by omega)]⟩
    · exact ⟨rfl, fun k w p h => by rw [up_ne (by omega), up_ne (by omega)]⟩
