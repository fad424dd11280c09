/-! the end of what is heard: the body is looked at, and taken -/
def y_E (mo sp wi si ti e fi n K : Nat) (c d : sl_M) : Prop := y_gS mo sp wi si ti c d ∧ y_gL e fi n c d ∧ y_hv d ∧ y_gP e wi si K c d ∧ y_gR e mo sp wi si c d
def y_zS (e k w p : Nat) : Prop := k = 8 ∨ y_zF e k w p ∨ y_zP e k w p ∨ y_zR e k w p
def y_zSd (e k w p : Nat) : Prop := (k = 11 ∧ 9 ≤ p) ∨ k = 50 ∨ y_zFd e k w p ∨ y_zPd e k w p ∨ y_zRd e k w p
theorem y_gP_cong {e wi si K : Nat} {c d c' d' : sl_M} {S T : Nat → Nat → Nat → Prop} (h : y_gP e wi si K c d) (he : e < 2) (hc : y_sm S c c') (hd : y_sm T d d')
    (hS : ∀ k w p, y_zP e k w p → ¬ S k w p) (hT : ∀ k w p, y_zPd e k w p → ¬ T k w p) : y_gP e wi si K c' d' := by
  obtain ⟨G, P, ck, tm, ba, ne, h1, h2⟩ := h
  exact ⟨G, P, ck, tm, ba, ne, y_gPx_cong h1 he hc hd hS hT, h2⟩
theorem y_gR_cong {e mo sp wi si : Nat} {c d c' d' : sl_M} {S T : Nat → Nat → Nat → Prop} (h : y_gR e mo sp wi si c d) (he : e < 2) (hsp : sp ≤ 64) (hsp0 : 0 < sp) (hsi : si ≤ 60) (hc : y_sm S c c') (hd : y_sm T d d')
    (hS : ∀ k w p, y_zR e k w p → ¬ S k w p) (hT : ∀ k w p, y_zRd e k w p → ¬ T k w p) : y_gR e mo sp wi si c' d' := by
  obtain ⟨W, T, h1, h2, h3⟩ := h
  have h27 : ∀ s, c'.1 27 e s = c.1 27 e s := fun s => hc.2 _ _ _ (hS _ _ _ (by unfold y_zR; omega))
  refine ⟨W, T, y_gRx_cong h1 he hsp hsp0 hsi hc hd hS hT, ?_, ?_⟩
  · intro sz a1 a2 a3; rw [h27] at a2; exact h2 sz a1 a2 a3
  · intro hm s hs; rw [h27]; exact h3 hm s hs
theorem y_E_cong {mo sp wi si ti e fi n K : Nat} {c d c' d' : sl_M} {S T : Nat → Nat → Nat → Prop} (h : y_E mo sp wi si ti e fi n K c d) (he : e < 2) (hc : y_sm S c c') (hd : y_sm T d d')
    (hS : ∀ k w p, y_zS e k w p → ¬ S k w p) (hT : ∀ k w p, y_zSd e k w p → ¬ T k w p) : y_E mo sp wi si ti e fi n K c' d' := by
  obtain ⟨h1, h2, h3, h4, h5⟩ := h
  have hS2 := h1
  obtain ⟨_, _, hmo, hsp2, hsp64, hw1, hwA, hwB, hsi1, hsi60, hti1, hti50⟩ := hS2
  refine ⟨?_, ?_, ?_, ?_, ?_⟩
  · exact y_gS_cong h1 (fun p => hc.2 _ _ _ (hS _ _ _ (.inl rfl))) (fun p h9 _ => hd.2 _ _ _ (hT _ _ _ (.inl ⟨rfl, h9⟩)))
  · exact y_gL_cong h2 he hc hd (fun k w p h => hS k w p (.inr (.inl h))) (fun k w p h => hT k w p (.inr (.inr (.inl h))))
  · intro k hk; rw [hd.2 _ _ _ (hT _ _ _ (.inr (.inl rfl)))]; exact h3 k hk
  · exact y_gP_cong h4 he hc hd (fun k w p h => hS k w p (.inr (.inr (.inl h)))) (fun k w p h => hT k w p (.inr (.inr (.inr (.inl h)))))
  · exact y_gR_cong h5 he hsp64 (by omega) hsi60 hc hd (fun k w p h => hS k w p (.inr (.inr (.inr h)))) (fun k w p h => hT k w p (.inr (.inr (.inr (.inr h)))))
theorem y_zS0 {e k w p : Nat} (h : y_zS e k w p) (he : e < 2) : k = 8 ∨ k = 4 ∨ k = 2 ∨ k = 7 ∨ k = 5 ∨ (k = 27 ∧ w ≤ 1) ∨ (23 ≤ k ∧ k ≤ 26) ∨ ((k = 6 ∨ k = 20) ∧ (14 ≤ w ∨ (4 ≤ w ∧ w ≤ 9))) := by
  unfold y_zS y_zF y_zP y_zR at h; omega
theorem y_zSd0 {e k w p : Nat} (h : y_zSd e k w p) (he : e < 2) : (k = 11 ∧ 9 ≤ p) ∨ (50 ≤ k ∧ k ≤ 60) ∨ (62 ≤ k ∧ k ≤ 67) ∨ k = 70 ∨ k = 71 ∨ k = 73 ∨ (k = 30 ∧ (w = 3 ∨ w = 4 ∨ w = 5 ∨ w = 7)) := by
  unfold y_zSd y_zFd y_zPd y_zRd at h; omega
/-- the check of a body -/
theorem y_ckh21 (e M : Nat) (X : Int32) (he : e < 2) (hM : M ≤ 120) (hM5 : 5 ≤ M) (c d : sl_M) (hl : c.1 6 (12 + e) 1 = sl_i M) (hb : ∀ j, j < M → y_rb c (12 + e) j = y_mb d 9 j) : ∀ k i fuel fuel', i + k = 4 →
    ∃ x, x ≤ 1 ∧ b_X1_checkHolds_21 (fuel + k + 1) e (sl_i (M - 4)) X (sl_i i) c = some ((sl_i x, 0, 0), c) ∧ b_X11_isRight_18 (fuel' + k + 1) (sl_i M) X (sl_i 1) (sl_i i) d = some ((sl_i x, 0, 0), d) := by
  have hlr := y_lr12 he
  have hz : ∀ k i fuel', i + k = 4 → b_X11_isRight_18 (fuel' + k + 1) (sl_i M) X (sl_i 0) (sl_i i) d = some ((sl_i 0, 0, 0), d) := by
    intro k
    induction k with
    | zero =>
      intro i fuel' hi
      rw [e_X11_isRight_18]
      simp (disch := omega) only [i_lit, i_ofNat, i_add, i_mul, i_sub, i_addn, i_subm, y_nsm, i_le, i_lt, i_nat, i_eq, i_div, i_nle, i_nlt, i_len, i_ltn, i_neq, i_eqn, i_and1, i_and63, i_and255, b8_sx, ob_some, if_true, if_false, and_self, true_and, if_pos, if_neg, true_or]
    | succ k ih =>
      intro i fuel' hi
      rw [show fuel' + (k + 1) + 1 = fuel' + k + 1 + 1 from rfl, e_X11_isRight_18]
      simp (disch := omega) only [i_lit, i_ofNat, i_add, i_mul, i_sub, i_addn, i_subm, y_nsm, i_le, i_lt, i_nat, i_eq, i_div, i_nle, i_nlt, i_len, i_ltn, i_neq, i_eqn, i_and1, i_and63, i_and255, b8_sx, ob_some, if_true, if_false, and_self, true_and, if_pos, if_neg]
      exact ih (i + 1) fuel' (by omega)
  intro k
  induction k with
  | zero =>
    intro i fuel fuel' hi
    refine ⟨1, by omega, ?_, ?_⟩
    · rw [e_X1_checkHolds_21]
      simp (disch := omega) only [i_lit, i_ofNat, i_add, i_mul, i_sub, i_addn, i_subm, y_nsm, i_le, i_lt, i_nat, i_eq, i_div, i_nle, i_nlt, i_len, i_ltn, i_neq, i_eqn, i_and1, i_and63, i_and255, b8_sx, ob_some, if_true, if_false, and_self, true_and, if_pos, if_neg]
    · rw [e_X11_isRight_18]
      simp (disch := omega) only [i_lit, i_ofNat, i_add, i_mul, i_sub, i_addn, i_subm, y_nsm, i_le, i_lt, i_nat, i_eq, i_div, i_nle, i_nlt, i_len, i_ltn, i_neq, i_eqn, i_and1, i_and63, i_and255, b8_sx, ob_some, if_true, if_false, and_self, true_and, if_pos, if_neg, or_true]
  | succ k ih =>
    intro i fuel fuel' hi
    have hbb := y_rb_lt c (12 + e) (M - 4 + i)
    have hbe : sl_b8 (d.1 30 9 (M - 4 + i)) = y_rb c (12 + e) (M - 4 + i) := (hb (M - 4 + i) (by omega)).symm
    have hx := b8_lt (sl_ush X (sl_i (8 * i)))
    rw [show fuel + (k + 1) + 1 = fuel + k + 1 + 1 from rfl, show fuel' + (k + 1) + 1 = fuel' + k + 1 + 1 from rfl, e_X1_checkHolds_21, e_X11_isRight_18]
    simp (disch := omega) only [i_lit, i_ofNat, i_add, i_mul, i_sub, i_addn, i_subm, y_nsm, i_le, i_lt, i_nat, i_eq, i_div, i_nle, i_nlt, i_len, i_ltn, i_neq, i_eqn, i_and1, i_and63, i_and255, b8_sx, ob_some, if_true, if_false, and_self, true_and, if_pos, if_neg, hbe]
    rw [y_at c hl (by omega) (by omega), ob_some]
    simp (disch := omega) only [i_eq]
    by_cases hq : y_rb c (12 + e) (M - 4 + i) = sl_b8 (sl_ush X (sl_i (8 * i)))
    · rw [if_pos hq, if_pos hq]
      exact ih (i + 1) fuel fuel' (by omega)
    · rw [if_neg hq, if_neg hq]
      refine ⟨0, by omega, rfl, ?_⟩
      exact hz k (i + 1) fuel' (by omega)
theorem y_ckh (e M : Nat) (he : e < 2) (hM : M ≤ 120) (hM5 : 5 ≤ M) (c d : sl_M) (hv : y_hv d) (hl : c.1 6 (12 + e) 1 = sl_i M) (hb : ∀ j, j < M → y_rb c (12 + e) j = y_mb d 9 j) :
    ∃ x, x ≤ 1 ∧ f_X1_checkHolds e c = some ((sl_i x, 0, 0), c) ∧ f_X11_isRight (sl_i M) d = some ((sl_i x, 0, 0), d) := by
  have hlr := y_lr12 he
  have h1 := y_ckX0 (12 + e) (M - 4) M c hl (by omega) (by omega) (by omega)
  have h2 := y_ckX11 9 0 (M - 4) d hv (by show _ ≤ 200; omega) (by omega)
  have h3 : y_crc (fun j => sl_b8 (d.1 30 9 (0 + j))) (M - 4) = y_crc (fun j => sl_b8 (c.1 20 (12 + e) j)) (M - 4) := by
    apply y_crc_ext
    intro i hi
    rw [Nat.zero_add]
    exact (hb i (by omega)).symm
  rw [h3] at h2
  obtain ⟨x, g1, g2, g3⟩ := y_ckh21 e M (y_crc (fun j => sl_b8 (c.1 20 (12 + e) j)) (M - 4) ^^^ (-(sl_i 1))) he hM hM5 c d hl hb 4 0 99994 99994 (by omega)
  refine ⟨x, g1, ?_, ?_⟩
  · rw [e_X1_checkHolds, hl]
    simp (disch := omega) only [i_lit, i_sub]
    rw [h1, ob_some]; exact g2
  · rw [e_X11_isRight]
    simp (disch := omega) only [i_lit, i_sub]
    rw [h2, ob_some]; exact g3
theorem y_wrong (d : sl_M) {k : Nat} (hk : k ≤ 5) (hk1 : 1 ≤ k) : f_X11_wrong (sl_i k) d = some ((sl_i 0, 0, 0), sl_up (sl_up d 68 0 7 (d.1 68 0 7 + sl_i 1)) 68 0 (10 + k) (d.1 68 0 (10 + k) + sl_i 1)) := by
  rw [e_X11_wrong]
  simp (disch := omega) only [i_lit, i_ofNat, i_add, i_mul, i_sub, i_addn, i_subm, y_nsm, i_le, i_lt, i_nat, i_eq, i_div, i_nle, i_nlt, i_len, i_ltn, i_neq, i_eqn, i_and1, i_and63, i_and255, b8_sx, ob_some, if_true, if_false, and_self, true_and, if_pos, if_neg, up_eq, up_ne]
theorem y_gC_wrong {c d : sl_M} {k : Nat} (h : y_gC c d) (hk1 : 1 ≤ k) (hk : k ≤ 5) :
    y_gC (sl_up (sl_up c 27 2 7 (c.1 27 2 7 + sl_i 1)) 27 2 (10 + k) (c.1 27 2 (10 + k) + sl_i 1)) (sl_up (sl_up d 68 0 7 (d.1 68 0 7 + sl_i 1)) 68 0 (10 + k) (d.1 68 0 (10 + k) + sl_i 1)) := by
  intro j hj
  by_cases h1 : j = 10 + k
  · subst h1; rw [up_eq rfl rfl rfl, up_eq rfl rfl rfl, h _ hj]
  · by_cases h2 : j = 7
    · subst h2; rw [up_ne (by omega), up_eq rfl rfl rfl, up_ne (by omega), up_eq rfl rfl rfl, h _ hj]
    · rw [up_ne (by omega), up_ne (by omega), up_ne (by omega), up_ne (by omega)]; exact h j hj
/-- the zones of one end's hearing -/
def y_zHc (e k w p : Nat) : Prop := (k = 27 ∧ w = 2) ∨ y_zLc e k w p ∨ y_zP e k w p ∨ y_zR e k w p ∨ (((k = 6 ∧ p = 1) ∨ k = 20) ∧ (w = 10 + e ∨ w = 12 + e)) ∨ (k = 1 ∧ w = e ∧ p = 5) ∨ (k = 3 ∧ w = 1 + e ∧ p ≤ 1)
def y_zHd (e k w p : Nat) : Prop := (k = 68 ∧ w = 0) ∨ y_zLd e k w p ∨ y_zPd e k w p ∨ y_zRd e k w p ∨ ((k = 61 ∨ k = 72) ∧ w = 0 ∧ p = e) ∨ (k = 30 ∧ w = 6 ∧ 120 * e ≤ p ∧ p < 120 * e + 120) ∨ (k = 30 ∧ (w = 2 ∨ w = 9))
def y_zTc (e k w p : Nat) : Prop := (k = 27 ∧ w = 2) ∨ y_zLc e k w p ∨ y_zP e k w p ∨ y_zR e k w p
def y_zTd (e k w p : Nat) : Prop := (k = 68 ∧ w = 0) ∨ y_zLd e k w p ∨ y_zPd e k w p ∨ y_zRd e k w p
theorem y_kl (c : sl_M) {mo wi : Nat} (h0 : c.1 8 0 0 = sl_i mo) (h2 : c.1 8 0 2 = sl_i wi) (hmo : mo ≤ 2) (hw1 : 1 ≤ wi) (hw : wi ≤ 63) :
    f_X8_knownLoad c = some ((sl_i (if mo = 2 then (wi + 6) / 8 else 0), 0, 0), c) := by
  by_cases hm2 : mo = 2
  · subst hm2
    rw [e_X8_knownLoad, y_each2 c h0, ob_some, h2, if_pos rfl]
    simp (disch := omega) only [i_lit, i_ofNat, i_add, i_mul, i_sub, i_addn, i_subm, y_nsm, i_le, i_lt, i_nat, i_eq, i_div, i_nle, i_nlt, i_len, i_ltn, i_neq, i_eqn, i_and1, i_and63, i_and255, b8_sx, ob_some, if_true, if_false, and_self, true_and, if_pos, if_neg]
    rw [show wi - 1 + 7 = wi + 6 by omega]
  · rw [e_X8_knownLoad, y_each0 c h0 (by omega), ob_some, if_neg hm2]
    simp (disch := omega) only [i_lit, i_ofNat, i_add, i_mul, i_sub, i_addn, i_subm, y_nsm, i_le, i_lt, i_nat, i_eq, i_div, i_nle, i_nlt, i_len, i_ltn, i_neq, i_eqn, i_and1, i_and63, i_and255, b8_sx, ob_some, if_true, if_false, and_self, true_and, if_pos, if_neg]
theorem y_kb (d : sl_M) {mo wi : Nat} (h0 : d.1 11 0 9 = sl_i mo) (h2 : d.1 11 0 11 = sl_i wi) (hmo : mo ≤ 2) (hw1 : 1 ≤ wi) (hw : wi ≤ 63) :
    f_X11_knownBytes d = some ((sl_i (if mo = 2 then (wi + 6) / 8 else 0), 0, 0), d) := by
  rw [e_X11_knownBytes, h0, h2]
  by_cases hm2 : mo = 2
  · rw [if_pos hm2]
    simp (disch := omega) only [i_lit, i_ofNat, i_add, i_mul, i_sub, i_addn, i_subm, y_nsm, i_le, i_lt, i_nat, i_eq, i_div, i_nle, i_nlt, i_len, i_ltn, i_neq, i_eqn, i_and1, i_and63, i_and255, b8_sx, ob_some, if_true, if_false, and_self, true_and, if_pos, if_neg]
  · rw [if_neg hm2]
    simp (disch := omega) only [i_lit, i_ofNat, i_add, i_mul, i_sub, i_addn, i_subm, y_nsm, i_le, i_lt, i_nat, i_eq, i_div, i_nle, i_nlt, i_len, i_ltn, i_neq, i_eqn, i_and1, i_and63, i_and255, b8_sx, ob_some, if_true, if_false, and_self, true_and, if_pos, if_neg]
theorem y_zTP {e k w p : Nat} (he : e < 2) (h : y_zP e k w p) : ¬ y_zDc e k w p := fun q => by
  rcases q with q | q | q
  · unfold y_zP at h; omega
  · exact y_zP_L he h q
  · unfold y_zP at h; unfold y_zR at q; omega
theorem y_zTPd {e k w p : Nat} (he : e < 2) (h : y_zPd e k w p) : ¬ y_zDd e k w p := fun q => by
  rcases q with q | q | q
  · unfold y_zPd at h; omega
  · exact y_zPd_L he h q
  · unfold y_zPd at h; unfold y_zRd at q; omega
theorem y_E_tally {mo sp wi si ti e fi n K : Nat} {c d c' d' : sl_M} (h : y_E mo sp wi si ti e fi n K c d) (he : e < 2) (hc : y_sm (fun k w p => k = 27 ∧ w = 2) c c') (hd : y_sm (fun k w p => k = 68 ∧ w = 0) d d') : y_E mo sp wi si ti e fi n K c' d' :=
  y_E_cong h he hc hd (fun k w p h => by have := y_zS0 h he; omega) (fun k w p h => by have := y_zSd0 h he; omega)
theorem y_takA (mo sp wi si ti e fi n K M a : Nat) (c d c1 d1 : sl_M) (he : e < 2) (hE : y_E mo sp wi si ti e fi n K c d) (hc1 : y_sm (fun k w p => k = 27 ∧ w = 2) c c1) (hd1 : y_sm (fun k w p => k = 68 ∧ w = 0) d d1) (hC1 : y_gC c1 d1)
    (hM5 : 5 ≤ M) (hM2 : M ≤ 119) (hl : c.1 6 (12 + e) 1 = sl_i M) (hb : ∀ j, j < M → y_rb c (12 + e) j = y_mb d 9 j) (ha : a < sp) (hl1 : 1 ≤ M - 5) (hl2 : M - 5 ≤ si) :
    ∃ c' d' n', y_dataC e a (M - 5) c1 = some ((sl_i 0, 0, 0), c') ∧ (2 ≤ mo → f_X11_byItself (sl_i e) (sl_i a) (sl_i (M - 5)) d1 = some ((sl_i 0, 0, 0), d')) ∧ (¬ 2 ≤ mo → f_X11_inOrder (sl_i e) (sl_i a) (sl_i (M - 5)) d1 = some ((sl_i 0, 0, 0), d')) ∧
      y_E mo sp wi si ti e fi n' K c' d' ∧ y_gC c' d' ∧ y_grow e fi n n' c c' ∧ y_sm (y_zTc e) c c' ∧ y_sm (y_zTd e) d d' := by
  have hE1 := y_E_tally hE he hc1 hd1
  obtain ⟨h1, h2, h3, h4, h5⟩ := hE1
  have hmo : mo ≤ 2 := h1.2.2.1
  have hfin : ∀ c' d' n', y_gL e fi n' c' d' → y_gC c' d' → y_gR e mo sp wi si c' d' → y_grow e fi n n' c1 c' → y_sm (y_zDc e) c1 c' → y_sm (y_zDd e) d1 d' →
      y_E mo sp wi si ti e fi n' K c' d' ∧ y_gC c' d' ∧ y_grow e fi n n' c c' ∧ y_sm (y_zTc e) c c' ∧ y_sm (y_zTd e) d d' := by
    intro c' d' n' g1 g2 g3 g4 g5 g6
    refine ⟨⟨?_, g1, ?_, y_gP_cong h4 he g5 g6 (fun _ _ _ h => y_zTP he h) (fun _ _ _ h => y_zTPd he h), g3⟩, g2, ⟨?_, ?_⟩, ?_, ?_⟩
    · exact y_gS_cong h1 (fun p => g5.2 _ _ _ (fun q => by
        rcases q with q | q | q
        · omega
        · have := y_zLc0 q he; omega
        · unfold y_zR at q; omega)) (fun p _ _ => g6.2 _ _ _ (fun q => by
        rcases q with q | q | q
        · omega
        · have := y_zLd0 q he; omega
        · unfold y_zRd at q; omega))
    · intro k hk
      rw [g6.2 _ _ _ (fun q => by
        rcases q with q | q | q
        · omega
        · have := y_zLd0 q he; omega
        · unfold y_zRd at q; omega)]
      exact h3 k hk
    · exact g4.1
    · intro j hj hn; rw [g4.2 j hj hn, hc1.2 _ _ _ (by omega)]
    · refine y_sm_tr hc1 g5 (fun k w p h => .inl h) ?_
      intro k w p h
      rcases h with h | h | h
      · exact .inl h
      · exact .inr (.inl h)
      · exact .inr (.inr (.inr h))
    · refine y_sm_tr hd1 g6 (fun k w p h => .inl h) ?_
      intro k w p h
      rcases h with h | h | h
      · exact .inl h
      · exact .inr (.inl h)
      · exact .inr (.inr (.inr h))
  by_cases hm : 2 ≤ mo
  · have hm2 : mo = 2 := by omega
    subst hm2
    obtain ⟨c', d', n', r1, r2, r3, r4, r5, r6, r7, r8⟩ := y_data2 sp wi si ti e fi n a (M - 5) M c1 d1 he h1 h2 h3 hC1 h5 ha hl1 hl2 (by rw [hc1.2 _ _ _ (by omega)]; exact hl) (by omega) (by omega)
      (fun j hj => by rw [y_sm_rb hc1 (by omega), y_sm_mb hd1 (by omega)]; exact hb j hj)
    exact ⟨c', d', n', r1, fun _ => r2, fun h => absurd hm h, hfin c' d' n' r3 r4 r5 r6 r7 r8⟩
  · obtain ⟨c', d', n', r1, r2, r3, r4, r5, r6, r7, r8⟩ := y_data01 mo sp wi si ti e fi n a (M - 5) M c1 d1 he (by omega) h1 h2 h3 hC1 h5 ha hl1 hl2 (by rw [hc1.2 _ _ _ (by omega)]; exact hl) (by omega) (by omega)
      (fun j hj => by rw [y_sm_rb hc1 (by omega), y_sm_mb hd1 (by omega)]; exact hb j hj)
    exact ⟨c', d', n', r1, fun h => absurd h hm, fun _ => r2, hfin c' d' n' r3 r4 r5 r6 r7 r8⟩
theorem y_takB (mo sp wi si ti e fi n K M a : Nat) (c d c1 d1 : sl_M) (he : e < 2) (hK : K < 90000) (hE : y_E mo sp wi si ti e fi n K c d) (hc1 : y_sm (fun k w p => k = 27 ∧ w = 2) c c1) (hd1 : y_sm (fun k w p => k = 68 ∧ w = 0) d d1) (hC1 : y_gC c1 d1)
    (hM5 : 5 ≤ M) (hM2 : M ≤ 119) (hl : c.1 6 (12 + e) 1 = sl_i M) (hb : ∀ j, j < M → y_rb c (12 + e) j = y_mb d 9 j) (ha : a < sp) (hload : M - 5 = (if mo = 2 then (wi + 6) / 8 else 0)) :
    ∃ c' d', f_X7_hearKnown e (sl_i a) (12 + e) c1 = some ((sl_i 0, 0, 0), c') ∧ f_X11_known (sl_i e) (sl_i a) (sl_i (M - 5)) d1 = some ((sl_i 0, 0, 0), d') ∧
      y_E mo sp wi si ti e fi n K c' d' ∧ y_gC c' d' ∧ y_grow e fi n n c c' ∧ y_sm (y_zTc e) c c' ∧ y_sm (y_zTd e) d d' := by
  have hE1 := y_E_tally hE he hc1 hd1
  obtain ⟨h1, h2, h3, h4, h5⟩ := hE1
  have hS2 := h1
  obtain ⟨_, _, hmo, hsp2, hsp64, hw1, hwA, hwB, hsi1, hsi60, hti1, hti50⟩ := hS2
  obtain ⟨c', d', r1, r2, r3, r4, r5, r6⟩ := y_known mo sp wi si ti e a (M - 5) M K c1 d1 he hK h1 hC1 h4 ha hload (by rw [hc1.2 _ _ _ (by omega)]; exact hl) (by omega) (by omega)
    (fun j hj => by rw [y_sm_rb hc1 (by omega), y_sm_mb hd1 (by omega)]; exact hb j hj)
  refine ⟨c', d', r1, r2, ⟨?_, ?_, ?_, r4, ?_⟩, r3, ⟨.inl rfl, ?_⟩, ?_, ?_⟩
  · exact y_gS_cong h1 (fun p => r5.2 _ _ _ (fun q => by unfold y_zP at q; omega)) (fun p _ _ => r6.2 _ _ _ (fun q => by unfold y_zPd at q; omega))
  · exact y_gL_cong h2 he r5 r6 (fun k w p h q => by unfold y_zF at h; unfold y_zP at q; omega) (fun k w p h q => by unfold y_zFd at h; unfold y_zPd at q; omega)
  · intro k hk; rw [r6.2 _ _ _ (fun q => by unfold y_zPd at q; omega)]; exact h3 k hk
  · exact y_gR_cong h5 he hsp64 (by omega) hsi60 r5 r6 (fun k w p h q => by unfold y_zR at h; unfold y_zP at q; omega) (fun k w p h q => by unfold y_zRd at h; unfold y_zPd at q; omega)
  · intro j hj _; rw [r5.2 _ _ _ (fun q => by unfold y_zP at q; omega), hc1.2 _ _ _ (by omega)]
  · refine y_sm_tr hc1 r5 (fun k w p h => .inl h) ?_
    intro k w p h
    rcases h with h | h
    · exact .inl h
    · exact .inr (.inr (.inl h))
  · refine y_sm_tr hd1 r6 (fun k w p h => .inl h) ?_
    intro k w p h
    rcases h with h | h
    · exact .inl h
    · exact .inr (.inr (.inl h))
/-- a body whose check holds: its head, and what becomes of it -/
theorem y_taken (mo sp wi si ti e fi n K M cl : Nat) (c d : sl_M) (he : e < 2) (hK : K < 90000) (hE : y_E mo sp wi si ti e fi n K c d) (hC : y_gC c d) (hcl : cl ≤ 1) (h72 : d.1 72 0 e = sl_i cl)
    (hM5 : 5 ≤ M) (hM2 : M ≤ 119) (hl : c.1 6 (12 + e) 1 = sl_i M) (hb : ∀ j, j < M → y_rb c (12 + e) j = y_mb d 9 j) :
    ∃ c' d' n', ((f_X1_headHolds e c).bind (fun q4 => if q4.1.1 = sl_i 0 then some ((sl_i 4, 0, 0), q4.2) else some ((sl_i 0, 0, 0), q4.2))).bind (fun q1 =>
        if q1.1.1 = sl_i 0 then
          (f_X9_add (sl_i 4) q1.2).bind (fun q2 =>
          if sl_i cl = sl_i 0 then
            (f_X9_add (sl_i 8) q2.2).bind (fun q3 =>
            (f_X6_at (12 + e) (sl_i 0) q3.2).bind (fun q4 =>
            (f_X6_at (12 + e) (sl_i 0) q4.2).bind (fun q5 =>
            if (q5.1.1 / (sl_i 64)) = (sl_i 1) then
              (f_X7_hearKnown e (q4.1.1 - q4.1.1 / (sl_i 64) * (sl_i 64)) (12 + e) q5.2).bind (fun q6 =>
              some ((sl_i 0, 0, 0), q6.2))
            else
              (f_X1_loadOfBody e q5.2).bind (fun q7 =>
              (f_X5_hearData e (q4.1.1 - q4.1.1 / (sl_i 64) * (sl_i 64)) (12 + e) q7.1.1 q7.2).bind (fun q8 =>
              if q8.1.1 = sl_i 0 then
                some ((sl_i 0, 0, 0), q8.2)
              else
                (f_X5_layKnown e q8.2).bind (fun q9 =>
                some ((sl_i 0, 0, 0), q9.2)))))))
          else
            (f_X6_at (12 + e) (sl_i 0) q2.2).bind (fun q10 =>
            (f_X6_at (12 + e) (sl_i 0) q10.2).bind (fun q11 =>
            if (q11.1.1 / (sl_i 64)) = (sl_i 1) then
              (f_X7_hearKnown e (q10.1.1 - q10.1.1 / (sl_i 64) * (sl_i 64)) (12 + e) q11.2).bind (fun q12 =>
              some ((sl_i 0, 0, 0), q12.2))
            else
              (f_X1_loadOfBody e q11.2).bind (fun q13 =>
              (f_X5_hearData e (q10.1.1 - q10.1.1 / (sl_i 64) * (sl_i 64)) (12 + e) q13.1.1 q13.2).bind (fun q14 =>
              if q14.1.1 = sl_i 0 then
                some ((sl_i 0, 0, 0), q14.2)
              else
                (f_X5_layKnown e q14.2).bind (fun q15 =>
                some ((sl_i 0, 0, 0), q15.2)))))))
        else
          (f_X9_add (sl_i 7) q1.2).bind (fun q16 =>
          (f_X9_add ((sl_i 10) + q1.1.1) q16.2).bind (fun q17 =>
          some ((sl_i 0, 0, 0), q17.2)))) = some ((sl_i 0, 0, 0), c') ∧
      f_X11_takes (sl_i e) (sl_i M) d = some ((sl_i 0, 0, 0), d') ∧ y_E mo sp wi si ti e fi n' K c' d' ∧ y_gC c' d' ∧ y_grow e fi n n' c c' ∧ (64 ≤ y_rb c (12 + e) 0 → y_rb c (12 + e) 0 < 128 → n' = n) ∧
      y_sm (y_zTc e) c c' ∧ y_sm (y_zTd e) d d' := by
  have hE2 := hE
  obtain ⟨h1, h2, h3, h4, h5⟩ := hE2
  obtain ⟨⟨c0, c1, c2, c3, c4⟩, ⟨d0, d1, d2, d3, d4⟩, hmo, hsp2, hsp64, hw1, hwA, hwB, hsi1, hsi60, hti1, hti50⟩ := h1
  have hlr := y_lr12 he
  have hbb := y_rb_lt c (12 + e) 0
  have hbe : sl_b8 (d.1 30 9 0) = y_rb c (12 + e) 0 := (hb 0 (by omega)).symm
  have hat := y_at c (r := 12 + e) (i := 0) hl (by omega) (by omega)
  have hld : f_X1_loadOfBody e c = some ((sl_i (M - 5), 0, 0), c) := by
    rw [e_X1_loadOfBody, hl]
    simp (disch := omega) only [i_lit, i_ofNat, i_add, i_mul, i_sub, i_addn, i_subm, y_nsm, i_le, i_lt, i_nat, i_eq, i_div, i_nle, i_nlt, i_len, i_ltn, i_neq, i_eqn, i_and1, i_and63, i_and255, b8_sx, ob_some, if_true, if_false, and_self, true_and, if_pos, if_neg]
    rw [show M - 1 - 4 = M - 5 by omega]
  obtain ⟨b0, hb0⟩ : ∃ b0, b0 = y_rb c (12 + e) 0 := ⟨_, rfl⟩
  rw [← hb0] at hbb hbe hat
  rw [← hb0]
  have hkl := y_kl c c0 c2 hmo hw1 (by omega)
  have hkb := y_kb d d0 d2 hmo hw1 (by omega)
  obtain ⟨kl, hkle⟩ : ∃ kl, kl = (if mo = 2 then (wi + 6) / 8 else 0) := ⟨_, rfl⟩
  rw [← hkle] at hkl hkb
  have hkl8 : kl ≤ 8 := by rw [hkle]; split <;> omega
  have hC48 : y_gC (sl_up (sl_up c 27 2 4 (c.1 27 2 4 + sl_i 1)) 27 2 8 (c.1 27 2 8 + sl_i 1)) (sl_up (sl_up d 68 0 4 (d.1 68 0 4 + sl_i 1)) 68 0 8 (d.1 68 0 8 + sl_i 1)) := by
    intro j hj
    by_cases h8 : j = 8
    · subst h8; rw [up_eq rfl rfl rfl, up_eq rfl rfl rfl, hC 8 (by omega)]
    · by_cases h4 : j = 4
      · subst h4; rw [up_ne (by omega), up_eq rfl rfl rfl, up_ne (by omega), up_eq rfl rfl rfl, hC 4 (by omega)]
      · rw [up_ne (by omega), up_ne (by omega), up_ne (by omega), up_ne (by omega)]; exact hC j hj
  have hC4 : y_gC (sl_up c 27 2 4 (c.1 27 2 4 + sl_i 1)) (sl_up d 68 0 4 (d.1 68 0 4 + sl_i 1)) := by
    intro j hj
    by_cases h4 : j = 4
    · subst h4; rw [up_eq rfl rfl rfl, up_eq rfl rfl rfl, hC 4 (by omega)]
    · rw [up_ne (by omega), up_ne (by omega)]; exact hC j hj
  have hatT : ∀ c1 : sl_M, y_sm (fun k w p => k = 27 ∧ w = 2) c c1 → f_X6_at (12 + e) (sl_i 0) c1 = some ((sl_i b0, 0, 0), c1) ∧ f_X1_loadOfBody e c1 = some ((sl_i (M - 5), 0, 0), c1) := by
    intro c1 h
    have hl1 : c1.1 6 (12 + e) 1 = sl_i M := by rw [h.2 _ _ _ (by omega)]; exact hl
    refine ⟨?_, ?_⟩
    · rw [y_at c1 hl1 (by omega) (by omega), y_sm_rb h (by omega), ← hb0]
    · rw [e_X1_loadOfBody, hl1]
      simp (disch := omega) only [i_lit, i_ofNat, i_add, i_mul, i_sub, i_addn, i_subm, y_nsm, i_le, i_lt, i_nat, i_eq, i_div, i_nle, i_nlt, i_len, i_ltn, i_neq, i_eqn, i_and1, i_and63, i_and255, b8_sx, ob_some, if_true, if_false, and_self, true_and, if_pos, if_neg]
      rw [show M - 1 - 4 = M - 5 by omega]
  by_cases hA : b0 / 64 = 0 ∧ 1 ≤ M - 5 ∧ M - 5 ≤ si ∧ b0 % 64 < sp
  · have hhead : f_X1_headHolds e c = some ((sl_i 1, 0, 0), c) := by
      rw [e_X1_headHolds, i_lit0, hat, ob_some, hld, ob_some, hat, ob_some, c1, c3]
      simp (disch := omega) only [i_lit, i_ofNat, i_add, i_mul, i_sub, i_addn, i_subm, y_nsm, i_le, i_lt, i_nat, i_eq, i_div, i_nle, i_nlt, i_len, i_ltn, i_neq, i_eqn, i_and1, i_and63, i_and255, b8_sx, ob_some, if_true, if_false, and_self, true_and, if_pos, if_neg]
    obtain ⟨A1, A2, A3, A4⟩ := hA
    rw [hhead, ob_some]
    simp (disch := omega) only [i_lit, i_ofNat, i_add, i_mul, i_sub, i_addn, i_subm, y_nsm, i_le, i_lt, i_nat, i_eq, i_div, i_nle, i_nlt, i_len, i_ltn, i_neq, i_eqn, i_and1, i_and63, i_and255, b8_sx, ob_some, if_true, if_false, and_self, true_and, if_pos, if_neg, y_tally]
    rw [e_X11_takes]
    simp (disch := omega) only [i_lit, i_ofNat, i_add, i_mul, i_sub, i_addn, i_subm, y_nsm, i_le, i_lt, i_nat, i_eq, i_div, i_nle, i_nlt, i_len, i_ltn, i_neq, i_eqn, i_and1, i_and63, i_and255, b8_sx, ob_some, if_true, if_false, and_self, true_and, if_pos, if_neg, hbe, i_shrA, sx_and63, d3, d1, d0, h72]
    rcases (show cl = 0 ∨ cl = 1 by omega) with hc | hc
    · subst hc
      simp (disch := omega) only [i_lit, i_ofNat, i_add, i_mul, i_sub, i_addn, i_subm, y_nsm, i_le, i_lt, i_nat, i_eq, i_div, i_nle, i_nlt, i_len, i_ltn, i_neq, i_eqn, i_and1, i_and63, i_and255, b8_sx, ob_some, if_true, if_false, and_self, true_and, if_pos, if_neg, y_tally, up_eq, up_ne]
      obtain ⟨c', d', n', r1, r2, r3, r4, r5, r6, r7, r8⟩ := y_takA mo sp wi si ti e fi n K M (b0 % 64) c d (sl_up (sl_up c 27 2 4 (c.1 27 2 4 + sl_i 1)) 27 2 8 (c.1 27 2 8 + sl_i 1)) (sl_up (sl_up d 68 0 4 (d.1 68 0 4 + sl_i 1)) 68 0 8 (d.1 68 0 8 + sl_i 1)) he hE
        ⟨rfl, fun k w p h => by rw [up_ne (by omega), up_ne (by omega)]⟩ ⟨rfl, fun k w p h => by rw [up_ne (by omega), up_ne (by omega)]⟩ hC48 hM5 hM2 hl hb A4 A2 A3
      refine ⟨c', d', n', ?_, ?_, r4, r5, r6, fun h => by omega, r7, r8⟩
      · obtain ⟨t1, t2⟩ := hatT (sl_up (sl_up c 27 2 4 (c.1 27 2 4 + sl_i 1)) 27 2 8 (c.1 27 2 8 + sl_i 1)) ⟨rfl, fun k w p h => by rw [up_ne (by omega), up_ne (by omega)]⟩
        unfold y_dataC at r1
        simp (disch := omega) only [i_lit, i_ofNat, i_add, i_mul, i_sub, i_addn, i_subm, y_nsm, i_le, i_lt, i_nat, i_eq, i_div, i_nle, i_nlt, i_len, i_ltn, i_neq, i_eqn, i_and1, i_and63, i_and255, b8_sx, ob_some, if_true, if_false, and_self, true_and, if_pos, if_neg, t1, t2]
        exact r1
      · by_cases hm : 2 ≤ mo
        · rw [if_pos hm, r2 hm, ob_some]
        · rw [if_neg hm, r3 hm, ob_some]
    · subst hc
      simp (disch := omega) only [i_lit, i_ofNat, i_add, i_mul, i_sub, i_addn, i_subm, y_nsm, i_le, i_lt, i_nat, i_eq, i_div, i_nle, i_nlt, i_len, i_ltn, i_neq, i_eqn, i_and1, i_and63, i_and255, b8_sx, ob_some, if_true, if_false, and_self, true_and, if_pos, if_neg, y_tally, up_eq, up_ne]
      obtain ⟨c', d', n', r1, r2, r3, r4, r5, r6, r7, r8⟩ := y_takA mo sp wi si ti e fi n K M (b0 % 64) c d (sl_up c 27 2 4 (c.1 27 2 4 + sl_i 1)) (sl_up d 68 0 4 (d.1 68 0 4 + sl_i 1)) he hE
        ⟨rfl, fun k w p h => by rw [up_ne (by omega)]⟩ ⟨rfl, fun k w p h => by rw [up_ne (by omega)]⟩ hC4 hM5 hM2 hl hb A4 A2 A3
      refine ⟨c', d', n', ?_, ?_, r4, r5, r6, fun h => by omega, r7, r8⟩
      · obtain ⟨t1, t2⟩ := hatT (sl_up c 27 2 4 (c.1 27 2 4 + sl_i 1)) ⟨rfl, fun k w p h => by rw [up_ne (by omega)]⟩
        unfold y_dataC at r1
        simp (disch := omega) only [i_lit, i_ofNat, i_add, i_mul, i_sub, i_addn, i_subm, y_nsm, i_le, i_lt, i_nat, i_eq, i_div, i_nle, i_nlt, i_len, i_ltn, i_neq, i_eqn, i_and1, i_and63, i_and255, b8_sx, ob_some, if_true, if_false, and_self, true_and, if_pos, if_neg, t1, t2]
        exact r1
      · by_cases hm : 2 ≤ mo
        · rw [if_pos hm, r2 hm, ob_some]
        · rw [if_neg hm, r3 hm, ob_some]
  by_cases hB : b0 / 64 = 1 ∧ M - 5 = kl ∧ b0 % 64 < sp
  · have hhead : f_X1_headHolds e c = some ((sl_i 1, 0, 0), c) := by
      rw [e_X1_headHolds, i_lit0, hat, ob_some, hld, ob_some, hat, ob_some, c1, c3]
      simp (disch := omega) only [i_lit, i_ofNat, i_add, i_mul, i_sub, i_addn, i_subm, y_nsm, i_le, i_lt, i_nat, i_eq, i_div, i_nle, i_nlt, i_len, i_ltn, i_neq, i_eqn, i_and1, i_and63, i_and255, b8_sx, ob_some, if_true, if_false, and_self, true_and, if_pos, if_neg, hkl]
    obtain ⟨B1, B2, B3⟩ := hB
    rw [hhead, ob_some]
    simp (disch := omega) only [i_lit, i_ofNat, i_add, i_mul, i_sub, i_addn, i_subm, y_nsm, i_le, i_lt, i_nat, i_eq, i_div, i_nle, i_nlt, i_len, i_ltn, i_neq, i_eqn, i_and1, i_and63, i_and255, b8_sx, ob_some, if_true, if_false, and_self, true_and, if_pos, if_neg, y_tally]
    rw [e_X11_takes]
    simp (disch := omega) only [i_lit, i_ofNat, i_add, i_mul, i_sub, i_addn, i_subm, y_nsm, i_le, i_lt, i_nat, i_eq, i_div, i_nle, i_nlt, i_len, i_ltn, i_neq, i_eqn, i_and1, i_and63, i_and255, b8_sx, ob_some, if_true, if_false, and_self, true_and, if_pos, if_neg, hbe, i_shrA, sx_and63, d3, d1, d0, h72, hkb]
    rcases (show cl = 0 ∨ cl = 1 by omega) with hc | hc
    · subst hc
      simp (disch := omega) only [i_lit, i_ofNat, i_add, i_mul, i_sub, i_addn, i_subm, y_nsm, i_le, i_lt, i_nat, i_eq, i_div, i_nle, i_nlt, i_len, i_ltn, i_neq, i_eqn, i_and1, i_and63, i_and255, b8_sx, ob_some, if_true, if_false, and_self, true_and, if_pos, if_neg, y_tally, up_eq, up_ne]
      obtain ⟨c', d', r1, r2, r4, r5, r6, r7, r8⟩ := y_takB mo sp wi si ti e fi n K M (b0 % 64) c d (sl_up (sl_up c 27 2 4 (c.1 27 2 4 + sl_i 1)) 27 2 8 (c.1 27 2 8 + sl_i 1)) (sl_up (sl_up d 68 0 4 (d.1 68 0 4 + sl_i 1)) 68 0 8 (d.1 68 0 8 + sl_i 1)) he hK hE
        ⟨rfl, fun k w p h => by rw [up_ne (by omega), up_ne (by omega)]⟩ ⟨rfl, fun k w p h => by rw [up_ne (by omega), up_ne (by omega)]⟩ hC48 hM5 hM2 hl hb B3 (by rw [B2, hkle])
      refine ⟨c', d', n, ?_, ?_, r4, r5, r6, fun _ _ => rfl, r7, r8⟩
      · obtain ⟨t1, t2⟩ := hatT (sl_up (sl_up c 27 2 4 (c.1 27 2 4 + sl_i 1)) 27 2 8 (c.1 27 2 8 + sl_i 1)) ⟨rfl, fun k w p h => by rw [up_ne (by omega), up_ne (by omega)]⟩
        simp (disch := omega) only [i_lit, i_ofNat, i_add, i_mul, i_sub, i_addn, i_subm, y_nsm, i_le, i_lt, i_nat, i_eq, i_div, i_nle, i_nlt, i_len, i_ltn, i_neq, i_eqn, i_and1, i_and63, i_and255, b8_sx, ob_some, if_true, if_false, and_self, true_and, if_pos, if_neg, t1, t2]
        rw [r1, ob_some]
      · rw [r2, ob_some]
    · subst hc
      simp (disch := omega) only [i_lit, i_ofNat, i_add, i_mul, i_sub, i_addn, i_subm, y_nsm, i_le, i_lt, i_nat, i_eq, i_div, i_nle, i_nlt, i_len, i_ltn, i_neq, i_eqn, i_and1, i_and63, i_and255, b8_sx, ob_some, if_true, if_false, and_self, true_and, if_pos, if_neg, y_tally, up_eq, up_ne]
      obtain ⟨c', d', r1, r2, r4, r5, r6, r7, r8⟩ := y_takB mo sp wi si ti e fi n K M (b0 % 64) c d (sl_up c 27 2 4 (c.1 27 2 4 + sl_i 1)) (sl_up d 68 0 4 (d.1 68 0 4 + sl_i 1)) he hK hE
        ⟨rfl, fun k w p h => by rw [up_ne (by omega)]⟩ ⟨rfl, fun k w p h => by rw [up_ne (by omega)]⟩ hC4 hM5 hM2 hl hb B3 (by rw [B2, hkle])
      refine ⟨c', d', n, ?_, ?_, r4, r5, r6, fun _ _ => rfl, r7, r8⟩
      · obtain ⟨t1, t2⟩ := hatT (sl_up c 27 2 4 (c.1 27 2 4 + sl_i 1)) ⟨rfl, fun k w p h => by rw [up_ne (by omega)]⟩
        simp (disch := omega) only [i_lit, i_ofNat, i_add, i_mul, i_sub, i_addn, i_subm, y_nsm, i_le, i_lt, i_nat, i_eq, i_div, i_nle, i_nlt, i_len, i_ltn, i_neq, i_eqn, i_and1, i_and63, i_and255, b8_sx, ob_some, if_true, if_false, and_self, true_and, if_pos, if_neg, t1, t2]
        rw [r1, ob_some]
      · rw [r2, ob_some]
  have hhead : f_X1_headHolds e c = some ((sl_i 0, 0, 0), c) := by
    rw [e_X1_headHolds, i_lit0, hat, ob_some, hld, ob_some, hat, ob_some, c1, c3]
    simp (disch := omega) only [i_lit, i_ofNat, i_add, i_mul, i_sub, i_addn, i_subm, y_nsm, i_le, i_lt, i_nat, i_eq, i_div, i_nle, i_nlt, i_len, i_ltn, i_neq, i_eqn, i_and1, i_and63, i_and255, b8_sx, ob_some, if_true, if_false, and_self, true_and, if_pos, if_neg, hkl]
    by_cases q1 : b0 % 64 < sp
    · rw [if_pos q1]
      by_cases q2 : b0 / 64 = 0
      · rw [if_pos q2]
        by_cases q3 : M - 5 < 1
        · rw [if_pos q3]
        · rw [if_neg q3]
      · rw [if_neg q2]
        by_cases q3 : b0 / 64 = 1
        · rw [if_pos q3]
        · rw [if_neg q3]
    · rw [if_neg q1]
  have htake : f_X11_takes (sl_i e) (sl_i M) d = (f_X11_wrong (sl_i 4) d).bind (fun q1 => some ((sl_i 0, 0, 0), q1.2)) := by
    rw [e_X11_takes]
    simp (disch := omega) only [i_lit, i_ofNat, i_add, i_mul, i_sub, i_addn, i_subm, y_nsm, i_le, i_lt, i_nat, i_eq, i_div, i_nle, i_nlt, i_len, i_ltn, i_neq, i_eqn, i_and1, i_and63, i_and255, b8_sx, ob_some, if_true, if_false, and_self, true_and, if_pos, if_neg, hbe, i_shrA, sx_and63, d3, d1, d0, h72, hkb]
    by_cases q2 : b0 / 64 = 0
    · rw [if_pos q2]
      by_cases q3 : M - 5 < 1
      · rw [if_pos q3]
      · rw [if_neg q3]
        by_cases q4 : si < M - 5
        · rw [if_pos q4]
        · rw [if_neg q4]
    · rw [if_neg q2]
      by_cases q3 : b0 / 64 = 1
      · rw [if_pos q3]
        by_cases q4 : M - 5 = kl
        · rw [if_pos q4]
        · rw [if_neg q4]
      · rw [if_neg q3]
  refine ⟨sl_up (sl_up c 27 2 7 (c.1 27 2 7 + sl_i 1)) 27 2 (10 + 4) (c.1 27 2 (10 + 4) + sl_i 1), sl_up (sl_up d 68 0 7 (d.1 68 0 7 + sl_i 1)) 68 0 (10 + 4) (d.1 68 0 (10 + 4) + sl_i 1), n, ?_, ?_, ?_, y_gC_wrong hC (by omega) (by omega), ⟨.inl rfl, ?_⟩, fun _ _ => rfl, ?_, ?_⟩
  · rw [hhead, ob_some]
    simp (disch := omega) only [i_lit, i_ofNat, i_add, i_mul, i_sub, i_addn, i_subm, y_nsm, i_le, i_lt, i_nat, i_eq, i_div, i_nle, i_nlt, i_len, i_ltn, i_neq, i_eqn, i_and1, i_and63, i_and255, b8_sx, ob_some, if_true, if_false, and_self, true_and, if_pos, if_neg, y_tally, up_eq, up_ne]
  · rw [htake, y_wrong d (by omega) (by omega), ob_some]
  · exact y_E_tally hE he ⟨rfl, fun k w p h => by rw [up_ne (by omega), up_ne (by omega)]⟩ ⟨rfl, fun k w p h => by rw [up_ne (by omega), up_ne (by omega)]⟩
  · intro j hj _; rw [up_ne (by omega), up_ne (by omega)]
  · exact ⟨rfl, fun k w p h => by
      have : ¬ (k = 27 ∧ w = 2) := fun q => h (.inl q)
      rw [up_ne (by omega), up_ne (by omega)]⟩
  · exact ⟨rfl, fun k w p h => by
      have : ¬ (k = 68 ∧ w = 0) := fun q => h (.inl q)
      rw [up_ne (by omega), up_ne (by omega)]⟩
