/-! an end hears a byte -/
theorem y_unst2 (e nh : Nat) (c d : sl_M) (he : e < 2) (hl : c.1 6 (10 + e) 1 = sl_i nh) (hn : nh ≤ 120) (hb : ∀ j, j < nh → y_rb c (10 + e) j = y_mb d 2 j) :
    (∃ c' d', f_X3_isSound (1 + e) (10 + e) c = some ((sl_i 0, 0, 0), c') ∧ f_X11_unstuffed 2 (sl_i nh) 9 d = some ((-(sl_i 1), 0, 0), d') ∧
      y_sm (fun k w p => k = 3 ∧ w = 1 + e ∧ p ≤ 1) c c' ∧ y_sm (fun k w p => (k = 30 ∧ w = 9) ∨ (k = 11 ∧ w = 0 ∧ (p = 6 ∨ p = 7))) d d') ∨
    (∃ M c' u' d', f_X3_isSound (1 + e) (10 + e) c = some ((sl_i 1, 0, 0), c') ∧ f_X0_unpack (10 + e) (12 + e) c' = some ((sl_i 0, 0, 0), u') ∧ f_X11_unstuffed 2 (sl_i nh) 9 d = some ((sl_i M, 0, 0), d') ∧
      u'.1 6 (12 + e) 1 = sl_i M ∧ M + 1 ≤ nh ∧ (∀ j, j < M → y_rb u' (12 + e) j = y_mb d' 9 j) ∧
      (2 ≤ y_rb c (10 + e) 0 → 1 ≤ M ∧ y_rb u' (12 + e) 0 = y_rb c (10 + e) 1) ∧
      y_sm (fun k w p => (k = 3 ∧ w = 1 + e ∧ p ≤ 1) ∨ (k = 6 ∧ w = 12 + e ∧ p = 1) ∨ (k = 20 ∧ w = 12 + e)) c u' ∧ y_sm (fun k w _ => k = 30 ∧ w = 9) d d') := by
  have h10 := y_lr10 he
  have h12 := y_lr12 he
  rcases y_unst (1 + e) (10 + e) (12 + e) 2 9 nh c d (by omega) (by omega) (by omega) (by omega) (by omega) (by show _ ≤ 1300; omega) (by show _ ≤ 200; omega) hl hb with
    ⟨kind, place, c', d', r1, r2, r3, r4, r5, r6, r7, r8⟩ | ⟨M, c', u', d', r1, r2, r3, r4, r5, r6, r7, r8, r9, r10, r11⟩
  · refine .inl ⟨c', sl_up (sl_up d' 11 0 6 (sl_i kind)) 11 0 7 (sl_i place), r1, r2, r7, ?_⟩
    exact ⟨r8.1, fun k w p h => by rw [up_ne (by omega), up_ne (by omega), r8.2 _ _ _ (by omega)]⟩
  · exact .inr ⟨M, c', u', d', r1, r2, r3, r6, r7, r8, r9, r10, r11⟩
def y_zBc (e k w p : Nat) : Prop := y_zTc e k w p ∨ (((k = 6 ∧ p = 1) ∨ k = 20) ∧ w = 12 + e) ∨ (k = 3 ∧ w = 1 + e ∧ p ≤ 1)
def y_zBd (e k w p : Nat) : Prop := y_zTd e k w p ∨ (k = 30 ∧ w = 9) ∨ (k = 72 ∧ w = 0 ∧ p = e)
theorem y_E_b {mo sp wi si ti e fi n K : Nat} {c d c' d' : sl_M} (h : y_E mo sp wi si ti e fi n K c d) (he : e < 2)
    (hc : y_sm (fun k w p => (k = 27 ∧ w = 2) ∨ (((k = 6 ∧ p = 1) ∨ k = 20) ∧ (w = 12 + e ∨ w = 10 + e)) ∨ (k = 3 ∧ w = 1 + e ∧ p ≤ 1) ∨ (k = 1 ∧ w = e)) c c')
    (hd : y_sm (fun k w p => (k = 68 ∧ w = 0) ∨ (k = 30 ∧ (w = 2 ∨ w = 6 ∨ w = 9 ∨ w = 10)) ∨ ((k = 61 ∨ k = 72) ∧ w = 0)) d d') : y_E mo sp wi si ti e fi n K c' d' :=
  y_E_cong h he hc hd (fun k w p h => by have := y_zS0 h he; omega) (fun k w p h => by have := y_zSd0 h he; omega)
theorem y_endBody (mo sp wi si ti e fi n K nh cl fuel : Nat) (c d : sl_M) (he : e < 2) (hK : K < 90000) (hE : y_E mo sp wi si ti e fi n K c d) (hC : y_gC c d) (hcl : cl ≤ 1) (h72 : d.1 72 0 e = sl_i cl)
    (hl : c.1 6 (10 + e) 1 = sl_i nh) (hn1 : 1 ≤ nh) (hn : nh ≤ 120) (hb : ∀ j, j < nh → y_rb c (10 + e) j = y_mb d 2 j) (ho : c.1 1 e 5 = sl_i 0) :
    ∃ c' d' n', f_X1_endBody e (sl_i cl) c = some ((sl_i 0, 0, 0), c') ∧ b_X11_hears_93 (fuel + 1) (sl_i e) (sl_i nh) (sl_i nh) d = some ((sl_i 0, 0, 0), d') ∧
      y_E mo sp wi si ti e fi n' K c' d' ∧ y_gC c' d' ∧ y_grow e fi n n' c c' ∧ (2 ≤ y_rb c (10 + e) 0 → 64 ≤ y_rb c (10 + e) 1 → y_rb c (10 + e) 1 < 128 → n' = n) ∧ d'.1 72 0 e = sl_i 0 ∧
      y_sm (y_zBc e) c c' ∧ y_sm (y_zBd e) d d' := by
  have hwr : ∀ (k : Nat) (c1 d1 : sl_M), 1 ≤ k → k ≤ 5 → y_sm (fun k w p => (((k = 6 ∧ p = 1) ∨ k = 20) ∧ w = 12 + e) ∨ (k = 3 ∧ w = 1 + e ∧ p ≤ 1)) c c1 → y_sm (fun k w p => k = 30 ∧ w = 9) d d1 →
      (f_X1_endBody e (sl_i cl) c = (f_X9_add (sl_i 7) c1).bind (fun q16 => (f_X9_add (sl_i (10 + k)) q16.2).bind (fun q17 => some ((sl_i 0, 0, 0), q17.2)))) →
      (b_X11_hears_93 (fuel + 1) (sl_i e) (sl_i nh) (sl_i nh) d = (f_X11_wrong (sl_i k) d1).bind (fun q5 => some ((sl_i 0, 0, 0), (sl_up q5.2 72 0 e (sl_i 0))))) →
      ∃ c' d' n', f_X1_endBody e (sl_i cl) c = some ((sl_i 0, 0, 0), c') ∧ b_X11_hears_93 (fuel + 1) (sl_i e) (sl_i nh) (sl_i nh) d = some ((sl_i 0, 0, 0), d') ∧
        y_E mo sp wi si ti e fi n' K c' d' ∧ y_gC c' d' ∧ y_grow e fi n n' c c' ∧ (2 ≤ y_rb c (10 + e) 0 → 64 ≤ y_rb c (10 + e) 1 → y_rb c (10 + e) 1 < 128 → n' = n) ∧ d'.1 72 0 e = sl_i 0 ∧
        y_sm (y_zBc e) c c' ∧ y_sm (y_zBd e) d d' := by
    intro k c1 d1 hk1 hk5 hc1 hd1 hA hB
    have hcs : y_sm (fun k w p => (k = 27 ∧ w = 2) ∨ (((k = 6 ∧ p = 1) ∨ k = 20) ∧ w = 12 + e) ∨ (k = 3 ∧ w = 1 + e ∧ p ≤ 1)) c (sl_up (sl_up c1 27 2 7 (c1.1 27 2 7 + sl_i 1)) 27 2 (10 + k) (c1.1 27 2 (10 + k) + sl_i 1)) :=
      ⟨hc1.1, fun k w p h => by rw [up_ne (by omega), up_ne (by omega), hc1.2 _ _ _ (by omega)]⟩
    have hds : y_sm (fun k w p => (k = 68 ∧ w = 0) ∨ (k = 30 ∧ w = 9) ∨ (k = 72 ∧ w = 0 ∧ p = e)) d (sl_up (sl_up (sl_up d1 68 0 7 (d1.1 68 0 7 + sl_i 1)) 68 0 (10 + k) (d1.1 68 0 (10 + k) + sl_i 1)) 72 0 e (sl_i 0)) :=
      ⟨hd1.1, fun k w p h => by rw [up_ne (by omega), up_ne (by omega), up_ne (by omega), hd1.2 _ _ _ (by omega)]⟩
    refine ⟨_, _, n, ?_, ?_, y_E_b hE he (y_sm_mono hcs (fun k w p h => by omega)) (y_sm_mono hds (fun k w p h => by omega)), ?_, ⟨.inl rfl, ?_⟩, fun _ _ _ => rfl, ?_, ?_, ?_⟩
    · rw [hA]
      simp (disch := omega) only [i_lit, i_ofNat, i_add, i_mul, i_sub, i_addn, i_subm, y_nsm, i_le, i_lt, i_nat, i_eq, i_div, i_nle, i_nlt, i_len, i_ltn, i_neq, i_eqn, i_and1, i_and63, i_and255, b8_sx, ob_some, if_true, if_false, and_self, true_and, if_pos, if_neg, y_tally, up_eq, up_ne]
    · rw [hB, y_wrong d1 hk5 hk1, ob_some]
    · have hC1 : y_gC c1 d1 := fun j hj => by rw [hc1.2 _ _ _ (by omega), hd1.2 _ _ _ (by omega)]; exact hC j hj
      intro j hj
      rw [up_ne (c' := 68) (by omega)]
      exact y_gC_wrong hC1 hk1 hk5 j hj
    · intro j hj _; rw [hcs.2 _ _ _ (by omega)]
    · rw [up_eq rfl rfl rfl]
    · refine y_sm_mono hcs (fun k w p h => ?_)
      rcases h with h | h | h
      · exact .inl (.inl h)
      · exact .inr (.inl h)
      · exact .inr (.inr h)
    · refine y_sm_mono hds (fun k w p h => ?_)
      rcases h with h | h | h
      · exact .inl (.inl h)
      · exact .inr (.inl h)
      · exact .inr (.inr h)
  rcases y_unst2 e nh c d he hl hn hb with ⟨c1, d1, r1, r2, r3, r4⟩ | ⟨M, c1, u, d1, r1, r2, r3, r4, r5, r6, r7, r8, r9⟩
  · refine hwr 1 c1 (sl_up (sl_up d1 11 0 6 (d.1 11 0 6)) 11 0 7 (d.1 11 0 7)) (by omega) (by omega) (y_sm_mono r3 (fun k w p h => .inr h)) ?_ ?_ ?_
    · refine ⟨r4.1, fun k w p h => ?_⟩
      by_cases h7 : k = 11 ∧ w = 0 ∧ p = 7
      · obtain ⟨x, y, z⟩ := h7; subst x; subst y; subst z; rw [up_eq rfl rfl rfl]
      · rw [up_ne (by omega)]
        by_cases h6 : k = 11 ∧ w = 0 ∧ p = 6
        · obtain ⟨x, y, z⟩ := h6; subst x; subst y; subst z; rw [up_eq rfl rfl rfl]
        · rw [up_ne (by omega), r4.2 _ _ _ (by omega)]
    · rw [e_X1_endBody, e_X1_kindOfWrong, ho]
      simp (disch := omega) only [i_lit, i_ofNat, i_add, i_mul, i_sub, i_addn, i_subm, y_nsm, i_le, i_lt, i_nat, i_eq, i_div, i_nle, i_nlt, i_len, i_ltn, i_neq, i_eqn, i_and1, i_and63, i_and255, b8_sx, ob_some, if_true, if_false, and_self, true_and, if_pos, if_neg, r1]
    · rw [e_X11_hears_93]
      simp (disch := omega) only [i_lit, i_ofNat, i_add, i_mul, i_sub, i_addn, i_subm, y_nsm, i_le, i_lt, i_nat, i_eq, i_div, i_nle, i_nlt, i_len, i_ltn, i_neq, i_eqn, i_and1, i_and63, i_and255, b8_sx, ob_some, if_true, if_false, and_self, true_and, if_pos, if_neg, r2]
  · have hd2 : y_sm (fun k w p => k = 30 ∧ w = 9) d (sl_up (sl_up d1 11 0 6 (d.1 11 0 6)) 11 0 7 (d.1 11 0 7)) := by
      refine ⟨r9.1, fun k w p h => ?_⟩
      by_cases h7 : k = 11 ∧ w = 0 ∧ p = 7
      · obtain ⟨x, y, z⟩ := h7; subst x; subst y; subst z; rw [up_eq rfl rfl rfl]
      · rw [up_ne (by omega)]
        by_cases h6 : k = 11 ∧ w = 0 ∧ p = 6
        · obtain ⟨x, y, z⟩ := h6; subst x; subst y; subst z; rw [up_eq rfl rfl rfl]
        · rw [up_ne (by omega), r9.2 _ _ _ (by omega)]
    obtain ⟨d2, hd2e⟩ : ∃ d2, d2 = sl_up (sl_up d1 11 0 6 (d.1 11 0 6)) 11 0 7 (d.1 11 0 7) := ⟨_, rfl⟩
    rw [← hd2e] at hd2
    have hbu : ∀ j, j < M → y_rb u (12 + e) j = y_mb d2 9 j := fun j hj => by rw [hd2e, y_mb_ne (by omega), y_mb_ne (by omega)]; exact r6 j hj
    have hcu : y_sm (fun k w p => (((k = 6 ∧ p = 1) ∨ k = 20) ∧ w = 12 + e) ∨ (k = 3 ∧ w = 1 + e ∧ p ≤ 1)) c u := y_sm_mono r8 (fun k w p h => by omega)
    have hlen := r4
    by_cases hM : M < 5
    · refine hwr 2 u d2 (by omega) (by omega) hcu hd2 ?_ ?_
      · rw [e_X1_endBody, e_X1_kindOfWrong, ho]
        simp (disch := omega) only [i_lit, i_ofNat, i_add, i_mul, i_sub, i_addn, i_subm, y_nsm, i_le, i_lt, i_nat, i_eq, i_div, i_nle, i_nlt, i_len, i_ltn, i_neq, i_eqn, i_and1, i_and63, i_and255, b8_sx, ob_some, if_true, if_false, and_self, true_and, if_pos, if_neg, r1, r2, hlen]
      · rw [e_X11_hears_93]
        simp (disch := omega) only [i_lit, i_ofNat, i_add, i_mul, i_sub, i_addn, i_subm, y_nsm, i_le, i_lt, i_nat, i_eq, i_div, i_nle, i_nlt, i_len, i_ltn, i_neq, i_eqn, i_and1, i_and63, i_and255, b8_sx, ob_some, if_true, if_false, and_self, true_and, if_pos, if_neg, r3, ← hd2e]
    · have hEu : y_E mo sp wi si ti e fi n K u d2 := y_E_b hE he (y_sm_mono hcu (fun k w p h => by omega)) (y_sm_mono hd2 (fun k w p h => by omega))
      have hCu : y_gC u d2 := fun j hj => by rw [hcu.2 _ _ _ (by omega), hd2.2 _ _ _ (by omega)]; exact hC j hj
      obtain ⟨x, x1, x2, x3⟩ := y_ckh e M he (by omega) (by omega) u d2 hEu.2.2.1 hlen hbu
      rcases (show x = 0 ∨ x = 1 by omega) with hx | hx
      · subst hx
        refine hwr 3 u d2 (by omega) (by omega) hcu hd2 ?_ ?_
        · rw [e_X1_endBody, e_X1_kindOfWrong, ho]
          simp (disch := omega) only [i_lit, i_ofNat, i_add, i_mul, i_sub, i_addn, i_subm, y_nsm, i_le, i_lt, i_nat, i_eq, i_div, i_nle, i_nlt, i_len, i_ltn, i_neq, i_eqn, i_and1, i_and63, i_and255, b8_sx, ob_some, if_true, if_false, and_self, true_and, if_pos, if_neg, r1, r2, hlen, x2]
        · rw [e_X11_hears_93]
          simp (disch := omega) only [i_lit, i_ofNat, i_add, i_mul, i_sub, i_addn, i_subm, y_nsm, i_le, i_lt, i_nat, i_eq, i_div, i_nle, i_nlt, i_len, i_ltn, i_neq, i_eqn, i_and1, i_and63, i_and255, b8_sx, ob_some, if_true, if_false, and_self, true_and, if_pos, if_neg, r3, ← hd2e, x3]
      · subst hx
        obtain ⟨c', d', n', t1, t2, t3, t4, t5, t6, t7, t8⟩ := y_taken mo sp wi si ti e fi n K M cl u d2 he hK hEu hCu hcl (by rw [hd2.2 _ _ _ (by omega)]; exact h72) (by omega) (by omega) hlen hbu
        have hd72 : y_sm (fun k w p => k = 72 ∧ w = 0 ∧ p = e) d' (sl_up d' 72 0 e (sl_i 0)) := y_sm_up (y_sm_refl _ _) (fun _ _ _ h => h) (by omega)
        refine ⟨c', sl_up d' 72 0 e (sl_i 0), n', ?_, ?_, ?_, ?_, ?_, ?_, ?_, ?_, ?_⟩
        · rw [e_X1_endBody, e_X1_kindOfWrong, ho]
          simp (disch := omega) only [i_lit, i_ofNat, i_add, i_mul, i_sub, i_addn, i_subm, y_nsm, i_le, i_lt, i_nat, i_eq, i_div, i_nle, i_nlt, i_len, i_ltn, i_neq, i_eqn, i_and1, i_and63, i_and255, b8_sx, ob_some, if_true, if_false, and_self, true_and, if_pos, if_neg, r1, r2, hlen, x2]
          simp (disch := omega) only [i_lit, i_ofNat, i_add, i_mul, i_sub, i_addn, i_subm, y_nsm, i_le, i_lt, i_nat, i_eq, i_div, i_nle, i_nlt, i_len, i_ltn, i_neq, i_eqn, i_and1, i_and63, i_and255, b8_sx, ob_some, if_true, if_false, and_self, true_and, if_pos, if_neg] at t1
          exact t1
        · rw [e_X11_hears_93]
          simp (disch := omega) only [i_lit, i_ofNat, i_add, i_mul, i_sub, i_addn, i_subm, y_nsm, i_le, i_lt, i_nat, i_eq, i_div, i_nle, i_nlt, i_len, i_ltn, i_neq, i_eqn, i_and1, i_and63, i_and255, b8_sx, ob_some, if_true, if_false, and_self, true_and, if_pos, if_neg, r3, ← hd2e, x3, t2]
        · exact y_E_b t3 he (y_sm_refl _ _) (y_sm_mono hd72 (fun k w p h => by omega))
        · intro j hj; rw [up_ne (by omega)]; exact t4 j hj
        · refine ⟨t5.1, fun j hj hn => ?_⟩
          rw [t5.2 j hj hn, hcu.2 _ _ _ (by omega)]
        · intro h1 h2 h3
          have := r7 h1
          exact t6 (by omega) (by omega)
        · rw [up_eq rfl rfl rfl]
        · refine y_sm_tr hcu t7 (fun k w p h => ?_) (fun k w p h => .inl h)
          rcases h with h | h
          · exact .inr (.inl h)
          · exact .inr (.inr h)
        · exact y_sm_tr (y_sm_tr (U := y_zBd e) hd2 t8 (fun k w p h => .inr (.inl h)) (fun k w p h => .inl h)) hd72 (fun _ _ _ h => h) (fun k w p h => .inr (.inr h))

/-- what an end has heard since the 0 before -/
def y_gHx (e nh : Nat) (c d : sl_M) : Prop := c.1 6 (10 + e) 1 = sl_i (min nh 120) ∧ d.1 61 0 e = sl_i nh ∧ c.1 1 e 5 = sl_i (if 120 < nh then 1 else 0) ∧ ∀ j, j < min nh 120 → y_rb c (10 + e) j = y_mb d 6 (120 * e + j)
theorem y_copy93 (e nh : Nat) (he : e < 2) (hn : nh ≤ 120) : ∀ k i fuel (d : sl_M), i + k = nh →
    ∃ d1, b_X11_hears_93 (fuel + k) (sl_i e) (sl_i nh) (sl_i i) d = b_X11_hears_93 fuel (sl_i e) (sl_i nh) (sl_i nh) d1 ∧
      (∀ j, i ≤ j → j < nh → y_mb d1 2 j = y_mb d 6 (120 * e + j)) ∧ y_sm (fun k w p => k = 30 ∧ w = 2 ∧ i ≤ p) d d1 := by
  intro k
  induction k with
  | zero =>
    intro i fuel d hi
    have : i = nh := by omega
    subst this
    exact ⟨d, rfl, fun j _ _ => by omega, y_sm_refl _ _⟩
  | succ k ih =>
    intro i fuel d hi
    obtain ⟨d1, g1, g2, g3⟩ := ih (i + 1) fuel (sl_up d 30 2 i (sl_sx (d.1 30 6 (120 * e + i)))) (by omega)
    refine ⟨d1, ?_, ?_, ?_⟩
    · rw [show fuel + (k + 1) = fuel + k + 1 from rfl, e_X11_hears_93]
      simp (disch := omega) only [i_lit, i_ofNat, i_add, i_mul, i_sub, i_addn, i_subm, y_nsm, i_le, i_lt, i_nat, i_eq, i_div, i_nle, i_nlt, i_len, i_ltn, i_neq, i_eqn, i_and1, i_and63, i_and255, b8_sx, ob_some, if_true, if_false, and_self, true_and, if_pos, if_neg]
      exact g1
    · intro j hj hj2
      by_cases h : j = i
      · subst h
        rw [y_sm_mb g3 (by omega), y_mb_up rfl rfl]; rfl
      · rw [g2 j (by omega) hj2, y_mb_ne (by omega)]
    · exact ⟨g3.1, fun k w p h => by rw [g3.2 k w p (by omega), up_ne (by omega)]⟩
def y_zIc (e k w p : Nat) : Prop := y_zBc e k w p ∨ (((k = 6 ∧ p = 1) ∨ k = 20) ∧ w = 10 + e) ∨ (k = 1 ∧ w = e ∧ p = 5)
def y_zId (e k w p : Nat) : Prop := y_zBd e k w p ∨ (k = 61 ∧ w = 0 ∧ p = e) ∨ (k = 30 ∧ w = 6 ∧ 120 * e ≤ p ∧ p < 120 * e + 120) ∨ (k = 30 ∧ w = 2)
/-- a byte that is not 0 -/
theorem y_hearN (mo sp wi si ti e fi n K nh b cl by0 x : Nat) (c d : sl_M) (he : e < 2) (hE : y_E mo sp wi si ti e fi n K c d) (hC : y_gC c d) (hH : y_gHx e nh c d) (hnh : nh < 2000000) (hb : b < 256) (hb0 : b ≠ 0) (hby : by0 ≤ 1) (h72 : d.1 72 0 e = sl_i x) :
    ∃ c' d', f_X1_hear e (sl_i b) (sl_i cl) c = some ((sl_i 0, 0, 0), c') ∧ f_X11_hears (sl_i e) (sl_i b) (sl_i by0) d = some ((sl_i 0, 0, 0), d') ∧
      y_E mo sp wi si ti e fi n K c' d' ∧ y_gC c' d' ∧ y_gHx e (nh + 1) c' d' ∧ d'.1 72 0 e = sl_i (if by0 = 0 then 0 else x) ∧
      y_sm (fun k w p => (((k = 6 ∧ p = 1) ∨ k = 20) ∧ w = 10 + e) ∨ (k = 1 ∧ w = e ∧ p = 5)) c c' ∧ y_sm (fun k w p => ((k = 61 ∨ k = 72) ∧ w = 0 ∧ p = e) ∨ (k = 30 ∧ w = 6 ∧ 120 * e ≤ p ∧ p < 120 * e + 120)) d d' ∧
      (nh < 120 → y_rb c' (10 + e) nh = b ∧ ∀ j, j < nh → y_rb c' (10 + e) j = y_rb c (10 + e) j) := by
  have h10 := y_lr10 he
  obtain ⟨a1, a2, a3, a4⟩ := hH
  obtain ⟨d0, hd0⟩ : ∃ d0, d0 = (if by0 = 0 then sl_up d 72 0 e (sl_i 0) else d) := ⟨_, rfl⟩
  have hd0s : y_sm (fun k w p => k = 72 ∧ w = 0 ∧ p = e) d d0 := by
    rw [hd0]; split
    · exact y_sm_up (y_sm_refl _ _) (fun _ _ _ h => h) (by omega)
    · exact y_sm_refl _ _
  have hd72 : d0.1 72 0 e = sl_i (if by0 = 0 then 0 else x) := by
    rw [hd0]; split
    · rw [up_eq rfl rfl rfl]
    · exact h72
  have hfin : ∀ c' d', y_sm (fun k w p => (((k = 6 ∧ p = 1) ∨ k = 20) ∧ w = 10 + e) ∨ (k = 1 ∧ w = e ∧ p = 5)) c c' → y_sm (fun k w p => (k = 61 ∧ w = 0 ∧ p = e) ∨ (k = 30 ∧ w = 6 ∧ 120 * e ≤ p ∧ p < 120 * e + 120)) d0 d' → y_gHx e (nh + 1) c' d' → (nh < 120 → y_rb c' (10 + e) nh = b ∧ ∀ j, j < nh → y_rb c' (10 + e) j = y_rb c (10 + e) j) →
      y_E mo sp wi si ti e fi n K c' d' ∧ y_gC c' d' ∧ y_gHx e (nh + 1) c' d' ∧ d'.1 72 0 e = sl_i (if by0 = 0 then 0 else x) ∧
      y_sm (fun k w p => (((k = 6 ∧ p = 1) ∨ k = 20) ∧ w = 10 + e) ∨ (k = 1 ∧ w = e ∧ p = 5)) c c' ∧ y_sm (fun k w p => ((k = 61 ∨ k = 72) ∧ w = 0 ∧ p = e) ∨ (k = 30 ∧ w = 6 ∧ 120 * e ≤ p ∧ p < 120 * e + 120)) d d' ∧
      (nh < 120 → y_rb c' (10 + e) nh = b ∧ ∀ j, j < nh → y_rb c' (10 + e) j = y_rb c (10 + e) j) := by
    intro c' d' g1 g2 g3 g4
    have hd := y_sm_tr (U := fun k w p => ((k = 61 ∨ k = 72) ∧ w = 0 ∧ p = e) ∨ (k = 30 ∧ w = 6 ∧ 120 * e ≤ p ∧ p < 120 * e + 120)) hd0s g2 (fun k w p h => by omega) (fun k w p h => by omega)
    refine ⟨y_E_b hE he (y_sm_mono g1 (fun k w p h => by omega)) (y_sm_mono hd (fun k w p h => by omega)), ?_, g3, ?_, g1, hd, g4⟩
    · intro j hj; rw [g1.2 _ _ _ (by omega), hd.2 _ _ _ (by omega)]; exact hC j hj
    · rw [g2.2 _ _ _ (by omega)]; exact hd72
  by_cases hn : nh < 120
  · rw [show min nh 120 = nh by omega] at a1 a4
    refine ⟨sl_up (sl_up c 20 (10 + e) nh (sl_sx (sl_i b))) 6 (10 + e) 1 (sl_i (nh + 1)), sl_up (sl_up d0 30 6 (120 * e + nh) (sl_sx (sl_i b))) 61 0 e (sl_i (nh + 1)), ?_, ?_, hfin _ _ ?_ ?_ ⟨?_, ?_, ?_, ?_⟩ ?_⟩
    · rw [e_X1_hear]
      simp (disch := omega) only [i_lit, i_ofNat, i_add, i_mul, i_sub, i_addn, i_subm, y_nsm, i_le, i_lt, i_nat, i_eq, i_div, i_nle, i_nlt, i_len, i_ltn, i_neq, i_eqn, i_and1, i_and63, i_and255, b8_sx, ob_some, if_true, if_false, and_self, true_and, if_pos, if_neg]
      rw [y_add c _ a1 (by omega)]
      simp (disch := omega) only [i_lit, i_ofNat, i_add, i_mul, i_sub, i_addn, i_subm, y_nsm, i_le, i_lt, i_nat, i_eq, i_div, i_nle, i_nlt, i_len, i_ltn, i_neq, i_eqn, i_and1, i_and63, i_and255, b8_sx, ob_some, if_true, if_false, and_self, true_and, if_pos, if_neg]
    · rw [e_X11_hears]
      simp (disch := omega) only [i_lit, i_ofNat, i_add, i_mul, i_sub, i_addn, i_subm, y_nsm, i_le, i_lt, i_nat, i_eq, i_div, i_nle, i_nlt, i_len, i_ltn, i_neq, i_eqn, i_and1, i_and63, i_and255, b8_sx, ob_some, if_true, if_false, and_self, true_and, if_pos, if_neg, a2]
      by_cases hb1 : by0 = 0
      · rw [if_pos hb1] at hd0
        rw [if_pos hb1, ← hd0]
      · rw [if_neg hb1] at hd0
        rw [if_neg hb1, ← hd0]
    · exact ⟨rfl, fun k w p h => by rw [up_ne (by omega), up_ne (by omega)]⟩
    · exact ⟨rfl, fun k w p h => by rw [up_ne (by omega), up_ne (by omega)]⟩
    · rw [up_eq rfl rfl rfl, show min (nh + 1) 120 = nh + 1 by omega]
    · rw [up_eq rfl rfl rfl]
    · rw [up_ne (by omega), up_ne (by omega), a3, if_neg (by omega), if_neg (by omega)]
    · intro j hj
      rw [y_rb_ne (by omega), y_mb_ne (by omega)]
      by_cases hj2 : j = nh
      · rw [y_rb_up rfl hj2, y_mb_up rfl (by omega)]
      · rw [y_rb_ne (by omega), y_mb_ne (by omega), y_sm_mb hd0s (by omega)]
        exact a4 j (by omega)
    · intro _
      refine ⟨?_, fun j hj => ?_⟩
      · rw [y_rb_ne (by omega), y_rb_up rfl rfl, b8_i]; omega
      · rw [y_rb_ne (by omega), y_rb_ne (by omega)]
  · rw [show min nh 120 = 120 by omega] at a1 a4
    refine ⟨sl_up c 1 e 5 (sl_i 1), sl_up d0 61 0 e (sl_i (nh + 1)), ?_, ?_, hfin _ _ ?_ ?_ ⟨?_, ?_, ?_, ?_⟩ ?_⟩
    · rw [e_X1_hear]
      simp (disch := omega) only [i_lit, i_ofNat, i_add, i_mul, i_sub, i_addn, i_subm, y_nsm, i_le, i_lt, i_nat, i_eq, i_div, i_nle, i_nlt, i_len, i_ltn, i_neq, i_eqn, i_and1, i_and63, i_and255, b8_sx, ob_some, if_true, if_false, and_self, true_and, if_pos, if_neg]
      rw [y_addFull c _ a1 (by omega) (by omega)]
      simp (disch := omega) only [i_lit, i_ofNat, i_add, i_mul, i_sub, i_addn, i_subm, y_nsm, i_le, i_lt, i_nat, i_eq, i_div, i_nle, i_nlt, i_len, i_ltn, i_neq, i_eqn, i_and1, i_and63, i_and255, b8_sx, ob_some, if_true, if_false, and_self, true_and, if_pos, if_neg]
    · rw [e_X11_hears]
      simp (disch := omega) only [i_lit, i_ofNat, i_add, i_mul, i_sub, i_addn, i_subm, y_nsm, i_le, i_lt, i_nat, i_eq, i_div, i_nle, i_nlt, i_len, i_ltn, i_neq, i_eqn, i_and1, i_and63, i_and255, b8_sx, ob_some, if_true, if_false, and_self, true_and, if_pos, if_neg, a2]
      by_cases hb1 : by0 = 0
      · rw [if_pos hb1] at hd0
        rw [if_pos hb1, ← hd0]
      · rw [if_neg hb1] at hd0
        rw [if_neg hb1, ← hd0]
    · exact y_sm_up (y_sm_refl _ _) (fun _ _ _ h => h) (.inr (by omega))
    · exact y_sm_up (y_sm_refl _ _) (fun _ _ _ h => h) (.inl (by omega))
    · rw [up_ne (by omega), show min (nh + 1) 120 = 120 by omega]; exact a1
    · rw [up_eq rfl rfl rfl]
    · rw [up_eq rfl rfl rfl, if_pos (by omega)]
    · intro j hj
      rw [show min (nh + 1) 120 = 120 by omega] at hj
      rw [y_rb_ne (by omega), y_mb_ne (by omega), y_sm_mb hd0s (by omega)]
      exact a4 j hj
    · intro h; omega
/-- a 0 -/
theorem y_hear0 (mo sp wi si ti e fi n K nh cl by0 x : Nat) (c d : sl_M) (he : e < 2) (hK : K < 90000) (hE : y_E mo sp wi si ti e fi n K c d) (hC : y_gC c d) (hH : y_gHx e nh c d) (hnh : nh < 2000000) (hby : by0 ≤ 1) (h72 : d.1 72 0 e = sl_i x)
    (hcl : 1 ≤ nh → cl = (if by0 = 0 then 0 else x)) (hx : x ≤ 1) :
    ∃ c' d' n', f_X1_hear e (sl_i 0) (sl_i cl) c = some ((sl_i 0, 0, 0), c') ∧ f_X11_hears (sl_i e) (sl_i 0) (sl_i by0) d = some ((sl_i 0, 0, 0), d') ∧
      y_E mo sp wi si ti e fi n' K c' d' ∧ y_gC c' d' ∧ y_gHx e 0 c' d' ∧ d'.1 72 0 e = sl_i 0 ∧ y_grow e fi n n' c c' ∧
      (2 ≤ y_rb c (10 + e) 0 → 64 ≤ y_rb c (10 + e) 1 → y_rb c (10 + e) 1 < 128 → n' = n) ∧ y_sm (y_zIc e) c c' ∧ y_sm (y_zId e) d d' := by
  have h10 := y_lr10 he
  obtain ⟨a1, a2, a3, a4⟩ := hH
  obtain ⟨d0, hd0⟩ : ∃ d0, d0 = sl_up (if by0 = 0 then sl_up d 72 0 e (sl_i 0) else d) 61 0 e (sl_i 0) := ⟨_, rfl⟩
  have hd0s : y_sm (fun k w p => (k = 72 ∨ k = 61) ∧ w = 0 ∧ p = e) d d0 := by
    rw [hd0]; split
    · exact ⟨rfl, fun k w p h => by rw [up_ne (by omega), up_ne (by omega)]⟩
    · exact ⟨rfl, fun k w p h => by rw [up_ne (by omega)]⟩
  have hd72 : d0.1 72 0 e = sl_i (if by0 = 0 then 0 else x) := by
    rw [hd0, up_ne (by omega)]; split
    · rw [up_eq rfl rfl rfl]
    · exact h72
  have hd61 : d0.1 61 0 e = sl_i 0 := by rw [hd0, up_eq rfl rfl rfl]
  have hE0 : y_E mo sp wi si ti e fi n K c d0 := y_E_b hE he (y_sm_refl _ _) (y_sm_mono hd0s (fun k w p h => by omega))
  have hC0 : y_gC c d0 := fun j hj => by rw [hd0s.2 _ _ _ (by omega)]; exact hC j hj
  by_cases hn0 : nh = 0
  · subst hn0
    refine ⟨c, sl_up d0 72 0 e (sl_i 0), n, ?_, ?_, ?_, ?_, ⟨?_, ?_, ?_, ?_⟩, ?_, ⟨.inl rfl, fun _ _ _ => rfl⟩, fun _ _ _ => rfl, y_sm_refl _ _, ?_⟩
    · rw [e_X1_hear, a1]
      simp (disch := omega) only [i_lit, i_ofNat, i_add, i_mul, i_sub, i_addn, i_subm, y_nsm, i_le, i_lt, i_nat, i_eq, i_div, i_nle, i_nlt, i_len, i_ltn, i_neq, i_eqn, i_and1, i_and63, i_and255, b8_sx, ob_some, if_true, if_false, and_self, true_and, if_pos, if_neg, show min 0 120 = 0 from rfl]
    · rw [e_X11_hears]
      simp (disch := omega) only [i_lit, i_ofNat, i_add, i_mul, i_sub, i_addn, i_subm, y_nsm, i_le, i_lt, i_nat, i_eq, i_div, i_nle, i_nlt, i_len, i_ltn, i_neq, i_eqn, i_and1, i_and63, i_and255, b8_sx, ob_some, if_true, if_false, and_self, true_and, if_pos, if_neg, a2]
      by_cases hb1 : by0 = 0
      · rw [if_pos hb1] at hd0
        rw [if_pos hb1, ← hd0]
      · rw [if_neg hb1] at hd0
        rw [if_neg hb1, ← hd0]
    · exact y_E_b hE0 he (y_sm_refl _ _) (y_sm_up (y_sm_refl _ _) (fun _ _ _ h => h) (.inr (.inr (by omega))))
    · intro j hj; rw [up_ne (by omega)]; exact hC0 j hj
    · exact a1
    · rw [up_ne (by omega)]; exact hd61
    · exact a3
    · intro j hj; omega
    · rw [up_eq rfl rfl rfl]
    · refine ⟨hd0s.1, fun k w p h => ?_⟩
      have h1 : ¬ (k = 72 ∧ w = 0 ∧ p = e) := fun q => h (.inl (.inr (.inr q)))
      have h2 : ¬ (k = 61 ∧ w = 0 ∧ p = e) := fun q => h (.inr (.inl q))
      rw [up_ne (by omega), hd0s.2 _ _ _ (by omega)]
  · have hcl2 := hcl (by omega)
    by_cases hov : 120 < nh
    · rw [if_pos hov] at a3
      rw [show min nh 120 = 120 by omega] at a1
      obtain ⟨c2, hc2⟩ : ∃ c2, c2 = sl_up (sl_up c 27 2 7 (c.1 27 2 7 + sl_i 1)) 27 2 (10 + 5) (c.1 27 2 (10 + 5) + sl_i 1) := ⟨_, rfl⟩
      obtain ⟨d2, hd2⟩ : ∃ d2, d2 = sl_up (sl_up d0 68 0 7 (d0.1 68 0 7 + sl_i 1)) 68 0 (10 + 5) (d0.1 68 0 (10 + 5) + sl_i 1) := ⟨_, rfl⟩
      have hc2s : y_sm (fun k w p => k = 27 ∧ w = 2) c c2 := by rw [hc2]; exact ⟨rfl, fun k w p h => by rw [up_ne (by omega), up_ne (by omega)]⟩
      have hd2s : y_sm (fun k w p => k = 68 ∧ w = 0) d0 d2 := by rw [hd2]; exact ⟨rfl, fun k w p h => by rw [up_ne (by omega), up_ne (by omega)]⟩
      have hC2 : y_gC c2 d2 := by rw [hc2, hd2]; exact y_gC_wrong hC0 (by omega) (by omega)
      refine ⟨sl_up (sl_up c2 6 (10 + e) 1 (sl_i 0)) 1 e 5 (sl_i 0), sl_up d2 72 0 e (sl_i 0), n, ?_, ?_, ?_, ?_, ⟨?_, ?_, ?_, ?_⟩, ?_, ⟨.inl rfl, ?_⟩, fun _ _ _ => rfl, ?_, ?_⟩
      · rw [e_X1_hear, a1, e_X1_endBody, e_X1_kindOfWrong, a3]
        simp (disch := omega) only [i_lit, i_ofNat, i_add, i_mul, i_sub, i_addn, i_subm, y_nsm, i_le, i_lt, i_nat, i_eq, i_div, i_nle, i_nlt, i_len, i_ltn, i_neq, i_eqn, i_and1, i_and63, i_and255, b8_sx, ob_some, if_true, if_false, and_self, true_and, if_pos, if_neg, y_tally, up_eq, up_ne]
        rw [← hc2, e_X1_forgetHeard, y_clear]
        simp (disch := omega) only [i_lit, i_ofNat, i_add, i_mul, i_sub, i_addn, i_subm, y_nsm, i_le, i_lt, i_nat, i_eq, i_div, i_nle, i_nlt, i_len, i_ltn, i_neq, i_eqn, i_and1, i_and63, i_and255, b8_sx, ob_some, if_true, if_false, and_self, true_and, if_pos, if_neg]
      · rw [e_X11_hears]
        simp (disch := omega) only [i_lit, i_ofNat, i_add, i_mul, i_sub, i_addn, i_subm, y_nsm, i_le, i_lt, i_nat, i_eq, i_div, i_nle, i_nlt, i_len, i_ltn, i_neq, i_eqn, i_and1, i_and63, i_and255, b8_sx, ob_some, if_true, if_false, and_self, true_and, if_pos, if_neg, a2]
        by_cases hb1 : by0 = 0
        · rw [if_pos hb1] at hd0
          rw [if_pos hb1, ← hd0, y_wrong d0 (by omega) (by omega), ob_some, ← hd2]
        · rw [if_neg hb1] at hd0
          rw [if_neg hb1, ← hd0, y_wrong d0 (by omega) (by omega), ob_some, ← hd2]
      · exact y_E_b hE0 he (y_sm_up (y_sm_up (y_sm_mono hc2s (fun k w p h => .inl h)) (fun _ _ _ h => h) (.inr (.inl (by omega)))) (fun _ _ _ h => h) (.inr (.inr (.inr (by omega))))) (y_sm_up (y_sm_mono hd2s (fun k w p h => .inl h)) (fun _ _ _ h => h) (.inr (.inr (by omega))))
      · intro j hj; rw [up_ne (by omega), up_ne (by omega), up_ne (by omega)]; exact hC2 j hj
      · rw [up_ne (by omega), up_eq rfl rfl rfl]; rfl
      · rw [up_ne (by omega), hd2s.2 _ _ _ (by omega)]; exact hd61
      · rw [up_eq rfl rfl rfl]; rfl
      · intro j hj; omega
      · rw [up_eq rfl rfl rfl]
      · intro j hj _; rw [up_ne (by omega), up_ne (by omega), hc2s.2 _ _ _ (by omega)]
      · refine ⟨hc2s.1, fun k w p h => ?_⟩
        have h1 : ¬ (k = 27 ∧ w = 2) := fun q => h (.inl (.inl (.inl q)))
        have h2 : ¬ ((((k = 6 ∧ p = 1) ∨ k = 20) ∧ w = 10 + e) ∨ (k = 1 ∧ w = e ∧ p = 5)) := fun q => h (.inr q)
        rw [up_ne (by omega), up_ne (by omega), hc2s.2 _ _ _ (by omega)]
      · refine ⟨by rw [up_2, hd2s.1, hd0s.1], fun k w p h => ?_⟩
        have h1 : ¬ (k = 72 ∧ w = 0 ∧ p = e) := fun q => h (.inl (.inr (.inr q)))
        have h2 : ¬ (k = 61 ∧ w = 0 ∧ p = e) := fun q => h (.inr (.inl q))
        have h3 : ¬ (k = 68 ∧ w = 0) := fun q => h (.inl (.inl (.inl q)))
        rw [up_ne (by omega), hd2s.2 _ _ _ (by omega), hd0s.2 _ _ _ (by omega)]
    · rw [show min nh 120 = nh by omega] at a1 a4
      rw [if_neg hov] at a3
      obtain ⟨d1, g1, g2, g3⟩ := y_copy93 e nh he (by omega) nh 0 (99999 - nh) d0 (by omega)
      rw [show 99999 - nh + nh = 99999 by omega] at g1
      obtain ⟨f2, hf2⟩ : ∃ f2, 99999 - nh = f2 + 1 := ⟨99998 - nh, by omega⟩
      rw [hf2] at g1
      obtain ⟨c', d', n', r1, r2, r3, r4, r5, r6, r7, r8, r9⟩ := y_endBody mo sp wi si ti e fi n K nh cl f2 c d1 he hK (y_E_b hE0 he (y_sm_refl _ _) (y_sm_mono g3 (fun k w p h => by omega)))
        (fun j hj => by rw [g3.2 _ _ _ (by omega)]; exact hC0 j hj) (by rw [hcl2]; split <;> omega) (by rw [g3.2 _ _ _ (by omega), hd72, hcl2]) a1 (by omega) (by omega)
        (fun j hj => by rw [g2 j (by omega) hj, y_sm_mb hd0s (by omega)]; exact a4 j hj) a3
      have h61 : d'.1 61 0 e = sl_i 0 := by
        rw [r9.2 _ _ _ (fun q => by
          rcases q with q | q | q
          · rcases q with q | q | q | q
            · omega
            · have := y_zLd0 q he; omega
            · unfold y_zPd at q; omega
            · unfold y_zRd at q; omega
          · omega
          · omega), g3.2 _ _ _ (by omega)]
        exact hd61
      have hcu : y_sm (fun k w p => (((k = 6 ∧ p = 1) ∨ k = 20) ∧ w = 10 + e) ∨ (k = 1 ∧ w = e ∧ p = 5)) c' (sl_up (sl_up c' 6 (10 + e) 1 (sl_i 0)) 1 e 5 (sl_i 0)) :=
        ⟨rfl, fun k w p h => by rw [up_ne (by omega), up_ne (by omega)]⟩
      refine ⟨sl_up (sl_up c' 6 (10 + e) 1 (sl_i 0)) 1 e 5 (sl_i 0), d', n', ?_, ?_, y_E_b r3 he (y_sm_mono hcu (fun k w p h => by omega)) (y_sm_refl _ _), ?_, ⟨?_, h61, ?_, ?_⟩, r7, ⟨r5.1, ?_⟩, r6, ?_, ?_⟩
      · rw [e_X1_hear, a1]
        simp (disch := omega) only [i_lit, i_ofNat, i_add, i_mul, i_sub, i_addn, i_subm, y_nsm, i_le, i_lt, i_nat, i_eq, i_div, i_nle, i_nlt, i_len, i_ltn, i_neq, i_eqn, i_and1, i_and63, i_and255, b8_sx, ob_some, if_true, if_false, and_self, true_and, if_pos, if_neg]
        rw [r1, ob_some, e_X1_forgetHeard, y_clear]
        simp (disch := omega) only [i_lit, i_ofNat, i_add, i_mul, i_sub, i_addn, i_subm, y_nsm, i_le, i_lt, i_nat, i_eq, i_div, i_nle, i_nlt, i_len, i_ltn, i_neq, i_eqn, i_and1, i_and63, i_and255, b8_sx, ob_some, if_true, if_false, and_self, true_and, if_pos, if_neg]
      · rw [e_X11_hears]
        simp (disch := omega) only [i_lit, i_ofNat, i_add, i_mul, i_sub, i_addn, i_subm, y_nsm, i_le, i_lt, i_nat, i_eq, i_div, i_nle, i_nlt, i_len, i_ltn, i_neq, i_eqn, i_and1, i_and63, i_and255, b8_sx, ob_some, if_true, if_false, and_self, true_and, if_pos, if_neg, a2]
        by_cases hb1 : by0 = 0
        · rw [if_pos hb1] at hd0
          rw [if_pos hb1, ← hd0, g1, r2]
        · rw [if_neg hb1] at hd0
          rw [if_neg hb1, ← hd0, g1, r2]
      · intro j hj; rw [hcu.2 _ _ _ (by omega)]; exact r4 j hj
      · rw [up_ne (by omega), up_eq rfl rfl rfl]; rfl
      · rw [up_eq rfl rfl rfl]; rfl
      · intro j hj; omega
      · intro j hj hn; rw [hcu.2 _ _ _ (by omega)]; exact r5.2 j hj hn
      · exact y_sm_tr r8 hcu (fun k w p h => .inl h) (fun k w p h => .inr h)
      · refine y_sm_tr (y_sm_tr (U := y_zId e) hd0s g3 (fun k w p h => ?_) (fun k w p h => ?_)) r9 (fun _ _ _ h => h) (fun k w p h => .inl h)
        · by_cases hk : k = 72
          · exact .inl (.inr (.inr (by omega)))
          · exact .inr (.inl (by omega))
        · exact .inr (.inr (.inr (by omega)))
