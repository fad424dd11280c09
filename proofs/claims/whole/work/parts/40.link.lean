/-! calls on the link: give, tick, noise, open, and those that read -/
theorem y_e01 {e : Nat} (h : e < 2) : e = 0 ∨ e = 1 := by omega
theorem y_isOutNo (d : sl_M) {e : Nat} (he : e < 2) : f_X11_isOut (sl_i e) d = some ((sl_i 0, 0, 0), sl_up d 11 0 0 (sl_i 0)) := by
  rw [e_X11_isOut]
  simp (disch := omega) only [i_lit, i_ofNat, i_add, i_mul, i_sub, i_addn, i_subm, y_nsm, i_le, i_lt, i_nat, i_eq, i_div, i_nle, i_nlt, i_len, i_ltn, i_neq, i_eqn, i_and1, i_and63, i_and255, b8_sx, ob_some, if_true, if_false, and_self, true_and, if_pos, if_neg]
theorem y_isOutYes (d : sl_M) (a : Int32) (h0 : a ≠ sl_i 0) (h1 : a ≠ sl_i 1) : f_X11_isOut a d = some ((sl_i 1, 0, 0), sl_up d 11 0 0 (sl_i 1)) := by
  rw [e_X11_isOut]
  simp only [i_litN]
  by_cases ha : a < sl_i 0
  · rw [if_pos ha]
  · rw [if_neg ha]
    obtain ⟨k, hk, rfl⟩ := y_nn a ha
    rw [if_neg]
    intro h
    rw [i_le hk (by omega)] at h
    rcases (show k = 0 ∨ k = 1 by omega) with h2 | h2
    · subst h2; exact h0 rfl
    · subst h2; exact h1 rfl
theorem y_endAt (c : sl_M) {e : Nat} (he : e < 2) : f_X10_endAt (sl_i e) c = some ((sl_i 0, e, 0), c) := by
  rw [e_X10_endAt]
  rcases y_e01 he with h | h <;> subst h <;> simp (disch := omega) only [i_lit, i_ofNat, i_add, i_mul, i_sub, i_addn, i_subm, y_nsm, i_le, i_lt, i_nat, i_eq, i_div, i_nle, i_nlt, i_len, i_ltn, i_neq, i_eqn, i_and1, i_and63, i_and255, b8_sx, ob_some, if_true, if_false, and_self, true_and, if_pos, if_neg]
theorem y_endNo (c : sl_M) (a : Int32) (h0 : a ≠ sl_i 0) (h1 : a ≠ sl_i 1) : f_X10_endAt a c = some ((sl_i 0, 0, 2), c) := by
  rw [e_X10_endAt]
  simp only [i_litN]
  rw [if_neg h0, if_neg h1]
theorem y_laneAt (c : sl_M) {e : Nat} (he : e < 2) : f_X10_laneAt (sl_i e) c = some ((sl_i 0, e, 0), c) := by
  rw [e_X10_laneAt]
  rcases y_e01 he with h | h <;> subst h <;> simp (disch := omega) only [i_lit, i_ofNat, i_add, i_mul, i_sub, i_addn, i_subm, y_nsm, i_le, i_lt, i_nat, i_eq, i_div, i_nle, i_nlt, i_len, i_ltn, i_neq, i_eqn, i_and1, i_and63, i_and255, b8_sx, ob_some, if_true, if_false, and_self, true_and, if_pos, if_neg]
theorem y_laneNo (c : sl_M) (a : Int32) (h0 : a ≠ sl_i 0) (h1 : a ≠ sl_i 1) : f_X10_laneAt a c = some ((sl_i 0, 0, 2), c) := by
  rw [e_X10_laneAt]
  simp only [i_litN]
  rw [if_neg h0, if_neg h1]
theorem y_R_K {K K' : Nat} {c d : sl_M} (h : y_R K c d) (hK : K ≤ K') : y_R K' c d := by
  obtain ⟨mo, sp, wi, si, ti, h1, h2, h3⟩ := h
  refine ⟨mo, sp, wi, si, ti, h1, h2, fun e he => ?_⟩
  obtain ⟨⟨fi, n, h4⟩, nh, x, h5, h6, h7⟩ := h3 e he
  exact ⟨⟨fi, n, y_E_K h4 hK⟩, nh, x, h5, by omega, h7⟩
/-- thrown alone is written -/
theorem y_R_thr {K : Nat} {c d : sl_M} {x : Int32} (h : y_R K c d) : y_R K c (sl_up d 11 0 0 x) := by
  have hT : y_gT c d := by obtain ⟨mo, sp, wi, si, ti, h1, h2, h3⟩ := h; exact h2
  exact y_R_T h (Nat.le_refl _) (y_sm_refl _ _) (y_thr d x) (y_gT_thr hT)
theorem y_QX {K : Nat} {c d : sl_M} {b : Int32} {A B : Option (sl_PL × sl_M)} (h : y_R K c d) (hA : A = some ((sl_i 0, 0, 2), c)) (hB : B = some ((b, 0, 0), sl_up d 11 0 0 (sl_i 1))) : y_Q K c d A B :=
  ⟨c, sl_up d 11 0 0 (sl_i 1), y_R_K (y_R_thr h) (by omega), y_sm_refl _ _, y_zTm' (y_thr d _), .inr ⟨b, hA, hB, up_eq rfl rfl rfl⟩⟩
theorem y_Qok {K : Nat} {c d c' d' : sl_M} {a : Int32} {A B : Option (sl_PL × sl_M)} (h : y_R (K + 1) c' d') (hc : y_sm y_zc c c') (hd : y_sm y_zm d d') (hA : A = some ((a, 0, 0), c')) (hB : B = some ((a, 0, 0), d')) (h0 : d'.1 11 0 0 = sl_i 0) : y_Q K c d A B :=
  ⟨c', d', h, hc, hd, .inl ⟨a, hA, hB, h0⟩⟩
/-! give -/
theorem y_give31 (e n G : Nat) (he : e < 2) (hn : n ≤ 1200) (hG : G + n ≤ 3000) : ∀ r i fuel (d : sl_M), i + r = n → d.1 11 0 2 = sl_i n → d.1 51 0 e = sl_i G →
    ∃ d', b_X11_give_31 (fuel + r + 1) (sl_i e) (sl_i i) d = some ((sl_i (G + n), 0, 0), sl_up (sl_up d' 51 0 e (sl_i (G + n))) 11 0 2 (sl_i 0)) ∧
      (∀ j, i ≤ j → j < n → y_mb d' 3 (3000 * e + (G + j)) = y_mb d 0 j) ∧ y_sm (fun k w p => k = 30 ∧ w = 3 ∧ 3000 * e + G + i ≤ p ∧ p < 3000 * e + G + n) d d' := by
  intro r
  induction r with
  | zero =>
    intro i fuel d hi h2 h51
    have : i = n := by omega
    subst this
    refine ⟨d, ?_, fun j _ _ => by omega, y_sm_refl _ _⟩
    rw [e_X11_give_31]
    simp (disch := omega) only [i_lit, i_ofNat, i_add, i_mul, i_sub, i_addn, i_subm, y_nsm, i_le, i_lt, i_nat, i_eq, i_div, i_nle, i_nlt, i_len, i_ltn, i_neq, i_eqn, i_and1, i_and63, i_and255, b8_sx, ob_some, if_true, if_false, and_self, true_and, if_pos, if_neg, h2, h51, up_eq, up_ne]
  | succ r ih =>
    intro i fuel d hi h2 h51
    obtain ⟨d', g1, g2, g3⟩ := ih (i + 1) fuel (sl_up d 30 3 (3000 * e + G + i) (sl_sx (d.1 30 0 i))) (by omega) (by rw [up_ne (by omega)]; exact h2) (by rw [up_ne (by omega)]; exact h51)
    refine ⟨d', ?_, ?_, ?_⟩
    · rw [show fuel + (r + 1) + 1 = fuel + r + 1 + 1 from rfl, e_X11_give_31]
      simp (disch := omega) only [i_lit, i_ofNat, i_add, i_mul, i_sub, i_addn, i_subm, y_nsm, i_le, i_lt, i_nat, i_eq, i_div, i_nle, i_nlt, i_len, i_ltn, i_neq, i_eqn, i_and1, i_and63, i_and255, b8_sx, ob_some, if_true, if_false, and_self, true_and, if_pos, if_neg, h2, h51]
      exact g1
    · intro j hj hj2
      by_cases hji : j = i
      · subst hji; rw [y_sm_mb g3 (by omega), y_mb_up rfl (by omega)]; rfl
      · rw [g2 j (by omega) hj2, y_mb_ne (by omega)]
    · exact ⟨g3.1, fun k w p h => by rw [g3.2 k w p (by omega), up_ne (by omega)]⟩
theorem q_give (K : Nat) (a : Int32) (c d : sl_M) (h : y_R K c d) : y_Q K c d (f_X10_give a c) (f_X11_give a d) := by
  by_cases ha : a = sl_i 0 ∨ a = sl_i 1
  · obtain ⟨e, he, rfl⟩ : ∃ e, e < 2 ∧ a = sl_i e := by rcases ha with h | h; exact ⟨0, by omega, h⟩; exact ⟨1, by omega, h⟩
    have hR := h
    obtain ⟨mo, sp, wi, si, ti, hC, hT, hE⟩ := h
    have hT2 := hT
    obtain ⟨n, m, t1, t2, t3⟩ := hT
    obtain ⟨⟨fi, nl, hE1⟩, hH⟩ := hE e he
    obtain ⟨hS, hL, hv, ⟨G, P, ck, tm, ba, ne, hP, hck⟩, hRr⟩ := hE1
    have hlr := y_lr4 he
    have hP2 := hP
    obtain ⟨a1, a2, a3, a4, a5, a6, a7, a8⟩ := hP
    rw [e_X10_give, y_endAt c he, ob_some, e_X11_give, y_isOutNo d he, ob_some]
    simp (disch := omega) only [i_lit, i_ofNat, i_add, i_mul, i_sub, i_addn, i_subm, y_nsm, i_le, i_lt, i_nat, i_eq, i_div, i_nle, i_nlt, i_len, i_ltn, i_neq, i_eqn, i_and1, i_and63, i_and255, b8_sx, ob_some, if_true, if_false, and_self, true_and, if_pos, if_neg, t1.1, up_eq, up_ne, a1.2.1, t1.2.1]
    by_cases hfit : G + n ≤ 3000
    · rw [if_pos hfit, y_roomY c a1.1 (by omega), ob_some]
      simp (disch := omega) only [i_lit, i_ofNat, i_add, i_mul, i_sub, i_addn, i_subm, y_nsm, i_le, i_lt, i_nat, i_eq, i_div, i_nle, i_nlt, i_len, i_ltn, i_neq, i_eqn, i_and1, i_and63, i_and255, b8_sx, ob_some, if_true, if_false, and_self, true_and, if_pos, if_neg, t1.1]
      obtain ⟨c1, g1, g2, g3, g4⟩ := y_addPart c (r := 4 + e) (f := 0) (s := 0) (n := n) (L := G) (LF := n) a1.1 t1.1 (by omega) (by omega) (by show n ≤ 1200; omega) (by omega) (by omega)
      obtain ⟨d1, k1, k2, k3⟩ := y_give31 e n G he t1.2.2.1 hfit n 0 (99998 - n) (sl_up d 11 0 0 (sl_i 0)) (by omega) (by rw [up_ne (by omega)]; exact t1.2.1) (by rw [up_ne (by omega)]; exact a1.2.1)
      rw [show 99998 - n + n + 1 = 99999 by omega] at k1
      obtain ⟨c2, hc2⟩ : ∃ c2, c2 = sl_up c1 6 0 1 (sl_i 0) := ⟨_, rfl⟩
      obtain ⟨d2, hd2⟩ : ∃ d2, d2 = sl_up (sl_up d1 51 0 e (sl_i (G + n))) 11 0 2 (sl_i 0) := ⟨_, rfl⟩
      have hcs : y_sm (fun k w p => (k = 6 ∧ w = 4 + e ∧ p = 1) ∨ (k = 20 ∧ w = 4 + e ∧ G ≤ p) ∨ (k = 6 ∧ w = 0 ∧ p = 1)) c c2 := by
        rw [hc2]; exact ⟨by rw [up_2, g4.1], fun k w p h => by rw [up_ne (by omega), g4.2 _ _ _ (by omega)]⟩
      have hds : y_sm (fun k w p => (k = 51 ∧ w = 0 ∧ p = e) ∨ (k = 30 ∧ w = 3 ∧ 3000 * e + G ≤ p ∧ p < 3000 * e + G + n) ∨ (k = 11 ∧ w = 0 ∧ (p = 0 ∨ p = 2))) d d2 := by
        rw [hd2]; exact ⟨by rw [up_2, up_2, k3.1]; rfl, fun k w p h => by rw [up_ne (by omega), up_ne (by omega), k3.2 _ _ _ (by omega), up_ne (by omega)]⟩
      have hP3 : y_gPx e wi si (G + n) P ck tm ba ne c2 d2 := by
        refine ⟨⟨?_, ?_, hfit, ?_⟩, ⟨?_, ?_, by omega⟩, ⟨?_, ?_⟩, ⟨?_, ?_, a4.2.2⟩, ⟨?_, ?_⟩, ⟨?_, ?_⟩, a7, ?_⟩
        · rw [hc2, up_ne (by omega)]; exact g2
        · rw [hd2, up_ne (by omega), up_eq rfl rfl rfl]
        · intro j hj
          by_cases hjG : j < G
          · rw [y_sm_rb hcs (by omega), y_sm_mb hds (by omega)]; exact a1.2.2.2 j hjG
          · have e1 := g3 (j - G) (by omega)
            have e2 := k2 (j - G) (by omega) (by omega)
            rw [show G + (j - G) = j by omega] at e1 e2
            rw [Nat.zero_add] at e1
            rw [hc2, y_rb_ne (by omega), e1, hd2, y_mb_ne (by omega), y_mb_ne (by omega), e2, y_mb_ne (by omega)]
            exact t1.2.2.2 _ (by omega)
        · rw [hcs.2 _ _ _ (by omega)]; exact a2.1
        · rw [hds.2 _ _ _ (by omega)]; exact a2.2.1
        · rw [hcs.2 _ _ _ (by omega)]; exact a3.1
        · rw [hds.2 _ _ _ (by omega)]; exact a3.2
        · rw [hcs.2 _ _ _ (by omega)]; exact a4.1
        · rw [hds.2 _ _ _ (by omega)]; exact a4.2.1
        · rw [hcs.2 _ _ _ (by omega)]; exact a5.1
        · rw [hds.2 _ _ _ (by omega)]; exact a5.2
        · rw [hcs.2 _ _ _ (by omega)]; exact a6.1
        · rw [hds.2 _ _ _ (by omega)]; exact a6.2
        · intro p h1 h2
          exact y_pc_cong (a8 p h1 h2) (fun k _ _ => hcs.2 _ _ _ (by omega)) (fun k _ => hds.2 _ _ _ (by omega)) (hds.2 _ _ _ (by omega))
      refine y_Qok (a := sl_i (G + n)) (c' := c2) (d' := d2) ⟨mo, sp, wi, si, ti, ?_, ?_, ?_⟩ (y_sm_mono hcs (fun k w p q => by unfold y_zc; omega)) (y_sm_mono hds (fun k w p q => by unfold y_zm; omega)) ?_ ?_ ?_
      · exact y_gC_cong hC hcs hds (fun p q => by omega) (fun p q => by omega)
      · refine ⟨0, m, ⟨?_, ?_, by omega, fun j hj => by omega⟩, ⟨?_, ?_, t2.2.2.1, ?_⟩, ?_, ?_⟩
        · rw [hc2, up_eq rfl rfl rfl]
        · rw [hd2, up_eq rfl rfl rfl]
        · rw [hcs.2 _ _ _ (by omega)]; exact t2.1
        · rw [hds.2 _ _ _ (by omega)]; exact t2.2.1
        · intro j hj; rw [y_sm_rb hcs (by omega), y_sm_mb hds (by omega)]; exact t2.2.2.2 j hj
        · rw [hcs.2 _ _ _ (by omega), hds.2 _ _ _ (by omega)]; exact t3.1
        · rw [hcs.2 _ _ _ (by omega), hds.2 _ _ _ (by omega)]; exact t3.2
      · intro e2 he2
        obtain ⟨⟨fi2, n2, hE2⟩, hH2⟩ := hE e2 he2
        refine ⟨?_, y_H_cong hH2 (by omega) hcs hds (fun k w p q r => by omega) (fun k w p q r => by omega)⟩
        by_cases hee : e2 = e
        · subst hee
          obtain ⟨q1, q2, q3, q4, q5⟩ := hE2
          obtain ⟨_, _, hmo, hsp2, hsp64, hw1, hwA, hwB, hsi1, hsi60, _⟩ := q1
          exact ⟨fi2, n2, y_gS_cong hS (fun p => hcs.2 _ _ _ (by omega)) (fun p _ _ => hds.2 _ _ _ (by omega)),
            y_gL_cong q2 he hcs hds (fun k w p h => by unfold y_zF at h; omega) (fun k w p h => by unfold y_zFd at h; omega),
            fun k hk => by rw [hds.2 _ _ _ (by omega)]; exact q3 k hk, ⟨G + n, P, ck, tm, ba, ne, hP3, by omega⟩,
            y_gR_cong q5 he hsp64 (by omega) hsi60 hcs hds (fun k w p h => by unfold y_zR at h; omega) (fun k w p h => by unfold y_zRd at h; omega)⟩
        · exact ⟨fi2, n2, y_E_K (y_E_cong hE2 he2 hcs hds (fun k w p q => by unfold y_zS y_zF y_zP y_zR at q; omega) (fun k w p q => by unfold y_zSd y_zFd y_zPd y_zRd at q; omega)) (by omega)⟩
      · rw [g1, ob_some, y_clear, ob_some, up_ne (by omega), g2, ← hc2]
      · rw [hd2]; exact k1
      · rw [hd2, up_ne (by omega), up_ne (by omega), k3.2 _ _ _ (by omega), up_eq rfl rfl rfl]
    · rw [if_neg hfit, y_roomN c a1.1 (by omega) (by omega) (by omega), ob_some]
      simp (disch := omega) only [i_lit, i_ofNat, i_add, i_mul, i_sub, i_addn, i_subm, y_nsm, i_le, i_lt, i_nat, i_eq, i_div, i_nle, i_nlt, i_len, i_ltn, i_neq, i_eqn, i_and1, i_and63, i_and255, b8_sx, ob_some, if_true, if_false, and_self, true_and, if_pos, if_neg]
      exact y_Qr hR rfl rfl
  · have h0 : a ≠ sl_i 0 := fun q => ha (.inl q)
    have h1 : a ≠ sl_i 1 := fun q => ha (.inr q)
    refine y_QX (b := -(sl_i 1)) h ?_ ?_
    · rw [e_X10_give, y_endNo c a h0 h1, ob_some, if_pos rfl]; rfl
    · rw [e_X11_give, y_isOutYes d a h0 h1, ob_some]
      simp (disch := omega) only [i_lit, i_ofNat, i_add, i_mul, i_sub, i_addn, i_subm, y_nsm, i_le, i_lt, i_nat, i_eq, i_div, i_nle, i_nlt, i_len, i_ltn, i_neq, i_eqn, i_and1, i_and63, i_and255, b8_sx, ob_some, if_true, if_false, and_self, true_and, if_pos, if_neg]
