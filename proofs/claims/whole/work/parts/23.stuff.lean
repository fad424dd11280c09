/-! stuffing: class and model step by step -/
/-- what both loops hold at index i: K place of the code, C the code so far -/
def y_stI (g : Nat → Nat) (a1 w2 o K C i : Nat) (c d : sl_M) : Prop :=
  (∀ j, j < K + C → j ≠ K → y_rb c a1 j = y_mb d w2 (o + j)) ∧ (∀ j, j < K + C → y_rb c a1 j ≠ 0) ∧
  (g 0 ≠ 0 → 1 ≤ i → y_rb c a1 1 = g 0 ∧ (K = 0 → 2 ≤ C) ∧ (0 < K → 2 ≤ y_rb c a1 0 ∧ 2 ≤ K))
/-- the end of both: L bytes, alike, none of them 0 -/
def y_stE (g : Nat → Nat) (a1 w2 o L i : Nat) (c d : sl_M) : Prop :=
  (∀ j, j < L → y_rb c a1 j = y_mb d w2 (o + j)) ∧ (∀ j, j < L → y_rb c a1 j ≠ 0) ∧
  (g 0 ≠ 0 → 1 ≤ i → y_rb c a1 1 = g 0 ∧ 2 ≤ y_rb c a1 0)
theorem y_stuffL (g : Nat → Nat) (a0 a1 w w2 o n cap : Nat) (ha : a0 ≠ a1) (hw : w ≠ w2) (hn : n ≤ sl_lr a0) (hn2 : n ≤ 1200)
    (hcap : cap = sl_lr a1) (hnc : n + n / 254 + 1 ≤ cap) (hlb : o + n + n / 254 + 2 ≤ sl_lb w2) (hnw : n ≤ sl_lb w) :
    ∀ k i q K C fuel fuel' (c d : sl_M), i + k = n → k < fuel → k + 2 < fuel' → K + C = 1 + i + q → 254 * q + (C - 1) ≤ i → 1 ≤ C → C ≤ 254 →
    c.1 6 a0 1 = sl_i n → (∀ j, j < n → y_rb c a0 j = g j) → (∀ j, j < n → y_mb d w j = g j) → c.1 6 a1 1 = sl_i (K + C) →
    y_stI g a1 w2 o K C i c d →
    ∃ L c' d', b_X0_pack_17 fuel a0 a1 (sl_i K) (sl_i C) (sl_i i) c = some ((sl_i 0, 0, 0), c') ∧
      b_X11_stuffed_11 fuel' w (sl_i n) w2 (sl_i o) (sl_i (o + K)) (sl_i (o + K + C)) (sl_i i) d = some ((sl_i L, 0, 0), d') ∧
      c'.1 6 a1 1 = sl_i L ∧ n + 1 ≤ L ∧ L ≤ n + n / 254 + 1 ∧ y_stE g a1 w2 o L n c' d' ∧
      y_sm (fun k w p => (k = 6 ∧ w = a1 ∧ p = 1) ∨ (k = 20 ∧ w = a1)) c c' ∧
      y_sm (fun k w p => k = 30 ∧ w = w2 ∧ o ≤ p ∧ p < o + n + n / 254 + 1) d d' := by
  intro k
  have hb := y_lr_lt a1
  have hb0 := y_lr_lt a0
  have hb2 := y_lb_lt w2
  have hb3 := y_lb_lt w
  induction k with
  | zero =>
    intro i q K C fuel fuel' c d hi hf hf' hKC hq hC1 hC2 hl hg hg' hl1 hI
    obtain ⟨f2, rfl⟩ : ∃ f2, fuel = f2 + 1 := ⟨fuel - 1, by omega⟩
    obtain ⟨f3, rfl⟩ : ∃ f3, fuel' = f3 + 1 + 1 := ⟨fuel' - 2, by omega⟩
    have : i = n := by omega
    subst this
    have hql : q ≤ i / 254 := by omega
    refine ⟨K + C, sl_up c 20 a1 K (sl_sx (sl_i C)), sl_up d 30 w2 (o + K) (sl_sx (sl_i C)), ?_, ?_, ?_, by omega, by omega, ⟨?_, ?_, ?_⟩, ?_, ?_⟩
    · rw [e_X0_pack_17, hl]
      simp (disch := omega) only [i_lit, i_ofNat, i_add, i_mul, i_sub, i_addn, i_subm, i_subm', i_le, i_lt, i_nat, i_eq, i_div, i_nle, i_nlt, i_len, i_ltn, i_neq, i_eqn, i_and1, i_and63, i_and255, b8_sx, ob_some, if_true, if_false, and_self, true_and, if_pos, if_neg]
      rw [y_put c _ (by omega), ob_some]
    · rw [e_X11_stuffed_11]
      simp (disch := omega) only [i_lit, i_ofNat, i_add, i_mul, i_sub, i_addn, i_subm, i_subm', i_le, i_lt, i_nat, i_eq, i_div, i_nle, i_nlt, i_len, i_ltn, i_neq, i_eqn, i_and1, i_and63, i_and255, b8_sx, ob_some, if_true, if_false, and_self, true_and, if_pos, if_neg]
      rw [e_X11_stuffed_11]
      simp (disch := omega) only [i_lit, i_ofNat, i_add, i_mul, i_sub, i_addn, i_subm, i_subm', i_le, i_lt, i_nat, i_eq, i_div, i_nle, i_nlt, i_len, i_ltn, i_neq, i_eqn, i_and1, i_and63, i_and255, b8_sx, ob_some, if_true, if_false, and_self, true_and, if_pos, if_neg]
      rw [show o + K + C - (o + K) = C by omega, show o + K + C + 1 - 1 - o = K + C by omega]
    · rw [up_ne (by omega)]; exact hl1
    · intro j hj
      by_cases h : j = K
      · rw [y_rb_up rfl h, y_mb_up rfl (by omega)]
      · rw [y_rb_ne (by omega), y_mb_ne (by omega)]; exact hI.1 j hj h
    · intro j hj
      by_cases h : j = K
      · rw [y_rb_up rfl h, b8_i]; omega
      · rw [y_rb_ne (by omega)]; exact hI.2.1 j hj
    · intro h0 hi1
      obtain ⟨h3, h4, h5⟩ := hI.2.2 h0 hi1
      by_cases h : K = 0
      · subst h
        rw [y_rb_ne (by omega), y_rb_up rfl rfl, b8_i]
        have := h4 rfl
        exact ⟨h3, by omega⟩
      · have h6 := h5 (by omega)
        rw [y_rb_ne (by omega), y_rb_ne (by omega)]
        exact ⟨h3, h6.1⟩
    · exact y_sm_up (y_sm_refl _ _) (fun _ _ _ h => h) (by omega)
    · exact y_sm_up (y_sm_refl _ _) (fun _ _ _ h => h) (by omega)
  | succ k ih =>
    intro i q K C fuel fuel' c d hi hf hf' hKC hq hC1 hC2 hl hg hg' hl1 hI
    obtain ⟨f2, rfl⟩ : ∃ f2, fuel = f2 + 1 := ⟨fuel - 1, by omega⟩
    obtain ⟨f3, rfl⟩ : ∃ f3, fuel' = f3 + 1 := ⟨fuel' - 1, by omega⟩
    have hql : q ≤ i / 254 := by omega
    have hgl : y_rb c a0 i < 256 := y_rb_lt _ _ _
    have hgi := hg i (by omega)
    have hgi' := hg' i (by omega)
    have hb8 : sl_b8 (d.1 30 w i) = g i := hgi'
    by_cases h0 : g i = 0
    · obtain ⟨L, c', d', r1, r2, r3, r4, r5, r6, r7, r8⟩ := ih (i + 1) q (K + C) 1 f2 f3
        (sl_up (sl_up (sl_up c 20 a1 K (sl_sx (sl_i C))) 20 a1 (K + C) (sl_sx (sl_i 1))) 6 a1 1 (sl_i (K + C + 1)))
        (sl_up d 30 w2 (o + K) (sl_sx (sl_i C))) (by omega) (by omega) (by omega) (by omega) (by omega) (by omega) (by omega)
        (by rw [up_ne (by omega), up_ne (by omega), up_ne (by omega)]; exact hl)
        (fun j hj => by rw [y_rb_ne (by omega), y_rb_ne (by omega), y_rb_ne (by omega)]; exact hg j hj)
        (fun j hj => by rw [y_mb_ne (by omega)]; exact hg' j hj)
        (by rw [up_eq rfl rfl rfl])
        ⟨fun j hj hjK => by
          rw [y_rb_ne (by omega), y_rb_ne (by omega)]
          by_cases h : j = K
          · rw [y_rb_up rfl h, y_mb_up rfl (by omega)]
          · rw [y_rb_ne (by omega), y_mb_ne (by omega)]; exact hI.1 j (by omega) h,
        fun j hj => by
          rw [y_rb_ne (by omega)]
          by_cases h2 : j = K + C
          · rw [y_rb_up rfl h2, b8_i]; omega
          · rw [y_rb_ne (by omega)]
            by_cases h : j = K
            · rw [y_rb_up rfl h, b8_i]; omega
            · rw [y_rb_ne (by omega)]; exact hI.2.1 j (by omega),
        fun g0 _ => by
          have hi1 : 1 ≤ i := by
            by_cases hz : i = 0
            · subst hz; omega
            · omega
          obtain ⟨h3, h4, h5⟩ := hI.2.2 g0 hi1
          by_cases h : K = 0
          · subst h
            have := h4 rfl
            rw [y_rb_ne (by omega), y_rb_ne (by omega), y_rb_ne (by omega), y_rb_ne (by omega), y_rb_ne (by omega), y_rb_up rfl rfl, b8_i]
            exact ⟨h3, fun _ => by omega, fun _ => by omega⟩
          · have h6 := h5 (by omega)
            rw [y_rb_ne (by omega), y_rb_ne (by omega), y_rb_ne (by omega), y_rb_ne (by omega), y_rb_ne (by omega), y_rb_ne (by omega)]
            exact ⟨h3, fun _ => by omega, fun _ => by omega⟩⟩
      refine ⟨L, c', d', ?_, ?_, r3, r4, r5, r6, ?_, ?_⟩
      · rw [e_X0_pack_17, hl]
        simp (disch := omega) only [i_lit, i_le, if_neg]
        rw [y_at c hl (by omega) hn]
        simp (disch := omega) only [i_lit, i_ofNat, i_add, i_mul, i_sub, i_addn, i_subm, i_subm', i_le, i_lt, i_nat, i_eq, i_div, i_nle, i_nlt, i_len, i_ltn, i_neq, i_eqn, i_and1, i_and63, i_and255, b8_sx, ob_some, if_true, if_false, and_self, true_and, if_pos, if_neg]
        rw [y_put c _ (by omega), ob_some, y_add (L := K + C) _ _ (by rw [up_ne (by omega)]; exact hl1) (by omega), ob_some, up_ne (by omega), hl1]
        exact r1
      · rw [e_X11_stuffed_11]
        simp (disch := omega) only [i_lit, i_ofNat, i_add, i_mul, i_sub, i_addn, i_subm, i_subm', i_le, i_lt, i_nat, i_eq, i_div, i_nle, i_nlt, i_len, i_ltn, i_neq, i_eqn, i_and1, i_and63, i_and255, b8_sx, ob_some, if_true, if_false, and_self, true_and, if_pos, if_neg, sx_eq0, hb8]
        rw [show o + K + C - (o + K) = C by omega]
        rw [show o + (K + C) = o + K + C by omega] at r2
        exact r2
      · refine ⟨r7.1, fun k w p h => ?_⟩
        rw [r7.2 k w p h, up_ne (by omega), up_ne (by omega), up_ne (by omega)]
      · refine ⟨r8.1, fun k w p h => ?_⟩
        rw [r8.2 k w p h, up_ne (by omega)]
    · by_cases hfull : C = 254
      · obtain ⟨L, c', d', r1, r2, r3, r4, r5, r6, r7, r8⟩ := ih (i + 1) (q + 1) (K + C + 1) 1 f2 f3
          (sl_up (sl_up (sl_up (sl_up (sl_up c 20 a1 (K + C) (sl_sx (sl_i (g i)))) 6 a1 1 (sl_i (K + C + 1))) 20 a1 K (sl_sx (sl_i 255))) 20 a1 (K + C + 1) (sl_sx (sl_i 1))) 6 a1 1 (sl_i (K + C + 1 + 1)))
          (sl_up (sl_up d 30 w2 (o + K + C) (sl_sx (d.1 30 w i))) 30 w2 (o + K) (sl_sx (sl_i 255))) (by omega) (by omega) (by omega) (by omega) (by omega) (by omega) (by omega)
          (by rw [up_ne (by omega), up_ne (by omega), up_ne (by omega), up_ne (by omega), up_ne (by omega)]; exact hl)
          (fun j hj => by rw [y_rb_ne (by omega), y_rb_ne (by omega), y_rb_ne (by omega), y_rb_ne (by omega), y_rb_ne (by omega)]; exact hg j hj)
          (fun j hj => by rw [y_mb_ne (by omega), y_mb_ne (by omega)]; exact hg' j hj)
          (by rw [up_eq rfl rfl rfl])
          ⟨fun j hj hjK => by
            rw [y_rb_ne (by omega), y_rb_ne (by omega)]
            by_cases h : j = K
            · rw [y_rb_up rfl h, y_mb_up rfl (by omega)]
            · rw [y_rb_ne (by omega), y_rb_ne (by omega), y_mb_ne (by omega)]
              by_cases h2 : j = K + C
              · rw [y_rb_up rfl h2, y_mb_up rfl (by omega), b8_i, hb8]; omega
              · rw [y_rb_ne (by omega), y_mb_ne (by omega)]; exact hI.1 j (by omega) h,
          fun j hj => by
            rw [y_rb_ne (by omega)]
            by_cases h2 : j = K + C + 1
            · rw [y_rb_up rfl h2, b8_i]; omega
            · rw [y_rb_ne (by omega)]
              by_cases h : j = K
              · rw [y_rb_up rfl h, b8_i]; omega
              · rw [y_rb_ne (by omega), y_rb_ne (by omega)]
                by_cases h3 : j = K + C
                · rw [y_rb_up rfl h3, b8_i]; omega
                · rw [y_rb_ne (by omega)]; exact hI.2.1 j (by omega),
          fun g0 _ => by
            have hi1 : 1 ≤ i := by omega
            obtain ⟨h3, h4, h5⟩ := hI.2.2 g0 hi1
            by_cases h : K = 0
            · subst h
              rw [y_rb_ne (by omega), y_rb_ne (by omega), y_rb_ne (by omega), y_rb_ne (by omega), y_rb_ne (by omega), y_rb_ne (by omega), y_rb_ne (by omega), y_rb_up rfl rfl, b8_i]
              exact ⟨h3, fun _ => by omega, fun _ => by omega⟩
            · have h6 := h5 (by omega)
              rw [y_rb_ne (by omega), y_rb_ne (by omega), y_rb_ne (by omega), y_rb_ne (by omega), y_rb_ne (by omega), y_rb_ne (by omega), y_rb_ne (by omega), y_rb_ne (by omega), y_rb_ne (by omega), y_rb_ne (by omega)]
              exact ⟨h3, fun _ => by omega, fun _ => by omega⟩⟩
        refine ⟨L, c', d', ?_, ?_, r3, r4, r5, r6, ?_, ?_⟩
        · rw [e_X0_pack_17, hl]
          simp (disch := omega) only [i_lit, i_le, if_neg]
          rw [y_at c hl (by omega) hn, hgi]
          simp (disch := omega) only [i_lit, i_ofNat, i_add, i_mul, i_sub, i_addn, i_subm, i_subm', i_le, i_lt, i_nat, i_eq, i_div, i_nle, i_nlt, i_len, i_ltn, i_neq, i_eqn, i_and1, i_and63, i_and255, b8_sx, ob_some, if_true, if_false, and_self, true_and, if_pos, if_neg]
          rw [y_add c _ hl1 (by omega)]
          simp (disch := omega) only [i_lit, i_ofNat, i_add, i_mul, i_sub, i_addn, i_subm, i_subm', i_le, i_lt, i_nat, i_eq, i_div, i_nle, i_nlt, i_len, i_ltn, i_neq, i_eqn, i_and1, i_and63, i_and255, b8_sx, ob_some, if_true, if_false, and_self, true_and, if_pos, if_neg]
          rw [y_put _ _ (by omega), ob_some, y_add (L := K + C + 1) _ _ (by rw [up_ne (by omega), up_eq rfl rfl rfl]) (by omega), ob_some, up_ne (by omega), up_eq rfl rfl rfl, show C + 1 = 255 by omega]
          exact r1
        · rw [e_X11_stuffed_11]
          simp (disch := omega) only [i_lit, i_ofNat, i_add, i_mul, i_sub, i_addn, i_subm, i_subm', i_le, i_lt, i_nat, i_eq, i_div, i_nle, i_nlt, i_len, i_ltn, i_neq, i_eqn, i_and1, i_and63, i_and255, b8_sx, ob_some, if_true, if_false, and_self, true_and, if_pos, if_neg, sx_eq0, hb8]
          rw [show o + K + C + 1 - (o + K) = 255 by omega]
          rw [show o + (K + C + 1) = o + K + C + 1 by omega] at r2
          exact r2
        · refine ⟨r7.1, fun k w p h => ?_⟩
          rw [r7.2 k w p h, up_ne (by omega), up_ne (by omega), up_ne (by omega), up_ne (by omega), up_ne (by omega)]
        · refine ⟨r8.1, fun k w p h => ?_⟩
          rw [r8.2 k w p h, up_ne (by omega), up_ne (by omega)]
      · obtain ⟨L, c', d', r1, r2, r3, r4, r5, r6, r7, r8⟩ := ih (i + 1) q K (C + 1) f2 f3
          (sl_up (sl_up c 20 a1 (K + C) (sl_sx (sl_i (g i)))) 6 a1 1 (sl_i (K + C + 1)))
          (sl_up d 30 w2 (o + K + C) (sl_sx (d.1 30 w i))) (by omega) (by omega) (by omega) (by omega) (by omega) (by omega) (by omega)
          (by rw [up_ne (by omega), up_ne (by omega)]; exact hl)
          (fun j hj => by rw [y_rb_ne (by omega), y_rb_ne (by omega)]; exact hg j hj)
          (fun j hj => by rw [y_mb_ne (by omega)]; exact hg' j hj)
          (by rw [up_eq rfl rfl rfl]; rfl)
          ⟨fun j hj hjK => by
            rw [y_rb_ne (by omega)]
            by_cases h2 : j = K + C
            · rw [y_rb_up rfl h2, y_mb_up rfl (by omega), b8_i, hb8]; omega
            · rw [y_rb_ne (by omega), y_mb_ne (by omega)]; exact hI.1 j (by omega) hjK,
          fun j hj => by
            rw [y_rb_ne (by omega)]
            by_cases h3 : j = K + C
            · rw [y_rb_up rfl h3, b8_i]; omega
            · rw [y_rb_ne (by omega)]; exact hI.2.1 j (by omega),
          fun g0 _ => by
            by_cases hi1 : i = 0
            · subst hi1
              have hK0 : K = 0 := by omega
              have hC0 : C = 1 := by omega
              subst hK0; subst hC0
              rw [y_rb_ne (by omega), y_rb_up rfl rfl, b8_i]
              exact ⟨by omega, fun _ => by omega, fun _ => by omega⟩
            · obtain ⟨h3, h4, h5⟩ := hI.2.2 g0 (by omega)
              by_cases h : K = 0
              · have := h4 h
                rw [y_rb_ne (by omega), y_rb_ne (by omega)]
                exact ⟨h3, fun _ => by omega, fun _ => by omega⟩
              · have h6 := h5 (by omega)
                rw [y_rb_ne (by omega), y_rb_ne (by omega), y_rb_ne (by omega), y_rb_ne (by omega)]
                exact ⟨h3, fun _ => by omega, fun _ => by omega⟩⟩
        refine ⟨L, c', d', ?_, ?_, r3, r4, r5, r6, ?_, ?_⟩
        · rw [e_X0_pack_17, hl]
          simp (disch := omega) only [i_lit, i_le, if_neg]
          rw [y_at c hl (by omega) hn, hgi]
          simp (disch := omega) only [i_lit, i_ofNat, i_add, i_mul, i_sub, i_addn, i_subm, i_subm', i_le, i_lt, i_nat, i_eq, i_div, i_nle, i_nlt, i_len, i_ltn, i_neq, i_eqn, i_and1, i_and63, i_and255, b8_sx, ob_some, if_true, if_false, and_self, true_and, if_pos, if_neg]
          rw [y_add c _ hl1 (by omega)]
          simp (disch := omega) only [i_lit, i_ofNat, i_add, i_mul, i_sub, i_addn, i_subm, i_subm', i_le, i_lt, i_nat, i_eq, i_div, i_nle, i_nlt, i_len, i_ltn, i_neq, i_eqn, i_and1, i_and63, i_and255, b8_sx, ob_some, if_true, if_false, and_self, true_and, if_pos, if_neg]
          exact r1
        · rw [e_X11_stuffed_11]
          simp (disch := omega) only [i_lit, i_ofNat, i_add, i_mul, i_sub, i_addn, i_subm, i_subm', i_le, i_lt, i_nat, i_eq, i_div, i_nle, i_nlt, i_len, i_ltn, i_neq, i_eqn, i_and1, i_and63, i_and255, b8_sx, ob_some, if_true, if_false, and_self, true_and, if_pos, if_neg, sx_eq0, hb8]
          rw [show o + K + (C + 1) = o + K + C + 1 by omega] at r2
          exact r2
        · refine ⟨r7.1, fun k w p h => ?_⟩
          rw [r7.2 k w p h, up_ne (by omega), up_ne (by omega)]
        · refine ⟨r8.1, fun k w p h => ?_⟩
          rw [r8.2 k w p h, up_ne (by omega)]
/-- stuffing as a whole -/
theorem y_stuff (g : Nat → Nat) (a0 a1 w w2 o n : Nat) (c d : sl_M) (ha : a0 ≠ a1) (hw : w ≠ w2) (hn : n ≤ sl_lr a0) (hn2 : n ≤ 1200)
    (hnc : n + n / 254 + 1 ≤ sl_lr a1) (hlb : o + n + n / 254 + 2 ≤ sl_lb w2) (hnw : n ≤ sl_lb w)
    (hl : c.1 6 a0 1 = sl_i n) (hg : ∀ j, j < n → y_rb c a0 j = g j) (hg' : ∀ j, j < n → y_mb d w j = g j) :
    ∃ L c' d', f_X0_pack a0 a1 c = some ((sl_i 0, 0, 0), c') ∧
      f_X11_stuffed w (sl_i n) w2 (sl_i o) d = some ((sl_i L, 0, 0), d') ∧
      c'.1 6 a1 1 = sl_i L ∧ n + 1 ≤ L ∧ L ≤ n + n / 254 + 1 ∧ y_stE g a1 w2 o L n c' d' ∧
      y_sm (fun k w p => (k = 6 ∧ w = a1 ∧ p = 1) ∨ (k = 20 ∧ w = a1)) c c' ∧
      y_sm (fun k w p => k = 30 ∧ w = w2 ∧ o ≤ p ∧ p < o + n + n / 254 + 1) d d' := by
  have hb := y_lr_lt a1
  obtain ⟨L, c', d', r1, r2, r3, r4, r5, r6, r7, r8⟩ := y_stuffL g a0 a1 w w2 o n (sl_lr a1) ha hw hn hn2 rfl hnc hlb hnw n 0 0 0 1 99999 99999
    (sl_up (sl_up (sl_up c 6 a1 1 (sl_i 0)) 20 a1 0 (sl_sx (sl_i 1))) 6 a1 1 (sl_i 1)) d (by omega) (by omega) (by omega) (by omega) (by omega) (by omega) (by omega)
    (by rw [up_ne (by omega), up_ne (by omega), up_ne (by omega)]; exact hl)
    (fun j hj => by rw [y_rb_ne (by omega), y_rb_ne (by omega), y_rb_ne (by omega)]; exact hg j hj)
    hg' (by rw [up_eq rfl rfl rfl])
    ⟨fun j hj hjK => by omega,
     fun j hj => by rw [y_rb_ne (by omega), y_rb_up rfl (by omega), b8_i]; omega,
     fun _ h => by omega⟩
  refine ⟨L, c', d', ?_, ?_, r3, r4, r5, r6, ?_, r8⟩
  · rw [e_X0_pack, y_clear, ob_some, y_add (L := 0) _ _ (by rw [up_eq rfl rfl rfl]) (by omega), ob_some]
    exact r1
  · rw [e_X11_stuffed, i_lit, i_add, i_lit]
    exact r2
  · refine ⟨r7.1, fun k w p h => ?_⟩
    rw [r7.2 k w p h, up_ne (by omega), up_ne (by omega), up_ne (by omega)]
