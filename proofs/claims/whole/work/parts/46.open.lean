/-! open -/
def y_Wd (a0 a1 : Int32) : Int32 := if a0 = sl_i 0 then sl_i 1 else if a0 = sl_i 1 then a1 - sl_i 1 else a1 / sl_i 2
def y_B (a0 a1 a2 a3 a4 : Int32) : Prop := a0 < sl_i 0 ∨ sl_i 2 < a0 ∨ a1 < sl_i 2 ∨ sl_i 64 < a1 ∨ a2 < sl_i 1 ∨ y_Wd a0 a1 < a2 ∨ a3 < sl_i 1 ∨ sl_i 60 < a3 ∨ a4 < sl_i 1 ∨ sl_i 50 < a4
theorem y_widest (a0 a1 : Int32) (c : sl_M) : f_X8_widestWindow a0 a1 c = some ((y_Wd a0 a1, 0, 0), c) := by
  rw [e_X8_widestWindow]
  unfold y_Wd
  simp only [i_litN]
  by_cases h0 : a0 = sl_i 0
  · rw [if_pos h0, if_pos h0]
  · rw [if_neg h0, if_neg h0]
    by_cases h1 : a0 = sl_i 1
    · rw [if_pos h1, if_pos h1]
    · rw [if_neg h1, if_neg h1]
theorem y_canBe (a0 a1 a2 a3 a4 : Int32) (c : sl_M) : (y_B a0 a1 a2 a3 a4 → f_X8_canBe a0 a1 a2 a3 a4 c = some ((sl_i 0, 0, 0), c)) ∧ (¬ y_B a0 a1 a2 a3 a4 → f_X8_canBe a0 a1 a2 a3 a4 c = some ((sl_i 1, 0, 0), c)) := by
  rw [e_X8_canBe, y_widest]
  unfold y_B
  simp only [i_litN, ob_some]
  by_cases h1 : a0 < sl_i 0
  · rw [if_pos h1]; exact ⟨fun _ => rfl, fun h => absurd (.inl h1) h⟩
  rw [if_neg h1]
  by_cases h2 : sl_i 2 < a0
  · rw [if_pos h2]; exact ⟨fun _ => rfl, fun h => absurd (.inr (.inl h2)) h⟩
  rw [if_neg h2]
  by_cases h3 : a1 < sl_i 2
  · rw [if_pos h3]; exact ⟨fun _ => rfl, fun h => absurd (.inr (.inr (.inl h3))) h⟩
  rw [if_neg h3]
  by_cases h4 : sl_i 64 < a1
  · rw [if_pos h4]; exact ⟨fun _ => rfl, fun h => absurd (.inr (.inr (.inr (.inl h4)))) h⟩
  rw [if_neg h4]
  by_cases h5 : a2 < sl_i 1
  · rw [if_pos h5]; exact ⟨fun _ => rfl, fun h => absurd (.inr (.inr (.inr (.inr (.inl h5))))) h⟩
  rw [if_neg h5]
  by_cases h6 : y_Wd a0 a1 < a2
  · rw [if_pos h6]; exact ⟨fun _ => rfl, fun h => absurd (.inr (.inr (.inr (.inr (.inr (.inl h6)))))) h⟩
  rw [if_neg h6]
  by_cases h7 : a3 < sl_i 1
  · rw [if_pos h7]; exact ⟨fun _ => rfl, fun h => absurd (.inr (.inr (.inr (.inr (.inr (.inr (.inl h7))))))) h⟩
  rw [if_neg h7]
  by_cases h8 : sl_i 60 < a3
  · rw [if_pos h8]; exact ⟨fun _ => rfl, fun h => absurd (.inr (.inr (.inr (.inr (.inr (.inr (.inr (.inl h8)))))))) h⟩
  rw [if_neg h8]
  by_cases h9 : a4 < sl_i 1
  · rw [if_pos h9]; exact ⟨fun _ => rfl, fun h => absurd (.inr (.inr (.inr (.inr (.inr (.inr (.inr (.inr (.inl h9))))))))) h⟩
  rw [if_neg h9]
  by_cases h10 : sl_i 50 < a4
  · rw [if_pos h10]; exact ⟨fun _ => rfl, fun h => absurd (.inr (.inr (.inr (.inr (.inr (.inr (.inr (.inr (.inr h10))))))))) h⟩
  rw [if_neg h10]
  refine ⟨fun h => ?_, fun _ => rfl⟩
  rcases h with h | h | h | h | h | h | h | h | h | h
  · exact absurd h h1
  · exact absurd h h2
  · exact absurd h h3
  · exact absurd h h4
  · exact absurd h h5
  · exact absurd h h6
  · exact absurd h h7
  · exact absurd h h8
  · exact absurd h h9
  · exact absurd h h10
theorem y_openM (a0 a1 a2 a3 a4 : Int32) (d : sl_M) : (y_B a0 a1 a2 a3 a4 → f_X11_open a0 a1 a2 a3 a4 d = some ((sl_i 0, 0, 0), sl_up d 11 0 0 (sl_i 0))) ∧
    (¬ y_B a0 a1 a2 a3 a4 → f_X11_open a0 a1 a2 a3 a4 d = (f_X11_first (sl_up (sl_up (sl_up (sl_up (sl_up (sl_up d 11 0 0 (sl_i 0)) 11 0 9 a0) 11 0 10 a1) 11 0 11 a2) 11 0 12 a3) 11 0 13 a4)).bind (fun q1 => some ((sl_i 1, 0, 0), q1.2))) := by
  rw [e_X11_open]
  unfold y_B
  simp only [i_litN]
  by_cases h1 : a0 < sl_i 0
  · rw [if_pos h1]; exact ⟨fun _ => rfl, fun h => absurd (.inl h1) h⟩
  rw [if_neg h1]
  by_cases h2 : sl_i 2 < a0
  · rw [if_pos h2]; exact ⟨fun _ => rfl, fun h => absurd (.inr (.inl h2)) h⟩
  rw [if_neg h2]
  by_cases h3 : a1 < sl_i 2
  · rw [if_pos h3]; exact ⟨fun _ => rfl, fun h => absurd (.inr (.inr (.inl h3))) h⟩
  rw [if_neg h3]
  by_cases h4 : sl_i 64 < a1
  · rw [if_pos h4]; exact ⟨fun _ => rfl, fun h => absurd (.inr (.inr (.inr (.inl h4)))) h⟩
  rw [if_neg h4]
  by_cases h7 : a3 < sl_i 1
  · rw [if_pos h7]; exact ⟨fun _ => rfl, fun h => absurd (.inr (.inr (.inr (.inr (.inr (.inr (.inl h7))))))) h⟩
  rw [if_neg h7]
  by_cases h8 : sl_i 60 < a3
  · rw [if_pos h8]; exact ⟨fun _ => rfl, fun h => absurd (.inr (.inr (.inr (.inr (.inr (.inr (.inr (.inl h8)))))))) h⟩
  rw [if_neg h8]
  by_cases h9 : a4 < sl_i 1
  · rw [if_pos h9]; exact ⟨fun _ => rfl, fun h => absurd (.inr (.inr (.inr (.inr (.inr (.inr (.inr (.inr (.inl h9))))))))) h⟩
  rw [if_neg h9]
  by_cases h10 : sl_i 50 < a4
  · rw [if_neg (fun q => (Int32.not_le.2 h10) q)]; exact ⟨fun _ => rfl, fun h => absurd (.inr (.inr (.inr (.inr (.inr (.inr (.inr (.inr (.inr h10))))))))) h⟩
  rw [if_pos (Int32.not_lt.1 h10)]
  have hrest : (a2 < sl_i 1 ∨ y_Wd a0 a1 < a2) → a0 < sl_i 0 ∨ sl_i 2 < a0 ∨ a1 < sl_i 2 ∨ sl_i 64 < a1 ∨ a2 < sl_i 1 ∨ y_Wd a0 a1 < a2 ∨ a3 < sl_i 1 ∨ sl_i 60 < a3 ∨ a4 < sl_i 1 ∨ sl_i 50 < a4 := by
    intro h; rcases h with h | h
    · exact .inr (.inr (.inr (.inr (.inl h))))
    · exact .inr (.inr (.inr (.inr (.inr (.inl h)))))
  have hno : ¬ a2 < sl_i 1 → ¬ y_Wd a0 a1 < a2 → ¬ (a0 < sl_i 0 ∨ sl_i 2 < a0 ∨ a1 < sl_i 2 ∨ sl_i 64 < a1 ∨ a2 < sl_i 1 ∨ y_Wd a0 a1 < a2 ∨ a3 < sl_i 1 ∨ sl_i 60 < a3 ∨ a4 < sl_i 1 ∨ sl_i 50 < a4) := by
    intro h5 h6 h
    rcases h with h | h | h | h | h | h | h | h | h | h
    · exact h1 h
    · exact h2 h
    · exact h3 h
    · exact h4 h
    · exact h5 h
    · exact h6 h
    · exact h7 h
    · exact h8 h
    · exact h9 h
    · exact h10 h
  by_cases m0 : a0 = sl_i 0
  · have hW : y_Wd a0 a1 = sl_i 1 := by unfold y_Wd; rw [if_pos m0]
    rw [if_pos m0]
    by_cases h5 : a2 < sl_i 1
    · rw [if_pos h5]; exact ⟨fun _ => rfl, fun h => absurd (hrest (.inl h5)) h⟩
    rw [if_neg h5]
    by_cases h6 : a2 ≤ sl_i 1
    · rw [if_pos h6]; exact ⟨fun h => absurd h (hno h5 (by rw [hW]; exact Int32.not_lt.2 h6)), fun _ => rfl⟩
    · rw [if_neg h6]; exact ⟨fun _ => rfl, fun h => absurd (hrest (.inr (by rw [hW]; exact Int32.not_le.1 h6))) h⟩
  rw [if_neg m0]
  by_cases m1 : a0 = sl_i 1
  · have hW : y_Wd a0 a1 = a1 - sl_i 1 := by unfold y_Wd; rw [if_neg m0, if_pos m1]
    rw [if_pos m1]
    by_cases h5 : a2 < sl_i 1
    · rw [if_pos h5]; exact ⟨fun _ => rfl, fun h => absurd (hrest (.inl h5)) h⟩
    rw [if_neg h5]
    by_cases h6 : a2 ≤ a1 - sl_i 1
    · rw [if_pos h6]; exact ⟨fun h => absurd h (hno h5 (by rw [hW]; exact Int32.not_lt.2 h6)), fun _ => rfl⟩
    · rw [if_neg h6]; exact ⟨fun _ => rfl, fun h => absurd (hrest (.inr (by rw [hW]; exact Int32.not_le.1 h6))) h⟩
  rw [if_neg m1]
  have hW : y_Wd a0 a1 = a1 / sl_i 2 := by unfold y_Wd; rw [if_neg m0, if_neg m1]
  by_cases h5 : a2 < sl_i 1
  · rw [if_pos h5]; exact ⟨fun _ => rfl, fun h => absurd (hrest (.inl h5)) h⟩
  rw [if_neg h5]
  by_cases h6 : a2 ≤ a1 / sl_i 2
  · rw [if_pos h6]; exact ⟨fun h => absurd h (hno h5 (by rw [hW]; exact Int32.not_lt.2 h6)), fun _ => rfl⟩
  · rw [if_neg h6]; exact ⟨fun _ => rfl, fun h => absurd (hrest (.inr (by rw [hW]; exact Int32.not_le.1 h6))) h⟩
/-! what both wipe out -/
theorem y_fill5 (w L : Nat) (hL : sl_l7 w = L) (hL64 : L ≤ 64) : ∀ r i fuel (c : sl_M), i + r = L →
    ∃ c', b_J7_fill_53178_5 (fuel + r + 1) w (sl_i 0) (sl_i i) (sl_i L) c = some ((sl_i 0, 0, 0), c') ∧ (∀ s, i ≤ s → s < L → c'.1 27 w s = sl_i 0) ∧ y_sm (fun k w' p => k = 27 ∧ w' = w ∧ i ≤ p ∧ p < L) c c' := by
  intro r
  induction r with
  | zero =>
    intro i fuel c hi
    refine ⟨c, ?_, fun s _ _ => by omega, y_sm_refl _ _⟩
    rw [e_J7_fill_53178_5, hL]
    simp (disch := omega) only [i_litN, i_ofNat, i_add, i_mul, i_sub, i_addn, i_subm, y_nsm, i_le, i_lt, i_nat, i_eq, i_div, i_nle, i_nlt, i_len, i_ltn, i_neq, i_eqn, i_and1, i_and63, i_and255, b8_sx, ob_some, if_true, if_false, and_self, true_and, if_pos, if_neg]
  | succ r ih =>
    intro i fuel c hi
    obtain ⟨c', g1, g2, g3⟩ := ih (i + 1) fuel (sl_up c 27 w i (sl_i 0)) (by omega)
    refine ⟨c', ?_, ?_, ?_⟩
    · rw [show fuel + (r + 1) + 1 = fuel + r + 1 + 1 from rfl, e_J7_fill_53178_5, hL]
      simp (disch := omega) only [i_litN, i_ofNat, i_add, i_mul, i_sub, i_addn, i_subm, y_nsm, i_le, i_lt, i_nat, i_eq, i_div, i_nle, i_nlt, i_len, i_ltn, i_neq, i_eqn, i_and1, i_and63, i_and255, b8_sx, ob_some, if_true, if_false, and_self, true_and, if_pos, if_neg]
      exact g1
    · intro s h1 h2
      by_cases hs : s = i
      · subst hs; rw [g3.2 _ _ _ (by omega), up_eq rfl rfl rfl]
      · exact g2 s (by omega) h2
    · exact ⟨g3.1, fun k w p h => by rw [g3.2 k w p (by omega), up_ne (by omega)]⟩
theorem y_fill (w L : Nat) (c : sl_M) (hL : sl_l7 w = L) (hL64 : L ≤ 64) : ∃ c', f_J7_fill_53178 w (sl_i 0) c = some ((sl_i 0, 0, 0), c') ∧ (∀ s, s < L → c'.1 27 w s = sl_i 0) ∧ y_sm (fun k w' p => k = 27 ∧ w' = w ∧ p < L) c c' := by
  obtain ⟨c', g1, g2, g3⟩ := y_fill5 w L hL hL64 L 0 (99998 - L) c (by omega)
  rw [show 99998 - L + L + 1 = 99999 by omega] at g1
  refine ⟨c', ?_, fun s hs => g2 s (by omega) hs, y_sm_mono g3 (fun k w p h => by omega)⟩
  rw [e_J7_fill_53178, hL]
  simp only [i_litN, i_ofNat]
  exact g1
theorem y_clearE (e : Nat) (c : sl_M) (he : e < 2) : ∃ c', f_X1_clear e c = some ((sl_i 0, 0, 0), c') ∧
    c'.1 6 (4 + e) 1 = sl_i 0 ∧ (∀ p, 4 ≤ p → p ≤ 8 → c'.1 7 e p = sl_i 0) ∧ c'.1 6 (6 + e) 1 = sl_i 0 ∧ c'.1 5 e 4 = sl_i 0 ∧ (∀ s, s < 64 → c'.1 27 e s = sl_i 0) ∧ c'.1 6 (10 + e) 1 = sl_i 0 ∧ c'.1 1 e 5 = sl_i 0 ∧
    y_sm (fun k w p => (k = 6 ∧ (w = 4 + e ∨ w = 6 + e ∨ w = 10 + e) ∧ p = 1) ∨ (k = 7 ∧ w = e ∧ 4 ≤ p ∧ p ≤ 8) ∨ (k = 5 ∧ w = e ∧ p = 4) ∨ (k = 27 ∧ w = e) ∨ (k = 1 ∧ w = e ∧ p = 5)) c c' := by
  have hl7 : sl_l7 e = 64 := by unfold sl_l7; rw [show (e == 2) = false by simp; omega]; rfl
  obtain ⟨c1, hc1⟩ : ∃ c1, c1 = sl_up (sl_up (sl_up (sl_up (sl_up (sl_up c 6 (4 + e) 1 (sl_i 0)) 7 e 4 (sl_i 0)) 7 e 5 (sl_i 0)) 7 e 6 (sl_i 0)) 7 e 7 (sl_i 0)) 7 e 8 (sl_i 0) := ⟨_, rfl⟩
  obtain ⟨c2, g1, g2, g3⟩ := y_fill e 64 (sl_up (sl_up c1 6 (6 + e) 1 (sl_i 0)) 5 e 4 (sl_i 0)) hl7 (by omega)
  have h7 : ∀ p, 4 ≤ p → p ≤ 8 → c1.1 7 e p = sl_i 0 := by
    intro p h1 h2
    rw [hc1]
    rcases (show p = 4 ∨ p = 5 ∨ p = 6 ∨ p = 7 ∨ p = 8 by omega) with h | h | h | h | h <;> subst h
    · rw [up_ne (by omega), up_ne (by omega), up_ne (by omega), up_ne (by omega), up_eq rfl rfl rfl]
    · rw [up_ne (by omega), up_ne (by omega), up_ne (by omega), up_eq rfl rfl rfl]
    · rw [up_ne (by omega), up_ne (by omega), up_eq rfl rfl rfl]
    · rw [up_ne (by omega), up_eq rfl rfl rfl]
    · rw [up_eq rfl rfl rfl]
  refine ⟨sl_up (sl_up c2 6 (10 + e) 1 (sl_i 0)) 1 e 5 (sl_i 0), ?_, ?_, ?_, ?_, ?_, ?_, ?_, ?_, ?_⟩
  · rw [e_X1_clear, e_X7_clear, y_clear]
    simp only [i_litN, ob_some]
    rw [← hc1, e_X5_clear, y_clear]
    simp only [i_litN, ob_some]
    rw [g1, ob_some, ob_some, e_X1_forgetHeard, y_clear]
    simp only [i_litN, ob_some]
  · rw [up_ne (by omega), up_ne (by omega), g3.2 _ _ _ (by omega), up_ne (by omega), up_ne (by omega), hc1, up_ne (by omega), up_ne (by omega), up_ne (by omega), up_ne (by omega), up_ne (by omega), up_eq rfl rfl rfl]
  · intro p h1 h2
    rw [up_ne (by omega), up_ne (by omega), g3.2 _ _ _ (by omega), up_ne (by omega), up_ne (by omega)]; exact h7 p h1 h2
  · rw [up_ne (by omega), up_ne (by omega), g3.2 _ _ _ (by omega), up_ne (by omega), up_eq rfl rfl rfl]
  · rw [up_ne (by omega), up_ne (by omega), g3.2 _ _ _ (by omega), up_eq rfl rfl rfl]
  · intro s hs; rw [up_ne (by omega), up_ne (by omega)]; exact g2 s hs
  · rw [up_ne (by omega), up_eq rfl rfl rfl]
  · rw [up_eq rfl rfl rfl]
  · refine ⟨by rw [up_2, up_2, g3.1, hc1]; rfl, fun k w p h => ?_⟩
    rw [up_ne (by omega), up_ne (by omega), g3.2 _ _ _ (by omega), up_ne (by omega), up_ne (by omega), hc1, up_ne (by omega), up_ne (by omega), up_ne (by omega), up_ne (by omega), up_ne (by omega), up_ne (by omega)]
theorem y_f97 (e : Nat) (he : e < 2) : ∀ r i fuel (d : sl_M), i + r = 64 →
    ∃ d', b_X11_first_97 (fuel + r + 1) (sl_i e) (sl_i i) d = b_X11_first_2 fuel (sl_i (e + 1)) d' ∧ (∀ s, i ≤ s → s < 64 → d'.1 71 0 (64 * e + s) = sl_i 0) ∧ y_sm (fun k w p => k = 71 ∧ w = 0 ∧ 64 * e + i ≤ p ∧ p < 64 * e + 64) d d' := by
  intro r
  induction r with
  | zero =>
    intro i fuel d hi
    refine ⟨d, ?_, fun s _ _ => by omega, y_sm_refl _ _⟩
    rw [e_X11_first_97]
    simp (disch := omega) only [i_litN, i_ofNat, i_add, i_mul, i_sub, i_addn, i_subm, y_nsm, i_le, i_lt, i_nat, i_eq, i_div, i_nle, i_nlt, i_len, i_ltn, i_neq, i_eqn, i_and1, i_and63, i_and255, b8_sx, ob_some, if_true, if_false, and_self, true_and, if_pos, if_neg, Nat.add_zero]
  | succ r ih =>
    intro i fuel d hi
    obtain ⟨d', g1, g2, g3⟩ := ih (i + 1) fuel (sl_up d 71 0 (64 * e + i) (sl_i 0)) (by omega)
    refine ⟨d', ?_, ?_, ?_⟩
    · rw [show fuel + (r + 1) + 1 = fuel + r + 1 + 1 from rfl, e_X11_first_97]
      simp (disch := omega) only [i_litN, i_ofNat, i_add, i_mul, i_sub, i_addn, i_subm, y_nsm, i_le, i_lt, i_nat, i_eq, i_div, i_nle, i_nlt, i_len, i_ltn, i_neq, i_eqn, i_and1, i_and63, i_and255, b8_sx, ob_some, if_true, if_false, and_self, true_and, if_pos, if_neg]
      exact g1
    · intro s h1 h2
      by_cases hs : s = i
      · subst hs; rw [g3.2 _ _ _ (by omega), up_eq rfl rfl rfl]
      · exact g2 s (by omega) h2
    · exact ⟨g3.1, fun k w p h => by rw [g3.2 k w p (by omega), up_ne (by omega)]⟩
theorem y_f129 : ∀ r i fuel (d : sl_M), i + r = 16 →
    ∃ d', b_X11_first_129 (fuel + r + 1) (sl_i i) d = some ((sl_i 0, 0, 0), sl_up (sl_up d' 11 0 6 (sl_i 0)) 11 0 7 (-(sl_i 1))) ∧ (∀ s, i ≤ s → s < 16 → d'.1 68 0 s = sl_i 0) ∧ y_sm (fun k w p => k = 68 ∧ w = 0 ∧ i ≤ p ∧ p < 16) d d' := by
  intro r
  induction r with
  | zero =>
    intro i fuel d hi
    refine ⟨d, ?_, fun s _ _ => by omega, y_sm_refl _ _⟩
    rw [e_X11_first_129]
    simp (disch := omega) only [i_litN, i_ofNat, i_add, i_mul, i_sub, i_addn, i_subm, y_nsm, i_le, i_lt, i_nat, i_eq, i_div, i_nle, i_nlt, i_len, i_ltn, i_neq, i_eqn, i_and1, i_and63, i_and255, b8_sx, ob_some, if_true, if_false, and_self, true_and, if_pos, if_neg]
  | succ r ih =>
    intro i fuel d hi
    obtain ⟨d', g1, g2, g3⟩ := ih (i + 1) fuel (sl_up d 68 0 i (sl_i 0)) (by omega)
    refine ⟨d', ?_, ?_, ?_⟩
    · rw [show fuel + (r + 1) + 1 = fuel + r + 1 + 1 from rfl, e_X11_first_129]
      simp (disch := omega) only [i_litN, i_ofNat, i_add, i_mul, i_sub, i_addn, i_subm, y_nsm, i_le, i_lt, i_nat, i_eq, i_div, i_nle, i_nlt, i_len, i_ltn, i_neq, i_eqn, i_and1, i_and63, i_and255, b8_sx, ob_some, if_true, if_false, and_self, true_and, if_pos, if_neg]
      exact g1
    · intro s h1 h2
      by_cases hs : s = i
      · subst hs; rw [g3.2 _ _ _ (by omega), up_eq rfl rfl rfl]
      · exact g2 s (by omega) h2
    · exact ⟨g3.1, fun k w p h => by rw [g3.2 k w p (by omega), up_ne (by omega)]⟩
theorem y_first1 (e fuel : Nat) (d : sl_M) (he : e < 2) : ∃ d', b_X11_first_2 (fuel + 64 + 1 + 1) (sl_i e) d = b_X11_first_2 fuel (sl_i (e + 1)) d' ∧
    (∀ k, 51 ≤ k → k ≤ 57 → d'.1 k 0 e = sl_i 0) ∧ d'.1 58 0 (3002 * e) = sl_i 0 ∧ d'.1 61 0 e = sl_i 0 ∧ d'.1 62 0 e = sl_i 0 ∧ d'.1 63 0 e = sl_i 0 ∧ d'.1 72 0 e = sl_i 0 ∧ (∀ s, s < 64 → d'.1 71 0 (64 * e + s) = sl_i 0) ∧
    y_sm (fun k w p => (((51 ≤ k ∧ k ≤ 57) ∨ k = 61 ∨ k = 62 ∨ k = 63 ∨ k = 72) ∧ w = 0 ∧ p = e) ∨ (k = 58 ∧ w = 0 ∧ p = 3002 * e) ∨ (k = 71 ∧ w = 0 ∧ 64 * e ≤ p ∧ p < 64 * e + 64)) d d' := by
  obtain ⟨d1, hd1⟩ : ∃ d1, d1 = sl_up (sl_up (sl_up (sl_up (sl_up (sl_up (sl_up (sl_up (sl_up (sl_up (sl_up (sl_up d 51 0 e (sl_i 0)) 52 0 e (sl_i 0)) 53 0 e (sl_i 0)) 54 0 e (sl_i 0)) 55 0 e (sl_i 0)) 56 0 e (sl_i 0)) 57 0 e (sl_i 0)) 58 0 (3002 * e) (sl_i 0)) 61 0 e (sl_i 0)) 72 0 e (sl_i 0)) 62 0 e (sl_i 0)) 63 0 e (sl_i 0) := ⟨_, rfl⟩
  obtain ⟨d', g1, g2, g3⟩ := y_f97 e he 64 0 fuel d1 (by omega)
  have h1 : ∀ k, 51 ≤ k → k ≤ 57 → d1.1 k 0 e = sl_i 0 := by
    intro k h1 h2
    rw [hd1, up_ne (by omega), up_ne (by omega), up_ne (by omega), up_ne (by omega), up_ne (by omega)]
    rcases (show k = 51 ∨ k = 52 ∨ k = 53 ∨ k = 54 ∨ k = 55 ∨ k = 56 ∨ k = 57 by omega) with h | h | h | h | h | h | h <;> subst h
    · rw [up_ne (by omega), up_ne (by omega), up_ne (by omega), up_ne (by omega), up_ne (by omega), up_ne (by omega), up_eq rfl rfl rfl]
    · rw [up_ne (by omega), up_ne (by omega), up_ne (by omega), up_ne (by omega), up_ne (by omega), up_eq rfl rfl rfl]
    · rw [up_ne (by omega), up_ne (by omega), up_ne (by omega), up_ne (by omega), up_eq rfl rfl rfl]
    · rw [up_ne (by omega), up_ne (by omega), up_ne (by omega), up_eq rfl rfl rfl]
    · rw [up_ne (by omega), up_ne (by omega), up_eq rfl rfl rfl]
    · rw [up_ne (by omega), up_eq rfl rfl rfl]
    · rw [up_eq rfl rfl rfl]
  refine ⟨d', ?_, ?_, ?_, ?_, ?_, ?_, ?_, fun s hs => g2 s (by omega) hs, ?_⟩
  · rw [e_X11_first_2]
    simp (disch := omega) only [i_litN, i_ofNat, i_add, i_mul, i_sub, i_addn, i_subm, y_nsm, i_le, i_lt, i_nat, i_eq, i_div, i_nle, i_nlt, i_len, i_ltn, i_neq, i_eqn, i_and1, i_and63, i_and255, b8_sx, ob_some, if_true, if_false, and_self, true_and, if_pos, if_neg]
    rw [← hd1]; exact g1
  · intro k a b; rw [g3.2 _ _ _ (by omega)]; exact h1 k a b
  · rw [g3.2 _ _ _ (by omega), hd1, up_ne (by omega), up_ne (by omega), up_ne (by omega), up_ne (by omega), up_eq rfl rfl rfl]
  · rw [g3.2 _ _ _ (by omega), hd1, up_ne (by omega), up_ne (by omega), up_ne (by omega), up_eq rfl rfl rfl]
  · rw [g3.2 _ _ _ (by omega), hd1, up_ne (by omega), up_eq rfl rfl rfl]
  · rw [g3.2 _ _ _ (by omega), hd1, up_eq rfl rfl rfl]
  · rw [g3.2 _ _ _ (by omega), hd1, up_ne (by omega), up_ne (by omega), up_eq rfl rfl rfl]
  · refine ⟨by rw [g3.1, hd1]; rfl, fun k w p h => ?_⟩
    rw [g3.2 _ _ _ (by omega), hd1, up_ne (by omega), up_ne (by omega), up_ne (by omega), up_ne (by omega), up_ne (by omega), up_ne (by omega), up_ne (by omega), up_ne (by omega), up_ne (by omega), up_ne (by omega), up_ne (by omega), up_ne (by omega)]
/-- an end as new -/
theorem y_newE (mo sp wi si ti e : Nat) (c d : sl_M) (he : e < 2) (hS : y_gS mo sp wi si ti c d) (hv : y_hv d) (hfr : ∀ j, j < 40 → y_fr (40 * e + j) c d)
    (c43 : c.1 4 e 3 = sl_i 0) (c44 : c.1 4 e 4 = sl_i 0) (c64 : c.1 6 (4 + e) 1 = sl_i 0) (c7 : ∀ p, 4 ≤ p → p ≤ 8 → c.1 7 e p = sl_i 0) (c66 : c.1 6 (6 + e) 1 = sl_i 0) (c5 : c.1 5 e 4 = sl_i 0) (c27 : ∀ s, s < 64 → c.1 27 e s = sl_i 0)
    (c610 : c.1 6 (10 + e) 1 = sl_i 0) (c1 : c.1 1 e 5 = sl_i 0) (c68 : c.1 6 (8 + e) 1 = sl_i 3840)
    (dk : ∀ k, 51 ≤ k → k ≤ 57 → d.1 k 0 e = sl_i 0) (d58 : d.1 58 0 (3002 * e) = sl_i 0) (d61 : d.1 61 0 e = sl_i 0) (d62 : d.1 62 0 e = sl_i 0) (d63 : d.1 63 0 e = sl_i 0) (d72 : d.1 72 0 e = sl_i 0) (d71 : ∀ s, s < 64 → d.1 71 0 (64 * e + s) = sl_i 0) :
    y_E mo sp wi si ti e 0 0 0 c d ∧ y_H e 0 c d := by
  have hS2 := hS
  obtain ⟨_, _, hmo, hsp2, hsp64, hw1, hwA, hwB, hsi1, hsi60, hti1, hti50⟩ := hS2
  refine ⟨⟨hS, ⟨⟨c43, d62, by omega⟩, ⟨c44, d63, by omega⟩, fun j hj => by omega, hfr⟩, hv, ⟨0, 0, 0, 0, 0, 0, ⟨⟨c64, dk 51 (by omega) (by omega), by omega, fun j hj => by omega⟩, ⟨c7 4 (by omega) (by omega), d58, by omega⟩, ⟨c7 5 (by omega) (by omega), dk 53 (by omega) (by omega)⟩,
    ⟨c7 6 (by omega) (by omega), dk 54 (by omega) (by omega), by omega⟩, ⟨c7 7 (by omega) (by omega), dk 55 (by omega) (by omega)⟩, ⟨c7 8 (by omega) (by omega), dk 56 (by omega) (by omega)⟩, by omega, fun p h1 h2 => by omega⟩, by omega⟩,
    ⟨0, 0, ⟨⟨c5, dk 57 (by omega) (by omega), by omega⟩, ⟨c66, dk 52 (by omega) (by omega), by omega, fun j hj => by omega⟩, c68, ?_, fun s hs _ => c27 s hs, fun k hk _ => d71 k hk⟩, ?_, fun _ s hs => c27 s hs⟩⟩, ⟨0, 0, ⟨c610, d61, c1, fun j hj => by omega⟩, by omega, d72, by omega⟩⟩
  · intro i hi
    have hm := Nat.mod_lt (0 + i) (show 0 < sp by omega)
    refine ⟨0, c27 _ (by omega), by omega, ?_, fun h => absurd rfl h⟩
    rw [if_pos rfl]; exact d71 _ (by omega)
  · intro sz h1 h2 h3
    rw [c27 _ (by omega)] at h2
    exact absurd (y_isz h2 (by omega) (by omega)).symm h3
theorem q_open (K : Nat) (a0 a1 a2 a3 a4 : Int32) (c d : sl_M) (h : y_R K c d) : y_Q K c d (f_X10_open a0 a1 a2 a3 a4 c) (f_X11_open a0 a1 a2 a3 a4 d) := by
  by_cases hB : y_B a0 a1 a2 a3 a4
  · refine y_Qr (a := sl_i 0) h ?_ ((y_openM a0 a1 a2 a3 a4 d).1 hB)
    rw [e_X10_open, (y_canBe a0 a1 a2 a3 a4 c).1 hB]
    simp (disch := omega) only [i_litN, i_ofNat, i_add, i_mul, i_sub, i_addn, i_subm, y_nsm, i_le, i_lt, i_nat, i_eq, i_div, i_nle, i_nlt, i_len, i_ltn, i_neq, i_eqn, i_and1, i_and63, i_and255, b8_sx, ob_some, if_true, if_false, and_self, true_and, if_pos, if_neg]
  · have hR := h
    -- the numbers
    have hnb := hB
    unfold y_B at hnb
    obtain ⟨mo, hmo, rfl⟩ := y_nn a0 (fun q => hnb (.inl q))
    have h2 : mo ≤ 2 := by
      by_cases q : mo ≤ 2
      · exact q
      · exact absurd (.inr (.inl (by rw [i_lt (by omega) hmo]; omega))) hnb
    obtain ⟨sp, hsp, rfl⟩ := y_nn a1 (fun q => hnb (.inr (.inr (.inl (Int32.lt_trans q (by decide))))))
    have h3 : 2 ≤ sp := by
      by_cases q : 2 ≤ sp
      · exact q
      · exact absurd (.inr (.inr (.inl (by rw [i_lt hsp (by omega)]; omega)))) hnb
    have h4 : sp ≤ 64 := by
      by_cases q : sp ≤ 64
      · exact q
      · exact absurd (.inr (.inr (.inr (.inl (by rw [i_lt (by omega) hsp]; omega))))) hnb
    obtain ⟨wi, hwi, rfl⟩ := y_nn a2 (fun q => hnb (.inr (.inr (.inr (.inr (.inl (Int32.lt_trans q (by decide))))))))
    have h5 : 1 ≤ wi := by
      by_cases q : 1 ≤ wi
      · exact q
      · exact absurd (.inr (.inr (.inr (.inr (.inl (by rw [i_lt hwi (by omega)]; omega)))))) hnb
    obtain ⟨si, hsi, rfl⟩ := y_nn a3 (fun q => hnb (.inr (.inr (.inr (.inr (.inr (.inr (.inl (Int32.lt_trans q (by decide))))))))))
    have h7 : 1 ≤ si := by
      by_cases q : 1 ≤ si
      · exact q
      · exact absurd (.inr (.inr (.inr (.inr (.inr (.inr (.inl (by rw [i_lt hsi (by omega)]; omega)))))))) hnb
    have h8 : si ≤ 60 := by
      by_cases q : si ≤ 60
      · exact q
      · exact absurd (.inr (.inr (.inr (.inr (.inr (.inr (.inr (.inl (by rw [i_lt (by omega) hsi]; omega))))))))) hnb
    obtain ⟨ti, hti, rfl⟩ := y_nn a4 (fun q => hnb (.inr (.inr (.inr (.inr (.inr (.inr (.inr (.inr (.inl (Int32.lt_trans q (by decide))))))))))))
    have h9 : 1 ≤ ti := by
      by_cases q : 1 ≤ ti
      · exact q
      · exact absurd (.inr (.inr (.inr (.inr (.inr (.inr (.inr (.inr (.inl (by rw [i_lt hti (by omega)]; omega)))))))))) hnb
    have h10 : ti ≤ 50 := by
      by_cases q : ti ≤ 50
      · exact q
      · exact absurd (.inr (.inr (.inr (.inr (.inr (.inr (.inr (.inr (.inr (by rw [i_lt (by omega) hti]; omega)))))))))) hnb
    have h6 : (mo ≤ 1 → wi + 1 ≤ sp) ∧ (mo = 2 → 2 * wi ≤ sp) := by
      have hw : ¬ (y_Wd (sl_i mo) (sl_i sp) < sl_i wi) := fun q => hnb (.inr (.inr (.inr (.inr (.inr (.inl q))))))
      unfold y_Wd at hw
      simp (disch := omega) only [i_eq, i_sub, i_div] at hw
      refine ⟨fun q => ?_, fun q => ?_⟩
      · rcases (show mo = 0 ∨ mo = 1 by omega) with m | m
        · rw [if_pos m, i_lt (by omega) (by omega)] at hw; omega
        · rw [if_neg (by omega), if_pos m, i_lt (by omega) (by omega)] at hw; omega
      · rw [if_neg (by omega), if_neg (by omega), i_lt (by omega) (by omega)] at hw; omega
    obtain ⟨_, _, _, _, _, hCo, ⟨n, m, t1, t2, t3⟩, hE⟩ := h
    obtain ⟨⟨fi0, nl0, hE0⟩, _⟩ := hE 0 (by omega)
    obtain ⟨⟨fi1, nl1, hE1⟩, _⟩ := hE 1 (by omega)
    have hv := hE0.2.2.1
    have hc68 : ∀ e, e < 2 → c.1 6 (8 + e) 1 = sl_i 3840 := by
      intro e he
      obtain ⟨⟨_, _, q⟩, _⟩ := hE e he
      obtain ⟨_, _, q2, _⟩ := q.2.2.2.2
      exact q2.2.2.1
    have hfr : ∀ e, e < 2 → ∀ j, j < 40 → y_fr (40 * e + j) c d := by
      intro e he j hj
      obtain ⟨⟨_, _, q⟩, _⟩ := hE e he
      exact q.2.1.2.2.2 j hj
    -- the class
    obtain ⟨cA, hcA⟩ : ∃ cA, cA = sl_up (sl_up (sl_up (sl_up (sl_up c 8 0 0 (sl_i mo)) 8 0 1 (sl_i sp)) 8 0 2 (sl_i wi)) 8 0 3 (sl_i si)) 8 0 4 (sl_i ti) := ⟨_, rfl⟩
    have hcAs : y_sm (fun k w p => k = 8) c cA := by rw [hcA]; exact ⟨rfl, fun k w p h => by rw [up_ne (by omega), up_ne (by omega), up_ne (by omega), up_ne (by omega), up_ne (by omega)]⟩
    obtain ⟨cB, b1, b2, b3⟩ := y_fill 2 16 cA rfl (by omega)
    obtain ⟨cC, hcC⟩ : ∃ cC, cC = sl_up (sl_up (sl_up (sl_up cB 4 0 3 (sl_i 0)) 4 0 4 (sl_i 0)) 4 1 3 (sl_i 0)) 4 1 4 (sl_i 0) := ⟨_, rfl⟩
    have hcCs : y_sm (fun k w p => k = 4) cB cC := by rw [hcC]; exact ⟨rfl, fun k w p h => by rw [up_ne (by omega), up_ne (by omega), up_ne (by omega), up_ne (by omega)]⟩
    have hcC4 : ∀ e, e < 2 → cC.1 4 e 3 = sl_i 0 ∧ cC.1 4 e 4 = sl_i 0 := by
      intro e he
      rw [hcC]
      rcases y_e01 he with q | q <;> subst q
      · exact ⟨by rw [up_ne (by omega), up_ne (by omega), up_ne (by omega), up_eq rfl rfl rfl], by rw [up_ne (by omega), up_ne (by omega), up_eq rfl rfl rfl]⟩
      · exact ⟨by rw [up_ne (by omega), up_eq rfl rfl rfl], by rw [up_eq rfl rfl rfl]⟩
    obtain ⟨cD, u1, u2, u3, u4, u5, u6, u7, u8, u9⟩ := y_clearE 0 cC (by omega)
    obtain ⟨cE, w1, w2, w3, w4, w5, w6, w7, w8, w9⟩ := y_clearE 1 cD (by omega)
    obtain ⟨cF, hcF⟩ : ∃ cF, cF = sl_up (sl_up cE 3 0 0 (sl_i 0)) 3 0 1 (-(sl_i 1)) := ⟨_, rfl⟩
    have hcFs : y_sm (fun k w p => k = 3 ∧ w = 0) cE cF := by rw [hcF]; exact ⟨rfl, fun k w p h => by rw [up_ne (by omega), up_ne (by omega)]⟩
    -- the model
    obtain ⟨dA, hdA⟩ : ∃ dA, dA = sl_up (sl_up (sl_up (sl_up (sl_up (sl_up d 11 0 0 (sl_i 0)) 11 0 9 (sl_i mo)) 11 0 10 (sl_i sp)) 11 0 11 (sl_i wi)) 11 0 12 (sl_i si)) 11 0 13 (sl_i ti) := ⟨_, rfl⟩
    have hdAs : y_sm (fun k w p => k = 11 ∧ w = 0 ∧ (p = 0 ∨ 9 ≤ p)) d dA := by rw [hdA]; exact ⟨rfl, fun k w p h => by rw [up_ne (by omega), up_ne (by omega), up_ne (by omega), up_ne (by omega), up_ne (by omega), up_ne (by omega)]⟩
    obtain ⟨dB, v1, v2, v3, v4, v5, v6, v7, v8, v9⟩ := y_first1 0 99933 dA (by omega)
    obtain ⟨dC, x1, x2, x3, x4, x5, x6, x7, x8, x9⟩ := y_first1 1 99867 dB (by omega)
    obtain ⟨dD, z1, z2, z3⟩ := y_f129 16 0 99849 dC (by omega)
    obtain ⟨dE, hdE⟩ : ∃ dE, dE = sl_up (sl_up dD 11 0 6 (sl_i 0)) 11 0 7 (-(sl_i 1)) := ⟨_, rfl⟩
    have hdEs : y_sm (fun k w p => k = 11 ∧ w = 0 ∧ (p = 6 ∨ p = 7)) dD dE := by rw [hdE]; exact ⟨rfl, fun k w p h => by rw [up_ne (by omega), up_ne (by omega)]⟩
    have hcs : y_sm (fun k w p => k = 8 ∨ k = 4 ∨ k = 27 ∨ k = 7 ∨ k = 5 ∨ k = 1 ∨ (k = 3 ∧ w = 0) ∨ (k = 6 ∧ 4 ≤ w ∧ w ≤ 11 ∧ w ≠ 8 ∧ w ≠ 9 ∧ p = 1)) c cF :=
      ⟨by rw [hcFs.1, w9.1, u9.1, hcCs.1, b3.1, hcAs.1], fun k w p h => by rw [hcFs.2 _ _ _ (by omega), w9.2 _ _ _ (by omega), u9.2 _ _ _ (by omega), hcCs.2 _ _ _ (by omega), b3.2 _ _ _ (by omega), hcAs.2 _ _ _ (by omega)]⟩
    have hds : y_sm (fun k w p => (k = 11 ∧ p ≠ 2 ∧ p ≠ 4) ∨ (51 ≤ k ∧ k ≤ 58) ∨ (61 ≤ k ∧ k ≤ 63) ∨ k = 71 ∨ k = 72 ∨ k = 68) d dE :=
      ⟨by rw [hdEs.1, z3.1, x9.1, v9.1, hdAs.1], fun k w p h => by rw [hdEs.2 _ _ _ (by omega), z3.2 _ _ _ (by omega), x9.2 _ _ _ (by omega), v9.2 _ _ _ (by omega), hdAs.2 _ _ _ (by omega)]⟩
    have hfirst : f_X11_first dA = some ((sl_i 0, 0, 0), dE) := by
      rw [e_X11_first]
      rw [show (99999 : Nat) = 99933 + 64 + 1 + 1 from rfl, i_lit0, v1, show (99933 : Nat) = 99867 + 64 + 1 + 1 from rfl, show 0 + 1 = 1 from rfl, x1, show (99867 : Nat) = 99866 + 1 from rfl, e_X11_first_2]
      simp (disch := omega) only [i_litN, i_ofNat, i_add, i_mul, i_sub, i_addn, i_subm, y_nsm, i_le, i_lt, i_nat, i_eq, i_div, i_nle, i_nlt, i_len, i_ltn, i_neq, i_eqn, i_and1, i_and63, i_and255, b8_sx, ob_some, if_true, if_false, and_self, true_and, if_pos, if_neg]
      rw [show (99866 : Nat) = 99849 + 16 + 1 from rfl, z1, ← hdE]
    have hS : y_gS mo sp wi si ti cF dE := by
      have q8 : ∀ p, cF.1 8 0 p = cA.1 8 0 p := fun p => by rw [hcFs.2 _ _ _ (by omega), w9.2 _ _ _ (by omega), u9.2 _ _ _ (by omega), hcCs.2 _ _ _ (by omega), b3.2 _ _ _ (by omega)]
      have q11 : ∀ p, 9 ≤ p → dE.1 11 0 p = dA.1 11 0 p := fun p hp => by rw [hdEs.2 _ _ _ (by omega), z3.2 _ _ _ (by omega), x9.2 _ _ _ (by omega), v9.2 _ _ _ (by omega)]
      refine ⟨⟨?_, ?_, ?_, ?_, ?_⟩, ⟨?_, ?_, ?_, ?_, ?_⟩, h2, h3, h4, h5, h6.1, h6.2, h7, h8, h9, h10⟩
      · rw [q8, hcA, up_ne (by omega), up_ne (by omega), up_ne (by omega), up_ne (by omega), up_eq rfl rfl rfl]
      · rw [q8, hcA, up_ne (by omega), up_ne (by omega), up_ne (by omega), up_eq rfl rfl rfl]
      · rw [q8, hcA, up_ne (by omega), up_ne (by omega), up_eq rfl rfl rfl]
      · rw [q8, hcA, up_ne (by omega), up_eq rfl rfl rfl]
      · rw [q8, hcA, up_eq rfl rfl rfl]
      · rw [q11 _ (by omega), hdA, up_ne (by omega), up_ne (by omega), up_ne (by omega), up_ne (by omega), up_eq rfl rfl rfl]
      · rw [q11 _ (by omega), hdA, up_ne (by omega), up_ne (by omega), up_ne (by omega), up_eq rfl rfl rfl]
      · rw [q11 _ (by omega), hdA, up_ne (by omega), up_ne (by omega), up_eq rfl rfl rfl]
      · rw [q11 _ (by omega), hdA, up_ne (by omega), up_eq rfl rfl rfl]
      · rw [q11 _ (by omega), hdA, up_eq rfl rfl rfl]
    have hvE : y_hv dE := fun k hk => by rw [hds.2 _ _ _ (by omega)]; exact hv k hk
    have hfrE : ∀ e, e < 2 → ∀ j, j < 40 → y_fr (40 * e + j) cF dE := fun e he j hj =>
      y_fr_cong (hfr e he j hj) (hcs.2 _ _ _ (by omega)) (fun p => hcs.2 _ _ _ (by omega)) (fun p => hcs.2 _ _ _ (by omega)) (fun k hk => hds.2 _ _ _ (by omega)) (fun p hp => hds.2 _ _ _ (by omega))
    have hc4 : ∀ e, e < 2 → ∀ p, cF.1 4 e p = cC.1 4 e p := fun e he p => by rw [hcFs.2 _ _ _ (by omega), w9.2 _ _ _ (by omega), u9.2 _ _ _ (by omega)]
    have hN0 := y_newE mo sp wi si ti 0 cF dE (by omega) hS hvE (hfrE 0 (by omega)) (by rw [hc4 0 (by omega)]; exact (hcC4 0 (by omega)).1) (by rw [hc4 0 (by omega)]; exact (hcC4 0 (by omega)).2)
      (by rw [hcFs.2 _ _ _ (by omega), w9.2 _ _ _ (by omega)]; exact u2) (fun p a b => by rw [hcFs.2 _ _ _ (by omega), w9.2 _ _ _ (by omega)]; exact u3 p a b) (by rw [hcFs.2 _ _ _ (by omega), w9.2 _ _ _ (by omega)]; exact u4)
      (by rw [hcFs.2 _ _ _ (by omega), w9.2 _ _ _ (by omega)]; exact u5) (fun s hs => by rw [hcFs.2 _ _ _ (by omega), w9.2 _ _ _ (by omega)]; exact u6 s hs) (by rw [hcFs.2 _ _ _ (by omega), w9.2 _ _ _ (by omega)]; exact u7)
      (by rw [hcFs.2 _ _ _ (by omega), w9.2 _ _ _ (by omega)]; exact u8) (by rw [hcs.2 _ _ _ (by omega)]; exact hc68 0 (by omega))
      (fun k a b => by rw [hdEs.2 _ _ _ (by omega), z3.2 _ _ _ (by omega), x9.2 _ _ _ (by omega)]; exact v2 k a b) (by rw [hdEs.2 _ _ _ (by omega), z3.2 _ _ _ (by omega), x9.2 _ _ _ (by omega)]; exact v3) (by rw [hdEs.2 _ _ _ (by omega), z3.2 _ _ _ (by omega), x9.2 _ _ _ (by omega)]; exact v4)
      (by rw [hdEs.2 _ _ _ (by omega), z3.2 _ _ _ (by omega), x9.2 _ _ _ (by omega)]; exact v5) (by rw [hdEs.2 _ _ _ (by omega), z3.2 _ _ _ (by omega), x9.2 _ _ _ (by omega)]; exact v6) (by rw [hdEs.2 _ _ _ (by omega), z3.2 _ _ _ (by omega), x9.2 _ _ _ (by omega)]; exact v7)
      (fun s hs => by rw [hdEs.2 _ _ _ (by omega), z3.2 _ _ _ (by omega), x9.2 _ _ _ (by omega)]; exact v8 s hs)
    have hN1 := y_newE mo sp wi si ti 1 cF dE (by omega) hS hvE (hfrE 1 (by omega)) (by rw [hc4 1 (by omega)]; exact (hcC4 1 (by omega)).1) (by rw [hc4 1 (by omega)]; exact (hcC4 1 (by omega)).2)
      (by rw [hcFs.2 _ _ _ (by omega)]; exact w2) (fun p a b => by rw [hcFs.2 _ _ _ (by omega)]; exact w3 p a b) (by rw [hcFs.2 _ _ _ (by omega)]; exact w4)
      (by rw [hcFs.2 _ _ _ (by omega)]; exact w5) (fun s hs => by rw [hcFs.2 _ _ _ (by omega)]; exact w6 s hs) (by rw [hcFs.2 _ _ _ (by omega)]; exact w7)
      (by rw [hcFs.2 _ _ _ (by omega)]; exact w8) (by rw [hcs.2 _ _ _ (by omega)]; exact hc68 1 (by omega))
      (fun k a b => by rw [hdEs.2 _ _ _ (by omega), z3.2 _ _ _ (by omega)]; exact x2 k a b) (by rw [hdEs.2 _ _ _ (by omega), z3.2 _ _ _ (by omega)]; exact x3) (by rw [hdEs.2 _ _ _ (by omega), z3.2 _ _ _ (by omega)]; exact x4)
      (by rw [hdEs.2 _ _ _ (by omega), z3.2 _ _ _ (by omega)]; exact x5) (by rw [hdEs.2 _ _ _ (by omega), z3.2 _ _ _ (by omega)]; exact x6) (by rw [hdEs.2 _ _ _ (by omega), z3.2 _ _ _ (by omega)]; exact x7)
      (fun s hs => by rw [hdEs.2 _ _ _ (by omega), z3.2 _ _ _ (by omega)]; exact x8 s hs)
    refine y_Qok (a := sl_i 1) (c' := cF) (d' := dE) ⟨mo, sp, wi, si, ti, ?_, ?_, fun e he => ?_⟩ (y_sm_mono hcs (fun k w p q => by unfold y_zc; omega)) (y_sm_mono hds (fun k w p q => by unfold y_zm; omega)) ?_ ?_ ?_
    · intro k hk
      rw [hcFs.2 _ _ _ (by omega), w9.2 _ _ _ (by omega), u9.2 _ _ _ (by omega), hcCs.2 _ _ _ (by omega), b2 k hk, hdEs.2 _ _ _ (by omega), z2 k (by omega) hk]
    · refine ⟨n, m, ⟨?_, ?_, t1.2.2.1, ?_⟩, ⟨?_, ?_, t2.2.2.1, ?_⟩, ?_, ?_⟩
      · rw [hcs.2 _ _ _ (by omega)]; exact t1.1
      · rw [hds.2 _ _ _ (by omega)]; exact t1.2.1
      · intro j hj; rw [y_sm_rb hcs (by omega), y_sm_mb hds (by omega)]; exact t1.2.2.2 j hj
      · rw [hcs.2 _ _ _ (by omega)]; exact t2.1
      · rw [hds.2 _ _ _ (by omega)]; exact t2.2.1
      · intro j hj; rw [y_sm_rb hcs (by omega), y_sm_mb hds (by omega)]; exact t2.2.2.2 j hj
      · rw [hcF, hdE, up_ne (by omega), up_eq rfl rfl rfl, up_ne (by omega), up_eq rfl rfl rfl]
      · rw [hcF, hdE, up_eq rfl rfl rfl, up_eq rfl rfl rfl]
    · rcases y_e01 he with q | q
      · subst q; exact ⟨⟨_, _, y_E_K hN0.1 (by omega)⟩, by obtain ⟨nh, x, r1, r2, r3⟩ := hN0.2; exact ⟨nh, x, r1, by omega, r3⟩⟩
      · subst q; exact ⟨⟨_, _, y_E_K hN1.1 (by omega)⟩, by obtain ⟨nh, x, r1, r2, r3⟩ := hN1.2; exact ⟨nh, x, r1, by omega, r3⟩⟩
    · rw [e_X10_open, (y_canBe _ _ _ _ _ c).2 hB, ob_some]
      dsimp only
      rw [if_neg (show ¬ (sl_i 1 = (0 : Int32)) by decide), e_X8_choose, ob_some]
      dsimp only
      rw [← hcA, e_X9_clear, i_lit0, b1, ob_some, ob_some, e_X4_clear, ob_some, e_X4_clear, ob_some]
      dsimp only
      rw [i_lit0, ← hcC, u1, ob_some, w1, ob_some, e_X3_clear, ob_some]
      show some ((sl_i 1, 0, 0), sl_up (sl_up cE 3 0 0 (sl_i 0)) 3 0 1 (-(sl_i 1))) = _
      rw [← hcF]
    · rw [(y_openM _ _ _ _ _ d).2 hB, ← hdA, hfirst, ob_some]
    · rw [hdEs.2 _ _ _ (by omega), z3.2 _ _ _ (by omega), x9.2 _ _ _ (by omega), v9.2 _ _ _ (by omega), hdA, up_ne (by omega), up_ne (by omega), up_ne (by omega), up_ne (by omega), up_ne (by omega), up_eq rfl rfl rfl]
