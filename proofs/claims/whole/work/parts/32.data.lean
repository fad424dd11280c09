/-! DATA is taken -/
def y_hdA (e sp wi si W : Nat) (c d : sl_M) : Prop := (∀ i, i < wi → y_hd e sp si W i c d) ∧
  (∀ s, s < 64 → (∀ i, i < wi → s ≠ (W + i) % 64) → c.1 27 e s = sl_i 0) ∧ (∀ k, k < 64 → (∀ i, i < wi → k ≠ (W + i) % sp) → d.1 71 0 (64 * e + k) = sl_i 0)
theorem y_isz {a b : Nat} (h : sl_i a = sl_i b) (ha : a < 2147483648) (hb : b < 2147483648) : a = b := by rwa [i_eq ha hb] at h
theorem y_roomY (m : sl_M) {r L n : Nat} (hl : m.1 6 r 1 = sl_i L) (h : L + n ≤ sl_lr r) : f_X6_hasRoom r (sl_i n) m = some ((sl_i 1, 0, 0), m) := by
  have := y_lr_lt r
  rw [y_hasRoom m hl (by omega) (by omega), if_pos h]
theorem y_roomN (m : sl_M) {r L n : Nat} (hl : m.1 6 r 1 = sl_i L) (hL : L ≤ sl_lr r) (hn : n < 2147483648) (h : sl_lr r < L + n) : f_X6_hasRoom r (sl_i n) m = some ((sl_i 0, 0, 0), m) := by
  have := y_lr_lt r
  rw [y_hasRoom m hl hL hn, if_neg (by omega)]
theorem y_hdShift {e sp wi si W : Nat} {c d : sl_M} (h : y_hdA e sp wi si W c d) (hw1 : 1 ≤ wi) (hw : wi ≤ 63) (hws : wi < sp) (hsp : sp ≤ 64) (hsi : si ≤ 60) (h0 : c.1 27 e (W % 64) = sl_i 0) : y_hdA e sp wi si (W + 1) c d := by
  obtain ⟨a4, a5, a6⟩ := h
  refine ⟨?_, ?_, ?_⟩
  · intro i hi
    by_cases h1 : i + 1 < wi
    · have := a4 (i + 1) h1
      unfold y_hd at this ⊢
      rw [show W + 1 + i = W + (i + 1) by omega]; exact this
    · have hm : (W + wi) % sp < sp := Nat.mod_lt _ (by omega)
      refine ⟨0, ?_, by omega, ?_, fun h => absurd rfl h⟩
      · rw [show W + 1 + i = W + wi by omega]
        exact a5 _ (by omega) (fun j hj => by omega)
      · rw [show W + 1 + i = W + wi by omega, if_pos rfl]
        exact a6 _ (by omega) (fun j hj hc => by have := y_modinj W hws (by omega) hc; omega)
  · intro s hs hne
    by_cases h1 : s = W % 64
    · rw [h1]; exact h0
    · refine a5 s hs (fun i hi => ?_)
      by_cases h2 : i = 0
      · rw [h2]; exact h1
      · have := hne (i - 1) (by omega)
        rw [show W + 1 + (i - 1) = W + i by omega] at this; exact this
  · intro k hk hne
    by_cases h1 : k = W % sp
    · obtain ⟨sz, b1, b2, b3, b4⟩ := a4 0 (by omega)
      rw [Nat.add_zero, h0] at b1
      have hsz : sz = 0 := (y_isz b1 (by omega) (by omega)).symm
      rw [hsz, if_pos rfl, Nat.add_zero] at b3
      rw [h1]; exact b3
    · refine a6 k hk (fun i hi => ?_)
      by_cases h2 : i = 0
      · rw [h2]; exact h1
      · have := hne (i - 1) (by omega)
        rw [show W + 1 + (i - 1) = W + i by omega] at this; exact this
theorem y_hold44 (e slot load M : Nat) (he : e < 2) (hs : slot < 64) (hl60 : load ≤ 60) (hM : 1 + load ≤ M) (hM2 : M ≤ 120) : ∀ k i fuel (c : sl_M), i + k = load → c.1 6 (12 + e) 1 = sl_i M →
    ∃ c1, b_X5_hold_44 (fuel + k + 1) e (12 + e) (sl_i load) (sl_i slot) (sl_i i) c = some ((sl_i 0, 0, 0), sl_up c1 27 e slot (sl_i load)) ∧
      (∀ j, i ≤ j → j < load → y_rb c1 (8 + e) (60 * slot + j) = y_rb c (12 + e) (1 + j)) ∧ y_sm (fun k w p => k = 20 ∧ w = 8 + e ∧ 60 * slot + i ≤ p ∧ p < 60 * slot + load) c c1 := by
  have hlr := y_lr12 he
  have hlr8 := y_lr8 he
  have hl7 : sl_l7 e = 64 := by unfold sl_l7; rw [show (e == 2) = false by simp; omega]; rfl
  intro k
  induction k with
  | zero =>
    intro i fuel c hi hl
    have : i = load := by omega
    subst this
    refine ⟨c, ?_, fun j _ _ => by omega, y_sm_refl _ _⟩
    rw [e_X5_hold_44, hl7]
    simp (disch := omega) only [i_lit, i_ofNat, i_add, i_mul, i_sub, i_addn, i_subm, y_nsm, i_le, i_lt, i_nat, i_eq, i_div, i_nle, i_nlt, i_len, i_ltn, i_neq, i_eqn, i_and1, i_and63, i_and255, b8_sx, ob_some, if_true, if_false, and_self, true_and, if_pos, if_neg]
  | succ k ih =>
    intro i fuel c hi hl
    have hb := y_rb_lt c (12 + e) (1 + i)
    obtain ⟨c1, g1, g2, g3⟩ := ih (i + 1) fuel (sl_up c 20 (8 + e) (slot * 60 + i) (sl_sx (sl_i (y_rb c (12 + e) (1 + i))))) (by omega) (by rw [up_ne (by omega)]; exact hl)
    refine ⟨c1, ?_, ?_, ?_⟩
    · rw [show fuel + (k + 1) + 1 = fuel + k + 1 + 1 from rfl, e_X5_hold_44]
      simp (disch := omega) only [i_lit, i_ofNat, i_add, i_mul, i_sub, i_addn, i_subm, y_nsm, i_le, i_lt, i_nat, i_eq, i_div, i_nle, i_nlt, i_len, i_ltn, i_neq, i_eqn, i_and1, i_and63, i_and255, b8_sx, ob_some, if_true, if_false, and_self, true_and, if_pos, if_neg]
      rw [y_at c hl (by omega) (by omega), ob_some, y_put _ _ (by omega), ob_some]
      exact g1
    · intro j hj hj2
      by_cases h : j = i
      · subst h
        rw [y_sm_rb g3 (by omega), y_rb_up rfl (by omega), b8_i]; omega
      · rw [g2 j (by omega) hj2, y_rb_ne (by omega)]
    · exact ⟨g3.1, fun k w p h => by rw [g3.2 k w p (by omega), up_ne (by omega)]⟩
theorem y_by84 (e load h : Nat) (he : e < 2) (hl60 : load ≤ 60) (hh : h < 128) : ∀ k i fuel (d : sl_M), i + k = load →
    ∃ d1, b_X11_byItself_84 (fuel + k + 1) (sl_i e) (sl_i load) (sl_i h) (sl_i i) d = b_X11_byItself_121 fuel (sl_i e) (sl_i 1) d1 ∧
      (∀ j, i ≤ j → j < load → y_mb d1 5 (60 * h + j) = y_mb d 9 (1 + j)) ∧ y_sm (fun k w p => k = 30 ∧ w = 5 ∧ 60 * h + i ≤ p ∧ p < 60 * h + load) d d1 := by
  intro k
  induction k with
  | zero =>
    intro i fuel d hi
    have : i = load := by omega
    subst this
    refine ⟨d, ?_, fun j _ _ => by omega, y_sm_refl _ _⟩
    rw [e_X11_byItself_84]
    simp (disch := omega) only [i_lit, i_ofNat, i_add, i_mul, i_sub, i_addn, i_subm, y_nsm, i_le, i_lt, i_nat, i_eq, i_div, i_nle, i_nlt, i_len, i_ltn, i_neq, i_eqn, i_and1, i_and63, i_and255, b8_sx, ob_some, if_true, if_false, and_self, true_and, if_pos, if_neg, Nat.add_zero]
  | succ k ih =>
    intro i fuel d hi
    obtain ⟨d1, g1, g2, g3⟩ := ih (i + 1) fuel (sl_up d 30 5 (60 * h + i) (sl_sx (d.1 30 9 (1 + i)))) (by omega)
    refine ⟨d1, ?_, ?_, ?_⟩
    · rw [show fuel + (k + 1) + 1 = fuel + k + 1 + 1 from rfl, e_X11_byItself_84]
      simp (disch := omega) only [i_lit, i_ofNat, i_add, i_mul, i_sub, i_addn, i_subm, y_nsm, i_le, i_lt, i_nat, i_eq, i_div, i_nle, i_nlt, i_len, i_ltn, i_neq, i_eqn, i_and1, i_and63, i_and255, b8_sx, ob_some, if_true, if_false, and_self, true_and, if_pos, if_neg]
      exact g1
    · intro j hj hj2
      by_cases hji : j = i
      · subst hji
        rw [y_sm_mb g3 (by omega), y_mb_up rfl rfl]; rfl
      · rw [g2 j (by omega) hj2, y_mb_ne (by omega)]
    · exact ⟨g3.1, fun k w p h => by rw [g3.2 k w p (by omega), up_ne (by omega)]⟩
/-- those in order are taken, one by one -/
theorem y_takeHeld (mo sp wi si ti e : Nat) (he : e < 2) : ∀ r v W T fuel fuel' (c d : sl_M), r ≤ wi → v + r ≤ 63 → r < fuel → r < fuel' → y_gS mo sp wi si ti c d → y_gRx e sp wi si W T c d →
    (∀ i, r ≤ i → i < wi → c.1 27 e ((W + i) % 64) = sl_i 0) → (r = 0 → 1 ≤ wi) →
    ∃ W' T' c' d', b_X5_takeHeld_2 fuel e (sl_i v) c = some ((sl_i 0, 0, 0), c') ∧ b_X11_byItself_121 (fuel' + 1) (sl_i e) (sl_i 1) d = (f_X11_layKnown (sl_i e) d').bind (fun q1 => some ((sl_i 0, 0, 0), q1.2)) ∧
      y_gRx e sp wi si W' T' c' d' ∧ y_rest e T' W' c' ∧ y_sm (y_zR e) c c' ∧ y_sm (y_zRd e) d d' := by
  have hl7 : sl_l7 e = 64 := by unfold sl_l7; rw [show (e == 2) = false by simp; omega]; rfl
  have hlr6 := y_lr6 he
  have hlr8 := y_lr8 he
  intro r
  induction r with
  | zero =>
    intro v W T fuel fuel' c d hr hv hf hf' hS hR hz h1w
    obtain ⟨f2, rfl⟩ : ∃ f2, fuel = f2 + 1 := ⟨fuel - 1, by omega⟩
    obtain ⟨f3, rfl⟩ : ∃ f3, fuel' = f3 + 1 := ⟨fuel' - 1, by omega⟩
    obtain ⟨⟨c0, c1, c2, c3, c4⟩, ⟨d0, d1, d2, d3, d4⟩, hmo, hsp2, hsp64, hw1, hwA, hwB, hsi1, hsi60, hti1, hti50⟩ := hS
    have hm : W % sp < sp := Nat.mod_lt _ (by omega)
    have h0 := hz 0 (by omega) (by omega)
    rw [Nat.add_zero] at h0
    have hR2 := hR
    obtain ⟨a1, a2, a3, a4, a5, a6⟩ := hR
    obtain ⟨sz, b1, b2, b3, b4⟩ := a4 0 (by omega)
    rw [Nat.add_zero] at b1 b3
    rw [h0] at b1
    have hsz := (y_isz b1 (by omega) (by omega)).symm
    subst hsz
    rw [if_pos rfl] at b3
    refine ⟨W, T, c, d, ?_, ?_, hR2, ?_, y_sm_refl _ _, y_sm_refl _ _⟩
    · rw [e_X5_takeHeld_2, hl7, a1.1]
      simp (disch := omega) only [i_lit, i_ofNat, i_add, i_mul, i_sub, i_addn, i_subm, y_nsm, i_le, i_lt, i_nat, i_eq, i_div, i_nle, i_nlt, i_len, i_ltn, i_neq, i_eqn, i_and1, i_and63, i_and255, b8_sx, ob_some, if_true, if_false, and_self, true_and, if_pos, if_neg, h0]
    · rw [e_X11_byItself_121]
      simp (disch := omega) only [i_lit, i_ofNat, i_add, i_mul, i_sub, i_addn, i_subm, y_nsm, i_le, i_lt, i_nat, i_eq, i_div, i_nle, i_nlt, i_len, i_ltn, i_neq, i_eqn, i_and1, i_and63, i_and255, b8_sx, ob_some, if_true, if_false, and_self, true_and, if_pos, if_neg, a1.2.1, d1, b3]
      rw [e_X11_byItself_121]
      simp (disch := omega) only [i_lit, i_ofNat, i_add, i_mul, i_sub, i_addn, i_subm, y_nsm, i_le, i_lt, i_nat, i_eq, i_div, i_nle, i_nlt, i_len, i_ltn, i_neq, i_eqn, i_and1, i_and63, i_and255, b8_sx, ob_some, if_true, if_false, and_self, true_and, if_pos, if_neg]
    · intro sz hs60 h1 h2
      rw [h0] at h1
      exact absurd (y_isz h1 (by omega) (by omega)).symm h2
  | succ r ih =>
    intro v W T fuel fuel' c d hr hv hf hf' hS hR hz h1w
    obtain ⟨f2, rfl⟩ : ∃ f2, fuel = f2 + 1 := ⟨fuel - 1, by omega⟩
    obtain ⟨f3, rfl⟩ : ∃ f3, fuel' = f3 + 1 := ⟨fuel' - 1, by omega⟩
    have hS2 := hS
    obtain ⟨⟨c0, c1, c2, c3, c4⟩, ⟨d0, d1, d2, d3, d4⟩, hmo, hsp2, hsp64, hw1, hwA, hwB, hsi1, hsi60, hti1, hti50⟩ := hS
    have hm : W % sp < sp := Nat.mod_lt _ (by omega)
    have hR2 := hR
    obtain ⟨a1, a2, a3, a4, a5, a6⟩ := hR
    obtain ⟨sz, b1, b2, b3, b4⟩ := a4 0 (by omega)
    rw [Nat.add_zero] at b1 b3 b4
    by_cases hsz : sz = 0
    · subst hsz
      rw [if_pos rfl] at b3
      refine ⟨W, T, c, d, ?_, ?_, hR2, ?_, y_sm_refl _ _, y_sm_refl _ _⟩
      · rw [e_X5_takeHeld_2, hl7, a1.1]
        simp (disch := omega) only [i_lit, i_ofNat, i_add, i_mul, i_sub, i_addn, i_subm, y_nsm, i_le, i_lt, i_nat, i_eq, i_div, i_nle, i_nlt, i_len, i_ltn, i_neq, i_eqn, i_and1, i_and63, i_and255, b8_sx, ob_some, if_true, if_false, and_self, true_and, if_pos, if_neg, b1]
      · rw [e_X11_byItself_121]
        simp (disch := omega) only [i_lit, i_ofNat, i_add, i_mul, i_sub, i_addn, i_subm, y_nsm, i_le, i_lt, i_nat, i_eq, i_div, i_nle, i_nlt, i_len, i_ltn, i_neq, i_eqn, i_and1, i_and63, i_and255, b8_sx, ob_some, if_true, if_false, and_self, true_and, if_pos, if_neg, a1.2.1, d1, b3]
        rw [e_X11_byItself_121]
        simp (disch := omega) only [i_lit, i_ofNat, i_add, i_mul, i_sub, i_addn, i_subm, y_nsm, i_le, i_lt, i_nat, i_eq, i_div, i_nle, i_nlt, i_len, i_ltn, i_neq, i_eqn, i_and1, i_and63, i_and255, b8_sx, ob_some, if_true, if_false, and_self, true_and, if_pos, if_neg]
      · intro sz hs60 h1 h2
        rw [b1] at h1
        exact absurd (y_isz h1 (by omega) (by omega)).symm h2
    · rw [if_neg hsz] at b3
      obtain ⟨b5, b6⟩ := b4 hsz
      by_cases hfit : T + sz ≤ 3000
      · obtain ⟨m1, g1, g2, g3, g4⟩ := y_addPart c (r := 6 + e) (f := 8 + e) (s := W % 64 * 60) (n := sz) (L := T) (LF := 3840) a2.1 a3 (by omega) (by omega) (by omega) (by omega) (by omega)
        obtain ⟨n1, k1, k2, k3, k4, k5⟩ := y_gets e 5 (60 * (64 * e + W % sp)) sz W T d he (by omega) (by show _ ≤ 7680; omega) hfit a2.2.1 a1.2.1
        obtain ⟨m2, hm2⟩ : ∃ m2, m2 = sl_up (sl_up m1 27 e (W % 64) (sl_i 0)) 5 e 4 (sl_i (W + 1)) := ⟨_, rfl⟩
        obtain ⟨n2, hn2⟩ : ∃ n2, n2 = sl_up n1 71 0 (64 * e + W % sp) (sl_i 0) := ⟨_, rfl⟩
        have hm2s : y_sm (fun k w p => (k = 6 ∧ w = 6 + e ∧ p = 1) ∨ (k = 20 ∧ w = 6 + e ∧ T ≤ p) ∨ (k = 27 ∧ w = e ∧ p = W % 64) ∨ (k = 5 ∧ w = e ∧ p = 4)) c m2 := by
          rw [hm2]; exact ⟨by rw [up_2, up_2, g4.1], fun k w p h => by rw [up_ne (by omega), up_ne (by omega), g4.2 _ _ _ (by omega)]⟩
        have hn2s : y_sm (fun k w p => ((k = 52 ∨ k = 57) ∧ w = 0 ∧ p = e) ∨ (k = 30 ∧ w = 4 ∧ 3000 * e + T ≤ p ∧ p < 3000 * e + T + sz) ∨ (k = 71 ∧ w = 0 ∧ p = 64 * e + W % sp)) d n2 := by
          rw [hn2]; exact ⟨by rw [up_2, k5.1], fun k w p h => by rw [up_ne (by omega), k5.2 _ _ _ (by omega)]⟩
        have hm27 : m2.1 27 e (W % 64) = sl_i 0 := by rw [hm2, up_ne (by omega), up_eq rfl rfl rfl]
        have hA : y_hdA e sp wi si W m2 n2 := by
          refine ⟨?_, ?_, ?_⟩
          · intro i hi
            by_cases hi0 : i = 0
            · subst hi0
              refine ⟨0, by rw [Nat.add_zero]; exact hm27, by omega, ?_, fun h => absurd rfl h⟩
              rw [Nat.add_zero, hn2, up_eq rfl rfl rfl, if_pos rfl]
            · have hne : (W + i) % sp ≠ W % sp := fun h => by
                have := y_modinj (s := sp) (i := i) (j := 0) W (by omega) (by omega) (by rw [Nat.add_zero]; exact h)
                omega
              have hm3 : (W + i) % sp < sp := Nat.mod_lt _ (by omega)
              exact y_hd_cong (a4 i hi) (hm2s.2 _ _ _ (by omega)) (fun k hk => hn2s.2 _ _ _ (by omega)) (fun j hj => y_sm_rb hm2s (by omega)) (fun j hj => y_sm_mb hn2s (by omega)) hsi60
          · intro s hs hne
            rw [hm2s.2 _ _ _ (by have := hne 0 (by omega); rw [Nat.add_zero] at this; omega)]
            exact a5 s hs hne
          · intro k hk hne
            rw [hn2s.2 _ _ _ (by have := hne 0 (by omega); rw [Nat.add_zero] at this; omega)]
            exact a6 k hk hne
        have hA2 := y_hdShift hA hw1 (by omega) (by omega) hsp64 hsi60 hm27
        have hR3 : y_gRx e sp wi si (W + 1) (T + sz) m2 n2 := by
          refine ⟨⟨?_, ?_, by omega⟩, ⟨?_, ?_, hfit, ?_⟩, ?_, hA2⟩
          · rw [hm2, up_eq rfl rfl rfl]
          · rw [hn2, up_ne (by omega)]; exact k3
          · rw [hm2, up_ne (by omega), up_ne (by omega)]; exact g2
          · rw [hn2, up_ne (by omega)]; exact k2
          · intro j hj
            by_cases hjT : j < T
            · rw [y_sm_rb hm2s (by omega), y_sm_mb hn2s (by omega)]; exact a2.2.2.2 j hjT
            · have e1 := g3 (j - T) (by omega)
              have e2 := k4 (j - T) (by omega)
              rw [show T + (j - T) = j by omega] at e1 e2
              rw [hm2, y_rb_ne (by omega), y_rb_ne (by omega), e1, hn2, y_mb_ne (by omega), e2, Nat.mul_comm (W % 64) 60]
              exact b6 (j - T) (by omega)
          · rw [hm2s.2 _ _ _ (by omega)]; exact a3
        obtain ⟨W', T', c', d', s1, s2, s3, s4, s5, s6⟩ := ih (v + 1) (W + 1) (T + sz) f2 f3 m2 n2 (by omega) (by omega) (by omega) (by omega)
          (y_gS_cong hS2 (fun p => hm2s.2 _ _ _ (by omega)) (fun p _ _ => hn2s.2 _ _ _ (by omega))) hR3
          (fun i h1 h2 => by
            by_cases hi2 : i + 1 < wi
            · rw [hm2s.2 _ _ _ (by omega), show W + 1 + i = W + (i + 1) by omega]; exact hz (i + 1) (by omega) hi2
            · rw [hm2s.2 _ _ _ (by omega)]; exact a5 _ (by omega) (fun j hj => by omega))
          (fun _ => hw1)
        refine ⟨W', T', c', d', ?_, ?_, s3, s4, ?_, ?_⟩
        · rw [e_X5_takeHeld_2, hl7, a1.1]
          simp (disch := omega) only [i_lit, i_ofNat, i_add, i_mul, i_sub, i_addn, i_subm, y_nsm, i_le, i_lt, i_nat, i_eq, i_div, i_nle, i_nlt, i_len, i_ltn, i_neq, i_eqn, i_and1, i_and63, i_and255, b8_sx, ob_some, if_true, if_false, and_self, true_and, if_pos, if_neg, b1]
          rw [y_roomY c a2.1 (by omega), ob_some]
          simp (disch := omega) only [i_lit, i_ofNat, i_add, i_mul, i_sub, i_addn, i_subm, y_nsm, i_le, i_lt, i_nat, i_eq, i_div, i_nle, i_nlt, i_len, i_ltn, i_neq, i_eqn, i_and1, i_and63, i_and255, b8_sx, ob_some, if_true, if_false, and_self, true_and, if_pos, if_neg, b1]
          rw [g1, ob_some, g4.2 5 e 4 (by omega), a1.1, i_add, ← hm2]
          exact s1
        · rw [e_X11_byItself_121]
          simp (disch := omega) only [i_lit, i_ofNat, i_add, i_mul, i_sub, i_addn, i_subm, y_nsm, i_le, i_lt, i_nat, i_eq, i_div, i_nle, i_nlt, i_len, i_ltn, i_neq, i_eqn, i_and1, i_and63, i_and255, b8_sx, ob_some, if_true, if_false, and_self, true_and, if_pos, if_neg, a1.2.1, d1, b3, b5]
          rw [k1, ob_some]
          simp (disch := omega) only [i_lit, i_ofNat, i_add, i_mul, i_sub, i_addn, i_subm, y_nsm, i_le, i_lt, i_nat, i_eq, i_div, i_nle, i_nlt, i_len, i_ltn, i_neq, i_eqn, i_and1, i_and63, i_and255, b8_sx, ob_some, if_true, if_false, and_self, true_and, if_pos, if_neg]
          rw [← hn2]; exact s2
        · exact y_sm_tr (y_sm_mono hm2s (fun k w p h => by unfold y_zR; omega)) s5 (fun _ _ _ h => h) (fun _ _ _ h => h)
        · exact y_sm_tr (y_sm_mono (U := y_zRd e) hn2s (fun k w p h => by unfold y_zRd; omega)) s6 (fun _ _ _ h => h) (fun _ _ _ h => h)
      · refine ⟨W, T, c, d, ?_, ?_, hR2, ?_, y_sm_refl _ _, y_sm_refl _ _⟩
        · rw [e_X5_takeHeld_2, hl7, a1.1]
          simp (disch := omega) only [i_lit, i_ofNat, i_add, i_mul, i_sub, i_addn, i_subm, y_nsm, i_le, i_lt, i_nat, i_eq, i_div, i_nle, i_nlt, i_len, i_ltn, i_neq, i_eqn, i_and1, i_and63, i_and255, b8_sx, ob_some, if_true, if_false, and_self, true_and, if_pos, if_neg, b1]
          rw [y_roomN c a2.1 (by omega) (by omega) (by omega), ob_some]
          simp (disch := omega) only [i_lit, i_ofNat, i_add, i_mul, i_sub, i_addn, i_subm, y_nsm, i_le, i_lt, i_nat, i_eq, i_div, i_nle, i_nlt, i_len, i_ltn, i_neq, i_eqn, i_and1, i_and63, i_and255, b8_sx, ob_some, if_true, if_false, and_self, true_and, if_pos, if_neg]
        · rw [e_X11_byItself_121]
          simp (disch := omega) only [i_lit, i_ofNat, i_add, i_mul, i_sub, i_addn, i_subm, y_nsm, i_le, i_lt, i_nat, i_eq, i_div, i_nle, i_nlt, i_len, i_ltn, i_neq, i_eqn, i_and1, i_and63, i_and255, b8_sx, ob_some, if_true, if_false, and_self, true_and, if_pos, if_neg, a1.2.1, d1, b3, b5]
          rw [y_getsNo e 5 sz T _ d he (by omega) (by omega) a2.2.2.1 a2.2.1, ob_some]
          simp (disch := omega) only [i_lit, i_ofNat, i_add, i_mul, i_sub, i_addn, i_subm, y_nsm, i_le, i_lt, i_nat, i_eq, i_div, i_nle, i_nlt, i_len, i_ltn, i_neq, i_eqn, i_and1, i_and63, i_and255, b8_sx, ob_some, if_true, if_false, and_self, true_and, if_pos, if_neg]
          rw [e_X11_byItself_121]
          simp (disch := omega) only [i_lit, i_ofNat, i_add, i_mul, i_sub, i_addn, i_subm, y_nsm, i_le, i_lt, i_nat, i_eq, i_div, i_nle, i_nlt, i_len, i_ltn, i_neq, i_eqn, i_and1, i_and63, i_and255, b8_sx, ob_some, if_true, if_false, and_self, true_and, if_pos, if_neg]
        · intro sz2 hs60 h1 h2
          rw [b1] at h1
          have := (y_isz h1 (by omega) (by omega)).symm
          omega
