/-! a tick of one end, as a whole -/
theorem y_mkLoop (mo sp wi si ti e fi G ck ba : Nat) (he : e < 2) (hck : ck < 100000) : ∀ r ne P tm n v fuel fuel' (c d : sl_M), ne + r = ba + wi → r < fuel → r < fuel' → v + r < 200000 →
    y_gS mo sp wi si ti c d → y_gL e fi n c d → y_hv d → y_g3 c d → y_gPx e wi si G P ck tm ba ne c d →
    ∃ c' d' n' P' tm' ne' a, b_X7_passTick_50 fuel e (sl_i v) (sl_i r) c = some ((sl_i (v + a), 0, 0), c') ∧ b_X11_tickOf_180 fuel' (sl_i e) d = some ((sl_i 0, 0, 0), d') ∧
      y_gL e fi n' c' d' ∧ y_g3 c' d' ∧ d'.1 68 0 0 = d.1 68 0 0 + sl_i a ∧ y_gPx e wi si G P' ck tm' ba ne' c' d' ∧
      y_sm (fun k w p => y_zLc e k w p ∨ y_zP e k w p) c c' ∧ y_sm (fun k w p => y_zLd e k w p ∨ y_zPd e k w p) d d' := by
  intro r
  induction r with
  | zero =>
    intro ne P tm n v fuel fuel' c d hr hf hf' hvv hS hL hv hC hP
    obtain ⟨f2, rfl⟩ : ∃ f2, fuel = f2 + 1 := ⟨fuel - 1, by omega⟩
    obtain ⟨f3, rfl⟩ : ∃ f3, fuel' = f3 + 1 := ⟨fuel' - 1, by omega⟩
    refine ⟨c, d, n, P, tm, ne, 0, ?_, ?_, hL, hC, (Int32.add_zero _).symm, hP, y_sm_refl _ _, y_sm_refl _ _⟩
    · rw [e_X7_passTick_50]
      simp (disch := omega) only [i_lit, i_ofNat, i_add, i_mul, i_sub, i_addn, i_subm, y_nsm, i_le, i_lt, i_nat, i_eq, i_div, i_nle, i_nlt, i_len, i_ltn, i_neq, i_eqn, i_and1, i_and63, i_and255, b8_sx, ob_some, if_true, if_false, and_self, true_and, if_pos, if_neg, Nat.add_zero]
    · obtain ⟨a1, a2, a3, a4, a5, a6, a7, a8⟩ := hP
      obtain ⟨⟨c0, c1, c2, c3, c4⟩, ⟨d0, d1, d2, d3, d4⟩, hmo, hsp2, hsp64, hw1, hwA, hwB, hsi1, hsi60, hti1, hti50⟩ := hS
      rw [e_X11_tickOf_180]
      simp (disch := omega) only [i_lit, i_ofNat, i_add, i_mul, i_sub, i_addn, i_subm, y_nsm, i_le, i_lt, i_nat, i_eq, i_div, i_nle, i_nlt, i_len, i_ltn, i_neq, i_eqn, i_and1, i_and63, i_and255, b8_sx, ob_some, if_true, if_false, and_self, true_and, if_pos, if_neg, a6.2, a5.2, d2]
  | succ r ih =>
    intro ne P tm n v fuel fuel' c d hr hf hf' hvv hS hL hv hC hP
    obtain ⟨f2, rfl⟩ : ∃ f2, fuel = f2 + 1 := ⟨fuel - 1, by omega⟩
    obtain ⟨f3, rfl⟩ : ∃ f3, fuel' = f3 + 1 := ⟨fuel' - 1, by omega⟩
    by_cases hG : P < G
    · obtain ⟨c1, d1, n1, P1, tm1, r1, r2, r3, r4, r5, r6, r7, r8⟩ := y_make mo sp wi si ti e fi n G P ck tm ba ne f3 c d he hck hS hL hv hC hP (by omega) hG
      obtain ⟨c', d', n', P', tm', ne', a, s1, s2, s3, s4, s5, s6, s7, s8⟩ := ih (ne + 1) P1 tm1 n1 (v + 1) f2 f3 c1 d1 (by omega) (by omega) (by omega) (by omega)
        (y_gS_cong hS (fun p => r7.2 _ _ _ (fun q => by rcases q with q | q; have := y_zLc0 q he; omega; unfold y_zP at q; omega)) (fun p _ _ => r8.2 _ _ _ (fun q => by rcases q with q | q; have := y_zLd0 q he; omega; unfold y_zPd at q; omega)))
        r3 (fun k hk => by rw [r8.2 _ _ _ (fun q => by rcases q with q | q; have := y_zLd0 q he; omega; unfold y_zPd at q; omega)]; exact hv k hk) r4 r6
      refine ⟨c', d', n', P', tm', ne', 1 + a, ?_, ?_, s3, s4, ?_, s6, y_sm_tr r7 s7 (fun _ _ _ h => h) (fun _ _ _ h => h), y_sm_tr r8 s8 (fun _ _ _ h => h) (fun _ _ _ h => h)⟩
      · obtain ⟨a1, a2, a3, a4, a5, a6, a7, a8⟩ := hP
        rw [e_X7_passTick_50, a1.1, a2.1]
        simp (disch := omega) only [i_lit, i_ofNat, i_add, i_mul, i_sub, i_addn, i_subm, y_nsm, i_le, i_lt, i_nat, i_eq, i_div, i_nle, i_nlt, i_len, i_ltn, i_neq, i_eqn, i_and1, i_and63, i_and255, b8_sx, ob_some, if_true, if_false, and_self, true_and, if_pos, if_neg]
        rw [r1, ob_some, show r + 1 - 1 = r from rfl, s1, Nat.add_assoc]
      · rw [r2, s2]
      · rw [s5, r5, Int32.add_assoc, i_add]
    · refine ⟨c, d, n, P, tm, ne, 0, ?_, ?_, hL, hC, (Int32.add_zero _).symm, hP, y_sm_refl _ _, y_sm_refl _ _⟩
      · obtain ⟨a1, a2, a3, a4, a5, a6, a7, a8⟩ := hP
        rw [e_X7_passTick_50, a1.1, a2.1]
        simp (disch := omega) only [i_lit, i_ofNat, i_add, i_mul, i_sub, i_addn, i_subm, y_nsm, i_le, i_lt, i_nat, i_eq, i_div, i_nle, i_nlt, i_len, i_ltn, i_neq, i_eqn, i_and1, i_and63, i_and255, b8_sx, ob_some, if_true, if_false, and_self, true_and, if_pos, if_neg, Nat.add_zero]
      · obtain ⟨a1, a2, a3, a4, a5, a6, a7, a8⟩ := hP
        obtain ⟨⟨c0, c1, c2, c3, c4⟩, ⟨d0, d1, d2, d3, d4⟩, hmo, hsp2, hsp64, hw1, hwA, hwB, hsi1, hsi60, hti1, hti50⟩ := hS
        rw [e_X11_tickOf_180]
        simp (disch := omega) only [i_lit, i_ofNat, i_add, i_mul, i_sub, i_addn, i_subm, y_nsm, i_le, i_lt, i_nat, i_eq, i_div, i_nle, i_nlt, i_len, i_ltn, i_neq, i_eqn, i_and1, i_and63, i_and255, b8_sx, ob_some, if_true, if_false, and_self, true_and, if_pos, if_neg, a6.2, a5.2, d2, a1.2.1, a2.2.1]
def y_gP (e wi si K : Nat) (c d : sl_M) : Prop := ∃ G P ck tm ba ne, y_gPx e wi si G P ck tm ba ne c d ∧ ck ≤ K
def y_gF (e : Nat) (c d : sl_M) : Prop := ∃ fi n, y_gL e fi n c d
theorem y_each (c : sl_M) {mo : Nat} (h : c.1 8 0 0 = sl_i mo) (hm : mo ≤ 2) : f_X8_eachByItself c = some ((sl_i (if mo = 2 then 1 else 0), 0, 0), c) := by
  rw [e_X8_eachByItself, h]
  simp (disch := omega) only [i_lit, i_eq]
  by_cases h : mo = 2
  · rw [if_pos h, if_pos h]
  · rw [if_neg h, if_neg h]
theorem y_tickE (mo sp wi si ti e K : Nat) (c d : sl_M) (he : e < 2) (hK : K < 90000) (hS : y_gS mo sp wi si ti c d) (hF : y_gF e c d) (hv : y_hv d) (hC : y_g3 c d) (hP : y_gP e wi si K c d) :
    ∃ c' d' a, f_X7_passTick e c = some ((sl_i a, 0, 0), c') ∧ f_X11_tickOf (sl_i e) d = some ((sl_i 0, 0, 0), d') ∧
      y_gF e c' d' ∧ y_g3 c' d' ∧ d'.1 68 0 0 = d.1 68 0 0 + sl_i a ∧ y_gP e wi si (K + 1) c' d' ∧
      y_sm (fun k w p => y_zLc e k w p ∨ y_zP e k w p) c c' ∧ y_sm (fun k w p => y_zLd e k w p ∨ y_zPd e k w p) d d' := by
  obtain ⟨fi, n, hL⟩ := hF
  obtain ⟨G, P, ck, tm, ba, ne, hP, hckK⟩ := hP
  have hS2 := hS
  obtain ⟨⟨c0, c1, c2, c3, c4⟩, ⟨d0, d1, d2, d3, d4⟩, hmo, hsp2, hsp64, hw1, hwA, hwB, hsi1, hsi60, hti1, hti50⟩ := hS
  have hwi : wi ≤ 63 := by omega
  obtain ⟨cA, hcA⟩ : ∃ cA, cA = sl_up c 7 e 5 (sl_i (ck + 1)) := ⟨_, rfl⟩
  obtain ⟨dA, hdA⟩ : ∃ dA, dA = sl_up d 53 0 e (sl_i (ck + 1)) := ⟨_, rfl⟩
  have hcs : y_sm (fun k w p => k = 7 ∧ w = e ∧ p = 5) c cA := by rw [hcA]; exact y_sm_up (y_sm_refl _ _) (fun _ _ _ h => h) (by omega)
  have hds : y_sm (fun k w p => k = 53 ∧ w = 0 ∧ p = e) d dA := by rw [hdA]; exact y_sm_up (y_sm_refl _ _) (fun _ _ _ h => h) (by omega)
  have hPA : y_gPx e wi si G P (ck + 1) tm ba ne cA dA := by
    obtain ⟨a1, a2, a3, a4, a5, a6, a7, a8⟩ := hP
    refine ⟨⟨?_, ?_, a1.2.2.1, ?_⟩, ⟨?_, ?_, a2.2.2⟩, ⟨?_, ?_⟩, ⟨?_, ?_, by omega⟩, ⟨?_, ?_⟩, ⟨?_, ?_⟩, a7, ?_⟩
    · rw [hcs.2 _ _ _ (by omega)]; exact a1.1
    · rw [hds.2 _ _ _ (by omega)]; exact a1.2.1
    · intro j hj; rw [y_sm_rb hcs (by omega), y_sm_mb hds (by omega)]; exact a1.2.2.2 j hj
    · rw [hcs.2 _ _ _ (by omega)]; exact a2.1
    · rw [hds.2 _ _ _ (by omega)]; exact a2.2.1
    · rw [hcA, up_eq rfl rfl rfl]
    · rw [hdA, up_eq rfl rfl rfl]
    · rw [hcs.2 _ _ _ (by omega)]; exact a4.1
    · rw [hds.2 _ _ _ (by omega)]; exact a4.2.1
    · rw [hcs.2 _ _ _ (by omega)]; exact a5.1
    · rw [hds.2 _ _ _ (by omega)]; exact a5.2
    · rw [hcs.2 _ _ _ (by omega)]; exact a6.1
    · rw [hds.2 _ _ _ (by omega)]; exact a6.2
    · intro p h1 h2
      obtain ⟨st, sz, t, ke, b1, b2, b3, b4⟩ := y_pc_cong (c' := cA) (d' := dA) (a8 p h1 h2) (fun k _ _ => hcs.2 _ _ _ (by omega)) (fun k _ => hds.2 _ _ _ (by omega)) (hds.2 _ _ _ (by omega))
      exact ⟨st, sz, t, ke, b1, b2, ⟨b3.1, b3.2.1, by omega⟩, b4⟩
  have hSA : y_gS mo sp wi si ti cA dA := y_gS_cong hS2 (fun p => hcs.2 _ _ _ (by omega)) (fun p _ _ => hds.2 _ _ _ (by omega))
  have hLA : y_gL e fi n cA dA := y_gL_cong hL he hcs hds (fun k w p h => by unfold y_zF at h; omega) (fun k w p h => by unfold y_zFd at h; omega)
  have hvA : y_hv dA := fun k hk => by rw [hds.2 _ _ _ (by omega)]; exact hv k hk
  have hCA : y_g3 cA dA := fun k hk => by rw [hcs.2 _ _ _ (by omega), hds.2 _ _ _ (by omega)]; exact hC k hk
  have hcz : y_sm (fun k w p => y_zLc e k w p ∨ y_zP e k w p) c cA := y_sm_mono hcs (fun k w p h => .inr (by unfold y_zP; omega))
  have hdz : y_sm (fun k w p => y_zLd e k w p ∨ y_zPd e k w p) d dA := y_sm_mono hds (fun k w p h => .inr (by unfold y_zPd; omega))
  have h680 : dA.1 68 0 0 = d.1 68 0 0 := hds.2 _ _ _ (by omega)
  have hwA : wi ≤ 1000 := by omega
  have hne : ne ≤ 3000 ∧ ba ≤ ne ∧ ne ≤ ba + wi := by have h1 := hP.1.2.2.1; have h2 := hP.2.1.2.2; have h3 := hP.2.2.2.2.2.2.1; omega
  -- the loop behind the first half
  have hgo : ∀ (c1 d1 : sl_M) n1 P1 tm1 v, v < 10000 → y_gS mo sp wi si ti c1 d1 → y_gL e fi n1 c1 d1 → y_hv d1 → y_g3 c1 d1 → y_gPx e wi si G P1 (ck + 1) tm1 ba ne c1 d1 →
      d1.1 68 0 0 = d.1 68 0 0 + sl_i v → y_sm (fun k w p => y_zLc e k w p ∨ y_zP e k w p) c c1 → y_sm (fun k w p => y_zLd e k w p ∨ y_zPd e k w p) d d1 →
      ∀ fuel', 100 < fuel' → ∃ c' d' a, b_X7_passTick_50 99999 e (sl_i v) (sl_i (wi - (ne - ba))) c1 = some ((sl_i a, 0, 0), c') ∧ b_X11_tickOf_180 fuel' (sl_i e) d1 = some ((sl_i 0, 0, 0), d') ∧
        y_gF e c' d' ∧ y_g3 c' d' ∧ d'.1 68 0 0 = d.1 68 0 0 + sl_i a ∧ y_gP e wi si (K + 1) c' d' ∧
        y_sm (fun k w p => y_zLc e k w p ∨ y_zP e k w p) c c' ∧ y_sm (fun k w p => y_zLd e k w p ∨ y_zPd e k w p) d d' := by
    intro c1 d1 n1 P1 tm1 v hvv hS1 hL1 hv1 hC1 hP1 h68 hc1 hd1 fuel' hf'
    obtain ⟨c', d', n', P', tm', ne', a, s1, s2, s3, s4, s5, s6, s7, s8⟩ := y_mkLoop mo sp wi si ti e fi G (ck + 1) ba he (by omega) (wi - (ne - ba)) ne P1 tm1 n1 v 99999 fuel' c1 d1 (by omega) (by omega) (by omega) (by omega) hS1 hL1 hv1 hC1 hP1
    refine ⟨c', d', v + a, s1, s2, ⟨fi, n', s3⟩, s4, ?_, ⟨G, P', ck + 1, tm', ba, ne', s6, by omega⟩, y_sm_tr hc1 s7 (fun _ _ _ h => h) (fun _ _ _ h => h), y_sm_tr hd1 s8 (fun _ _ _ h => h) (fun _ _ _ h => h)⟩
    rw [s5, h68, Int32.add_assoc, i_add]
  have hcEq : f_X7_passTick e c = (f_X8_eachByItself cA).bind (fun q1 => if q1.1.1 = 0 then (f_X7_layAllIfLate e q1.2).bind (fun q2 => b_X7_passTick_50 99999 e q2.1.1 ((q2.2.1 8 0 2) - ((q2.2.1 7 e 8) - (q2.2.1 7 e 7))) q2.2) else (f_X7_layLateOnes e q1.2).bind (fun q3 => b_X7_passTick_50 99999 e q3.1.1 ((q3.2.1 8 0 2) - ((q3.2.1 7 e 8) - (q3.2.1 7 e 7))) q3.2)) := by
    rw [e_X7_passTick, hP.2.2.1.1, i_lit, i_add, ← hcA]
  rw [hcEq, y_each cA hSA.1.1 hmo, ob_some]
  by_cases hm2 : mo = 2
  · rw [if_pos hm2]
    simp (disch := omega) only [i_lit, i_eq, if_neg]
    obtain ⟨c1, d1, n1, a, r0, r1, r2, r3, r4, r5, r6, r7, r8⟩ := y_late7 mo sp wi si ti e fi G P (ck + 1) tm ba ne he (by omega) (ne - ba) ba n 0 (99999 - (ne - ba) - 1) (99999 - (ne - ba) - 1) cA dA (by omega) (by omega) (by omega) hSA hLA hvA hCA hPA
    rw [show 99999 - (ne - ba) - 1 + (ne - ba) + 1 = 99999 by omega] at r1 r2
    have hcz1 := y_sm_tr hcz r7 (fun _ _ _ h => h) (fun _ _ _ h => h)
    have hdz1 := y_sm_tr hdz r8 (fun _ _ _ h => h) (fun _ _ _ h => h)
    have hS1 : y_gS mo sp wi si ti c1 d1 := y_gS_cong hSA (fun p => r7.2 _ _ _ (fun q => by rcases q with q | q; have := y_zLc0 q he; omega; unfold y_zP at q; omega)) (fun p _ _ => r8.2 _ _ _ (fun q => by rcases q with q | q; have := y_zLd0 q he; omega; unfold y_zPd at q; omega))
    obtain ⟨c', d', b, s1, s2, s3⟩ := hgo c1 d1 n1 P tm a (by omega) hS1 r3 (fun k hk => by rw [r8.2 _ _ _ (fun q => by rcases q with q | q; have := y_zLd0 q he; omega; unfold y_zPd at q; omega)]; exact hvA k hk) r4 r6
      (by rw [r5, h680]) hcz1 hdz1 (99999 - (ne - ba) - 1) (by omega)
    refine ⟨c', d', b, ?_, ?_, s3⟩
    · rw [e_X7_layLateOnes, hPA.2.2.2.2.1.1, i_lit, r1, ob_some, hS1.1.2.2.1, r6.2.2.2.2.2.1.1, r6.2.2.2.2.1.1]
      simp (disch := omega) only [i_lit, i_ofNat, i_add, i_mul, i_sub, i_addn, i_subm, y_nsm, i_le, i_lt, i_nat, i_eq, i_div, i_nle, i_nlt, i_len, i_ltn, i_neq, i_eqn, i_and1, i_and63, i_and255, b8_sx, ob_some, if_true, if_false, and_self, true_and, if_pos, if_neg, Nat.zero_add]
      exact s1
    · rw [e_X11_tickOf]
      simp (disch := omega) only [i_lit, i_ofNat, i_add, i_mul, i_sub, i_addn, i_subm, y_nsm, i_le, i_lt, i_nat, i_eq, i_div, i_nle, i_nlt, i_len, i_ltn, i_neq, i_eqn, i_and1, i_and63, i_and255, b8_sx, ob_some, if_true, if_false, and_self, true_and, if_pos, if_neg, d0, hP.2.2.1.2, hP.2.2.2.2.1.2]
      rw [← hdA, r2, s2]
  · rw [if_neg hm2]
    simp (disch := omega) only [i_lit, i_eq, if_pos]
    obtain ⟨a1, a2, a3, a4, a5, a6, a7, a8⟩ := hPA
    rw [e_X7_layAllIfLate, a3.1, a4.1, hSA.1.2.2.2.2, a5.1]
    rw [e_X11_tickOf]
    simp (disch := omega) only [i_lit, i_ofNat, i_add, i_mul, i_sub, i_addn, i_subm, y_nsm, i_le, i_lt, i_nat, i_eq, i_div, i_nle, i_nlt, i_len, i_ltn, i_neq, i_eqn, i_and1, i_and63, i_and255, b8_sx, ob_some, if_true, if_false, and_self, true_and, if_pos, if_neg, d0, hP.2.2.1.2, hP.2.2.2.2.1.2, hP.2.2.2.2.2.1.2, hP.2.2.2.1.2.1, d4]
    simp (disch := omega) only [up_eq, up_ne, i_sub, i_lt]
    rw [← hdA]
    have hroom : ∀ c1 : sl_M, c1.1 8 0 2 = sl_i wi → c1.1 7 e 8 = sl_i ne → c1.1 7 e 7 = sl_i ba → c1.1 8 0 2 - (c1.1 7 e 8 - c1.1 7 e 7) = sl_i (wi - (ne - ba)) := by
      intro c1 h1 h2 h3
      rw [h1, h2, h3, i_sub (by omega), i_sub (by omega)]
    have hPA2 : y_gPx e wi si G P (ck + 1) tm ba ne cA dA := ⟨a1, a2, a3, a4, a5, a6, a7, a8⟩
    by_cases hbn : ne ≤ ba
    · have hcl : (if ti ≤ ck + 1 - tm then b_X7_layAllIfLate_26 99999 e (sl_i ba) cA else some ((sl_i 0, 0, 0), cA)) = some ((sl_i 0, 0, 0), cA) := by
        by_cases hlate : ti ≤ ck + 1 - tm
        · rw [if_pos hlate, show (99999 : Nat) = 99998 + 1 from rfl, e_X7_layAllIfLate_26, a6.1, a5.1]
          simp (disch := omega) only [i_lit, i_ofNat, i_add, i_mul, i_sub, i_addn, i_subm, y_nsm, i_le, i_lt, i_nat, i_eq, i_div, i_nle, i_nlt, i_len, i_ltn, i_neq, i_eqn, i_and1, i_and63, i_and255, b8_sx, ob_some, if_true, if_false, and_self, true_and, if_pos, if_neg, show ne - ba = 0 by omega]
        · rw [if_neg hlate]
      rw [hcl, if_pos hbn, ob_some, hroom cA hSA.1.2.2.1 a6.1 a5.1]
      exact hgo cA dA n P tm 0 (by omega) hSA hLA hvA hCA hPA2 (by rw [h680]; exact (Int32.add_zero _).symm) hcz hdz 99999 (by omega)
    · rw [if_neg hbn]
      by_cases hlate : ti ≤ ck + 1 - tm
      · rw [if_pos hlate, if_neg (by omega)]
        obtain ⟨c1, d1, n1, r1, r2, r3, r4, r5, r6, r7⟩ := y_all26 mo sp wi si ti e fi G P (ck + 1) tm ba ne he (ne - ba) ba n (99999 - (ne - ba)) (99999 - (ne - ba)) cA dA (by omega) (by omega) hSA hLA hvA hCA hPA2
        rw [show 99999 - (ne - ba) + (ne - ba) = 99999 by omega] at r1 r2
        obtain ⟨f2, hf2⟩ : ∃ f2, 99999 - (ne - ba) = f2 + 1 := ⟨99998 - (ne - ba), by omega⟩
        rw [hf2] at r1 r2
        obtain ⟨b1, b2, b3, b4, b5, b6, b7, b8⟩ := y_gPx_cong hPA2 he r6 r7 (fun _ _ _ h => y_zP_L he h) (fun _ _ _ h => y_zPd_L he h)
        have hS1 := y_gS_L hSA he r6 r7
        have hcz1 := y_sm_tr hcz r6 (fun _ _ _ h => h) (fun _ _ _ h => .inl h)
        have hdz1 := y_sm_tr hdz r7 (fun _ _ _ h => h) (fun _ _ _ h => .inl h)
        have hcu : y_sm (y_zP e) c1 (sl_up c1 7 e 6 (sl_i (ck + 1))) := y_sm_up (y_sm_refl _ _) (fun _ _ _ h => h) (by unfold y_zP; omega)
        have hdu : y_sm (y_zPd e) d1 (sl_up d1 54 0 e (sl_i (ck + 1))) := y_sm_up (y_sm_refl _ _) (fun _ _ _ h => h) (by unfold y_zPd; omega)
        rw [r1, e_X7_layAllIfLate_26, b6.1, b5.1, r2, e_X11_tickOf_60]
        simp (disch := omega) only [i_lit, i_ofNat, i_add, i_mul, i_sub, i_addn, i_subm, y_nsm, i_le, i_lt, i_nat, i_eq, i_div, i_nle, i_nlt, i_len, i_ltn, i_neq, i_eqn, i_and1, i_and63, i_and255, b8_sx, ob_some, if_true, if_false, and_self, true_and, if_pos, if_neg, b3.1, b6.2, b3.2]
        rw [hroom _ (by rw [up_ne (by omega)]; exact hS1.1.2.2.1) (by rw [up_ne (by omega)]; exact b6.1) (by rw [up_ne (by omega)]; exact b5.1)]
        refine hgo _ _ n1 P (ck + 1) (ne - ba) (by omega) (y_gS_cong hS1 (fun p => up_ne (by omega)) (fun p _ _ => up_ne (by omega))) (y_gL_cong r3 he hcu hdu (fun _ _ _ h => y_zLP he h) (fun _ _ _ h => y_zLPd he h))
          (fun k hk => by rw [up_ne (by omega)]; exact y_hv_L hvA he r7 k hk) (fun k hk => by rw [up_ne (by omega), up_ne (by omega)]; exact r4 k hk) ?_ (by rw [up_ne (by omega), r5, h680])
          (y_sm_tr hcz1 hcu (fun _ _ _ h => h) (fun _ _ _ h => .inr h)) (y_sm_tr hdz1 hdu (fun _ _ _ h => h) (fun _ _ _ h => .inr h)) f2 (by omega)
        refine ⟨⟨?_, ?_, b1.2.2.1, ?_⟩, ⟨?_, ?_, b2.2.2⟩, ⟨?_, ?_⟩, ⟨?_, ?_, by omega⟩, ⟨?_, ?_⟩, ⟨?_, ?_⟩, b7, ?_⟩
        · rw [up_ne (by omega)]; exact b1.1
        · rw [up_ne (by omega)]; exact b1.2.1
        · intro j hj; rw [y_rb_ne (by omega), y_mb_ne (by omega)]; exact b1.2.2.2 j hj
        · rw [up_ne (by omega)]; exact b2.1
        · rw [up_ne (by omega)]; exact b2.2.1
        · rw [up_ne (by omega)]; exact b3.1
        · rw [up_ne (by omega)]; exact b3.2
        · rw [up_eq rfl rfl rfl]
        · rw [up_eq rfl rfl rfl]
        · rw [up_ne (by omega)]; exact b5.1
        · rw [up_ne (by omega)]; exact b5.2
        · rw [up_ne (by omega)]; exact b6.1
        · rw [up_ne (by omega)]; exact b6.2
        · intro p h1 h2
          exact y_pc_cong (b8 p h1 h2) (fun k _ _ => up_ne (by omega)) (fun k _ => up_ne (by omega)) (up_ne (by omega))
      · rw [if_neg hlate, if_pos (by omega), ob_some, hroom cA hSA.1.2.2.1 a6.1 a5.1]
        exact hgo cA dA n P tm 0 (by omega) hSA hLA hvA hCA hPA2 (by rw [h680]; exact (Int32.add_zero _).symm) hcz hdz 99999 (by omega)
