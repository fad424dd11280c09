/-! a KNOWN is taken -/
theorem sx_bitkA (x : Int32) {k : Nat} (hk : k < 8) : (sl_sx x >>> (sl_i k &&& sl_i 31)) &&& sl_i 1 = sl_i (sl_b8 x / 2 ^ k % 2) := by
  rw [i_and31, Nat.mod_eq_of_lt (by omega), sx_bitk x hk]
theorem y_keep (sp wi si e G P ck tm ba ne load M : Nat) (he : e < 2) (hsi : si ≤ 60) (hwi : wi ≤ 32) (hload : load = (wi + 6) / 8) (hM : 1 + load ≤ M) (hM2 : M ≤ 120) (hck : ck < 100000) : ∀ r k fuel fuel' (c d : sl_M), ba + 1 + k + r = ne →
    y_gPx e wi si G P ck tm ba ne c d → c.1 6 (12 + e) 1 = sl_i M → (∀ j, j < M → y_rb c (12 + e) j = y_mb d 9 j) →
    ∃ c' d', b_X7_keepKnown_7 (fuel + r + 1) e (12 + e) (sl_i (ba + 1 + k)) c = some ((sl_i 0, 0, 0), c') ∧ b_X11_known_94 (fuel' + r) (sl_i e) (sl_i load) (sl_i k) d = b_X11_known_94 fuel' (sl_i e) (sl_i load) (sl_i (k + r)) d' ∧
      y_gPx e wi si G P ck tm ba ne c' d' ∧ y_sm (y_zP e) c c' ∧ y_sm (y_zPd e) d d' := by
  have hlr := y_lr12 he
  intro r
  induction r with
  | zero =>
    intro k fuel fuel' c d hk hP hl hb
    have hP2 := hP
    obtain ⟨a1, a2, a3, a4, a5, a6, a7, a8⟩ := hP
    refine ⟨c, d, ?_, rfl, hP2, y_sm_refl _ _, y_sm_refl _ _⟩
    rw [e_X7_keepKnown_7, a6.1]
    simp (disch := omega) only [i_lit, i_ofNat, i_add, i_mul, i_sub, i_addn, i_subm, y_nsm, i_le, i_lt, i_nat, i_eq, i_div, i_nle, i_nlt, i_len, i_ltn, i_neq, i_eqn, i_and1, i_and63, i_and255, b8_sx, ob_some, if_true, if_false, and_self, true_and, if_pos, if_neg]
  | succ r ih =>
    intro k fuel fuel' c d hk hP hl hb
    have hP2 := hP
    obtain ⟨a1, a2, a3, a4, a5, a6, a7, a8⟩ := hP
    have hbb := y_rb_lt c (12 + e) (1 + k / 8)
    have hbe := hb (1 + k / 8) (by omega)
    have hbe2 : sl_b8 (d.1 30 9 (1 + k / 8)) = y_rb c (12 + e) (1 + k / 8) := hbe.symm
    obtain ⟨B, hB⟩ : ∃ B, B = y_rb c (12 + e) (1 + k / 8) / 2 ^ (k % 8) := ⟨_, rfl⟩
    have hB2 : B < 256 := by rw [hB]; exact Nat.lt_of_le_of_lt (Nat.div_le_self _ _) hbb
    rw [show fuel + (r + 1) + 1 = fuel + r + 1 + 1 from rfl, show fuel' + (r + 1) = fuel' + r + 1 from rfl, e_X7_keepKnown_7, e_X11_known_94, a6.1, a5.1]
    simp (disch := omega) only [i_lit, i_ofNat, i_add, i_mul, i_sub, i_addn, i_subm, y_nsm, i_le, i_lt, i_nat, i_eq, i_div, i_nle, i_nlt, i_len, i_ltn, i_neq, i_eqn, i_and1, i_and63, i_and255, b8_sx, ob_some, if_true, if_false, and_self, true_and, if_pos, if_neg, a6.2, a5.2, sx_bitkA, hbe2, show ba + 1 + k - ba - 1 = k by omega]
    rw [y_at c hl (by omega) (by omega), ob_some]
    simp (disch := omega) only [i_lit, i_ofNat, i_add, i_mul, i_sub, i_addn, i_subm, y_nsm, i_le, i_lt, i_nat, i_eq, i_div, i_nle, i_nlt, i_len, i_ltn, i_neq, i_eqn, i_and1, i_and63, i_and255, b8_sx, ob_some, if_true, if_false, and_self, true_and, if_pos, if_neg, i_shrA, ← hB]
    by_cases hbit : B % 2 = 0
    · rw [if_pos hbit, if_neg (by omega)]
      obtain ⟨c', d', s1, s2, s3⟩ := ih (k + 1) fuel fuel' c d (by omega) hP2 hl hb
      refine ⟨c', d', s1, ?_, s3⟩
      rw [s2, show k + 1 + r = k + (r + 1) by omega]
    · rw [if_neg hbit, if_pos (by omega)]
      have hcs : y_sm (fun k w p => k = 26 ∧ w = e) c (sl_up c 26 e ((ba + 1 + k) % 64) (sl_i 1)) := y_sm_up (y_sm_refl _ _) (fun _ _ _ h => h) (by omega)
      have hds : y_sm (fun k w p => k = 70 ∧ w = 0 ∧ 3002 * e ≤ p ∧ p < 3002 * e + 3002) d (sl_up d 70 0 (3002 * e + ba + k + 1) (sl_i 1)) := y_sm_up (y_sm_refl _ _) (fun _ _ _ h => h) (by omega)
      obtain ⟨c', d', s1, s2, s3, s4, s5⟩ := ih (k + 1) fuel fuel' (sl_up c 26 e ((ba + 1 + k) % 64) (sl_i 1)) (sl_up d 70 0 (3002 * e + ba + k + 1) (sl_i 1)) (by omega) (by
          refine ⟨⟨?_, ?_, a1.2.2.1, ?_⟩, ⟨?_, ?_, a2.2.2⟩, ⟨?_, ?_⟩, ⟨?_, ?_, a4.2.2⟩, ⟨?_, ?_⟩, ⟨?_, ?_⟩, a7, ?_⟩
          · rw [up_ne (by omega)]; exact a1.1
          · rw [up_ne (by omega)]; exact a1.2.1
          · intro j hj; rw [y_rb_ne (by omega), y_mb_ne (by omega)]; exact a1.2.2.2 j hj
          · rw [up_ne (by omega)]; exact a2.1
          · rw [up_ne (by omega)]; exact a2.2.1
          · rw [up_ne (by omega)]; exact a3.1
          · rw [up_ne (by omega)]; exact a3.2
          · rw [up_ne (by omega)]; exact a4.1
          · rw [up_ne (by omega)]; exact a4.2.1
          · rw [up_ne (by omega)]; exact a5.1
          · rw [up_ne (by omega)]; exact a5.2
          · rw [up_ne (by omega)]; exact a6.1
          · rw [up_ne (by omega)]; exact a6.2
          · intro p2 h1 h2
            by_cases hpp : p2 = ba + 1 + k
            · subst hpp
              obtain ⟨st, sz, t, ke, b1, b2, b3, b4⟩ := a8 (ba + 1 + k) h1 h2
              refine ⟨st, sz, t, 1, ⟨?_, ?_⟩, ⟨?_, ?_, b2.2.2⟩, ⟨?_, ?_, b3.2.2⟩, ⟨?_, ?_, by omega⟩⟩
              · rw [up_ne (by omega)]; exact b1.1
              · rw [up_ne (by omega)]; exact b1.2
              · rw [up_ne (by omega)]; exact b2.1
              · rw [up_ne (by omega)]; exact b2.2.1
              · rw [up_ne (by omega)]; exact b3.1
              · rw [up_ne (by omega)]; exact b3.2.1
              · rw [up_eq rfl rfl rfl]
              · rw [up_eq rfl rfl (by omega)]
            · refine y_pc_cong (a8 p2 h1 h2) ?_ ?_ ?_
              · intro k _ _; rw [up_ne (by omega)]
              · intro k _; rw [up_ne (by omega)]
              · rw [up_ne (by omega)])
        (by rw [up_ne (by omega)]; exact hl) (fun j hj => by rw [y_rb_ne (by omega), y_mb_ne (by omega)]; exact hb j hj)
      refine ⟨c', d', ?_, ?_, s3, ?_, ?_⟩
      · exact s1
      · rw [s2, show k + 1 + r = k + (r + 1) by omega]
      · exact y_sm_tr (y_sm_mono hcs (fun k w p h => by unfold y_zP; omega)) s4 (fun _ _ _ h => h) (fun _ _ _ h => h)
      · exact y_sm_tr (y_sm_mono hds (fun k w p h => by unfold y_zPd; omega)) s5 (fun _ _ _ h => h) (fun _ _ _ h => h)
theorem y_keepEnd (e load ba ne : Nat) (he : e < 2) (hl4 : load ≤ 4) (hba : ba ≤ 3000) (hne : ne ≤ 3000) : ∀ r k fuel (d : sl_M), k + r = 8 * load → ne ≤ ba + k + 1 → d.1 55 0 e = sl_i ba → d.1 56 0 e = sl_i ne →
    b_X11_known_94 (fuel + r + 1) (sl_i e) (sl_i load) (sl_i k) d = some ((sl_i 0, 0, 0), d) := by
  intro r
  induction r with
  | zero =>
    intro k fuel d hk h1 h2 h3
    rw [e_X11_known_94]
    simp (disch := omega) only [i_lit, i_ofNat, i_add, i_mul, i_sub, i_addn, i_subm, y_nsm, i_le, i_lt, i_nat, i_eq, i_div, i_nle, i_nlt, i_len, i_ltn, i_neq, i_eqn, i_and1, i_and63, i_and255, b8_sx, ob_some, if_true, if_false, and_self, true_and, if_pos, if_neg]
  | succ r ih =>
    intro k fuel d hk h1 h2 h3
    rw [show fuel + (r + 1) + 1 = fuel + r + 1 + 1 from rfl, e_X11_known_94]
    simp (disch := omega) only [i_lit, i_ofNat, i_add, i_mul, i_sub, i_addn, i_subm, y_nsm, i_le, i_lt, i_nat, i_eq, i_div, i_nle, i_nlt, i_len, i_ltn, i_neq, i_eqn, i_and1, i_and63, i_and255, b8_sx, ob_some, if_true, if_false, and_self, true_and, if_pos, if_neg, h2, h3, sx_bitkA]
    have := ih (k + 1) fuel d (by omega) (by omega) h2 h3
    rw [this]
    exact ite_self _
theorem y_known (mo sp wi si ti e a load M K : Nat) (c d : sl_M) (he : e < 2) (hK : K < 90000) (hS : y_gS mo sp wi si ti c d) (hC : y_gC c d) (hP : y_gP e wi si K c d) (ha : a < sp)
    (hload : load = (if mo = 2 then (wi + 6) / 8 else 0)) (hM : c.1 6 (12 + e) 1 = sl_i M) (hM1 : 1 + load ≤ M) (hM2 : M ≤ 120) (hb : ∀ j, j < M → y_rb c (12 + e) j = y_mb d 9 j) :
    ∃ c' d', f_X7_hearKnown e (sl_i a) (12 + e) c = some ((sl_i 0, 0, 0), c') ∧ f_X11_known (sl_i e) (sl_i a) (sl_i load) d = some ((sl_i 0, 0, 0), d') ∧ y_gC c' d' ∧ y_gP e wi si K c' d' ∧
      y_sm (fun k w p => (k = 27 ∧ w = 2) ∨ y_zP e k w p) c c' ∧ y_sm (fun k w p => (k = 68 ∧ w = 0) ∨ y_zPd e k w p) d d' := by
  obtain ⟨G, P, ck, tm, ba, ne, hPx, hck⟩ := hP
  have hS2 := hS
  obtain ⟨⟨c0, c1, c2, c3, c4⟩, ⟨d0, d1, d2, d3, d4⟩, hmo, hsp2, hsp64, hw1, hwA, hwB, hsi1, hsi60, hti1, hti50⟩ := hS
  have hPx2 := hPx
  obtain ⟨a1, a2, a3, a4, a5, a6, a7, a8⟩ := hPx
  have hbm : ba % sp < sp := Nat.mod_lt _ (by omega)
  have hmd := y_md_lt a ba (show 0 < sp by omega)
  obtain ⟨D, hD⟩ : ∃ D, D = y_md a ba sp := ⟨_, rfl⟩
  rw [← hD] at hmd
  have hDm : (a + sp - ba % sp) % sp = D := by rw [hD]; rfl
  rw [e_X7_hearKnown, a5.1, y_inRingd c c1 (by omega) (by omega) (by omega) hsp64, ob_some, ← hD, e_X11_known, a5.1, a6.1]
  simp (disch := omega) only [i_lit, i_ofNat, i_add, i_mul, i_sub, i_addn, i_subm, y_nsm, i_le, i_lt, i_nat, i_eq, i_div, i_nle, i_nlt, i_len, i_ltn, i_neq, i_eqn, i_and1, i_and63, i_and255, b8_sx, ob_some, if_true, if_false, and_self, true_and, if_pos, if_neg, d0, d1, a5.2, a6.2, a3.2, i_subadd, hDm]
  by_cases hDn : D ≤ ne - ba
  · rw [if_pos hDn, if_pos hDn]
    have hcs : y_sm (fun k w p => k = 7 ∧ w = e ∧ p = 7) c (sl_up c 7 e 7 (sl_i (ba + D))) := y_sm_up (y_sm_refl _ _) (fun _ _ _ h => h) (by omega)
    have hds : y_sm (fun k w p => k = 55 ∧ w = 0 ∧ p = e) d (sl_up d 55 0 e (sl_i (ba + D))) := y_sm_up (y_sm_refl _ _) (fun _ _ _ h => h) (by omega)
    have hP1 : y_gPx e wi si G P ck tm (ba + D) ne (sl_up c 7 e 7 (sl_i (ba + D))) (sl_up d 55 0 e (sl_i (ba + D))) := by
      refine ⟨⟨?_, ?_, a1.2.2.1, ?_⟩, ⟨?_, ?_, a2.2.2⟩, ⟨?_, ?_⟩, ⟨?_, ?_, a4.2.2⟩, ⟨?_, ?_⟩, ⟨?_, ?_⟩, by omega, ?_⟩
      · rw [up_ne (by omega)]; exact a1.1
      · rw [up_ne (by omega)]; exact a1.2.1
      · intro j hj; rw [y_rb_ne (by omega), y_mb_ne (by omega)]; exact a1.2.2.2 j hj
      · rw [up_ne (by omega)]; exact a2.1
      · rw [up_ne (by omega)]; exact a2.2.1
      · rw [up_ne (by omega)]; exact a3.1
      · rw [up_ne (by omega)]; exact a3.2
      · rw [up_ne (by omega)]; exact a4.1
      · rw [up_ne (by omega)]; exact a4.2.1
      · rw [up_eq rfl rfl rfl]
      · rw [up_eq rfl rfl rfl]
      · rw [up_ne (by omega)]; exact a6.1
      · rw [up_ne (by omega)]; exact a6.2
      · intro p h1 h2
        exact y_pc_cong (a8 p (by omega) h2) (fun k _ _ => up_ne (by omega)) (fun k _ => up_ne (by omega)) (up_ne (by omega))
    have hC1 : y_gC (sl_up c 7 e 7 (sl_i (ba + D))) (sl_up d 55 0 e (sl_i (ba + D))) := fun k hk => by rw [up_ne (by omega), up_ne (by omega)]; exact hC k hk
    by_cases hm2 : mo = 2
    · subst hm2
      rw [if_pos rfl] at hload
      have hwi : wi ≤ 32 := by have := hwB rfl; omega
      rw [y_each2 _ (by rw [up_ne (by omega)]; exact c0), ob_some]
      simp (disch := omega) only [i_lit, i_ofNat, i_add, i_mul, i_sub, i_addn, i_subm, y_nsm, i_le, i_lt, i_nat, i_eq, i_div, i_nle, i_nlt, i_len, i_ltn, i_neq, i_eqn, i_and1, i_and63, i_and255, b8_sx, ob_some, if_true, if_false, and_self, true_and, if_pos, if_neg]
      rw [ite_self]
      obtain ⟨k9, r9, hkr⟩ : ∃ k9 r9, k9 = ne - (ba + D) - 1 ∧ r9 = 8 * load - k9 := ⟨_, _, rfl, rfl⟩
      by_cases hz : ne = ba + D
      · refine ⟨_, _, ?_, ?_, hC1, ⟨G, P, ck, tm, ba + D, ne, hP1, hck⟩, y_sm_mono hcs (fun k w p h => .inr (by unfold y_zP; omega)), y_sm_mono hds (fun k w p h => .inr (by unfold y_zPd; omega))⟩
        · rw [e_X7_keepKnown, up_eq rfl rfl rfl, show (99999 : Nat) = 99998 + 1 from rfl, i_lit, i_add, e_X7_keepKnown_7, up_ne (by omega), a6.1]
          simp (disch := omega) only [i_lit, i_ofNat, i_add, i_mul, i_sub, i_addn, i_subm, y_nsm, i_le, i_lt, i_nat, i_eq, i_div, i_nle, i_nlt, i_len, i_ltn, i_neq, i_eqn, i_and1, i_and63, i_and255, b8_sx, ob_some, if_true, if_false, and_self, true_and, if_pos, if_neg]
        · have := y_keepEnd e load (ba + D) ne he (by omega) (by omega) (by omega) (8 * load) 0 (99998 - 8 * load) (sl_up d 55 0 e (sl_i (ba + D))) (by omega) (by omega) (by rw [up_eq rfl rfl rfl]) (by rw [up_ne (by omega)]; exact a6.2)
          rw [show 99998 - 8 * load + 8 * load + 1 = 99999 by omega] at this
          exact this
      · obtain ⟨c', d', s1, s2, s3, s4, s5⟩ := y_keep sp wi si e G P ck tm (ba + D) ne load M he hsi60 hwi hload hM1 hM2 (by omega) (ne - (ba + D) - 1) 0 (99998 - (ne - (ba + D) - 1)) (99999 - (ne - (ba + D) - 1)) _ _ (by omega) hP1
          (by rw [up_ne (by omega)]; exact hM) (fun j hj => by rw [y_rb_ne (by omega), y_mb_ne (by omega)]; exact hb j hj)
        rw [show 99998 - (ne - (ba + D) - 1) + (ne - (ba + D) - 1) + 1 = 99999 by omega] at s1
        rw [show 99999 - (ne - (ba + D) - 1) + (ne - (ba + D) - 1) = 99999 by omega] at s2
        have hq := s3
        obtain ⟨b1, b2, b3, b4, b5, b6, b7, b8⟩ := hq
        refine ⟨c', d', ?_, ?_, ?_, ⟨G, P, ck, tm, ba + D, ne, s3, hck⟩, ?_, ?_⟩
        · rw [e_X7_keepKnown, up_eq rfl rfl rfl, i_lit, i_add]
          rw [show ba + D + 1 + 0 = ba + D + 1 from rfl] at s1
          rw [s1, ob_some]
        · rw [s2]
          have := y_keepEnd e load (ba + D) ne he (by omega) (by omega) (by omega) (8 * load - (ne - (ba + D) - 1)) (0 + (ne - (ba + D) - 1)) (99998 - 8 * load) d' (by omega) (by omega) b5.2 b6.2
          rw [show 99998 - 8 * load + (8 * load - (ne - (ba + D) - 1)) + 1 = 99999 - (ne - (ba + D) - 1) by omega] at this
          exact this
        · intro k hk
          rw [s4.2 _ _ _ (fun q => by unfold y_zP at q; omega), s5.2 _ _ _ (fun q => by unfold y_zPd at q; omega)]; exact hC1 k hk
        · exact y_sm_tr (y_sm_mono hcs (fun k w p h => .inr (by unfold y_zP; omega))) s4 (fun _ _ _ h => h) (fun _ _ _ h => .inr h)
        · exact y_sm_tr (y_sm_mono hds (fun k w p h => .inr (by unfold y_zPd; omega))) s5 (fun _ _ _ h => h) (fun _ _ _ h => .inr h)
    · rw [if_neg hm2] at hload
      subst hload
      rw [y_each0 _ (mo := mo) (by rw [up_ne (by omega)]; exact c0) (by omega), ob_some]
      simp (disch := omega) only [i_lit, i_ofNat, i_add, i_mul, i_sub, i_addn, i_subm, y_nsm, i_le, i_lt, i_nat, i_eq, i_div, i_nle, i_nlt, i_len, i_ltn, i_neq, i_eqn, i_and1, i_and63, i_and255, b8_sx, ob_some, if_true, if_false, and_self, true_and, if_pos, if_neg]
      by_cases hD0 : D ≤ 0
      · rw [if_pos hD0, if_pos hD0]
        refine ⟨_, _, rfl, ?_, hC1, ⟨G, P, ck, tm, ba + D, ne, hP1, hck⟩, y_sm_mono hcs (fun k w p h => .inr (by unfold y_zP; omega)), y_sm_mono hds (fun k w p h => .inr (by unfold y_zPd; omega))⟩
        rw [show (99999 : Nat) = 99998 + 1 from rfl, e_X11_known_94]
        simp (disch := omega) only [i_lit, i_ofNat, i_add, i_mul, i_sub, i_addn, i_subm, y_nsm, i_le, i_lt, i_nat, i_eq, i_div, i_nle, i_nlt, i_len, i_ltn, i_neq, i_eqn, i_and1, i_and63, i_and255, b8_sx, ob_some, if_true, if_false, and_self, true_and, if_pos, if_neg]
      · rw [if_neg hD0, if_neg hD0]
        obtain ⟨b1, b2, b3, b4, b5, b6, b7, b8⟩ := hP1
        refine ⟨sl_up (sl_up c 7 e 7 (sl_i (ba + D))) 7 e 6 (sl_i ck), sl_up (sl_up d 55 0 e (sl_i (ba + D))) 54 0 e (sl_i ck), ?_, ?_, ?_, ⟨G, P, ck, ck, ba + D, ne, ?_, hck⟩, ?_, ?_⟩
        · rw [b3.1]
        · rw [show (99999 : Nat) = 99998 + 1 from rfl, e_X11_known_94]
          simp (disch := omega) only [i_lit, i_ofNat, i_add, i_mul, i_sub, i_addn, i_subm, y_nsm, i_le, i_lt, i_nat, i_eq, i_div, i_nle, i_nlt, i_len, i_ltn, i_neq, i_eqn, i_and1, i_and63, i_and255, b8_sx, ob_some, if_true, if_false, and_self, true_and, if_pos, if_neg]
        · intro k hk; rw [up_ne (by omega), up_ne (by omega)]; exact hC1 k hk
        · refine ⟨⟨?_, ?_, b1.2.2.1, ?_⟩, ⟨?_, ?_, b2.2.2⟩, ⟨?_, ?_⟩, ⟨?_, ?_, by omega⟩, ⟨?_, ?_⟩, ⟨?_, ?_⟩, b7, ?_⟩
          · rw [up_ne (by omega)]; exact b1.1
          · rw [up_ne (by omega)]; exact b1.2.1
          · intro j hj; rw [y_rb_ne (by omega), y_mb_ne (by omega)]; exact b1.2.2.2 j hj
          · rw [up_ne (by omega)]; exact b2.1
          · rw [up_ne (by omega)]; exact b2.2.1
          · rw [up_ne (by omega)]; exact b3.1
          · rw [up_ne (by omega)]; exact b3.2
          · rw [up_eq rfl rfl rfl]
          · rw [up_eq rfl rfl rfl]
          · rw [up_ne (by omega)]; exact b5.1
          · rw [up_ne (by omega)]; exact b5.2
          · rw [up_ne (by omega)]; exact b6.1
          · rw [up_ne (by omega)]; exact b6.2
          · intro p h1 h2
            exact y_pc_cong (b8 p h1 h2) (fun k _ _ => up_ne (by omega)) (fun k _ => up_ne (by omega)) (up_ne (by omega))
        · exact y_sm_up (y_sm_mono hcs (fun k w p h => .inr (by unfold y_zP; omega))) (fun _ _ _ h => h) (.inr (by unfold y_zP; omega))
        · exact y_sm_up (y_sm_mono hds (fun k w p h => .inr (by unfold y_zPd; omega))) (fun _ _ _ h => h) (.inr (by unfold y_zPd; omega))
  · rw [if_neg hDn, if_neg hDn]
    refine ⟨sl_up c 27 2 6 (c.1 27 2 6 + sl_i 1), sl_up d 68 0 6 (d.1 68 0 6 + sl_i 1), ?_, rfl, ?_, ?_, ?_, ?_⟩
    · rw [y_tally c (by omega), ob_some]
    · intro k hk
      by_cases h6 : k = 6
      · subst h6; rw [up_eq rfl rfl rfl, up_eq rfl rfl rfl, hC 6 (by omega)]
      · rw [up_ne (by omega), up_ne (by omega)]; exact hC k hk
    · refine ⟨G, P, ck, tm, ba, ne, y_gPx_cong (S := fun k w p => k = 27 ∧ w = 2) (T := fun k w p => k = 68) hPx2 he ?_ ?_ ?_ ?_, hck⟩
      · exact y_sm_up (y_sm_refl _ _) (fun _ _ _ h => h) (by omega)
      · exact y_sm_up (y_sm_refl _ _) (fun _ _ _ h => h) (by omega)
      · intro k w p h; unfold y_zP at h; omega
      · intro k w p h; unfold y_zPd at h; omega
    · exact y_sm_up (y_sm_refl _ _) (fun _ _ _ h => h) (.inl (by omega))
    · exact y_sm_up (y_sm_refl _ _) (fun _ _ _ h => h) (.inl (by omega))
