/-! DATA, as a whole -/
theorem y_each0 (c : sl_M) {mo : Nat} (h : c.1 8 0 0 = sl_i mo) (hm : mo ≤ 1) : f_X8_eachByItself c = some ((sl_i 0, 0, 0), c) := by
  rw [y_each c h (by omega), if_neg (by omega)]
theorem y_each2 (c : sl_M) (h : c.1 8 0 0 = sl_i 2) : f_X8_eachByItself c = some ((sl_i 1, 0, 0), c) := by
  rw [y_each c h (by omega), if_pos rfl]
def y_gR (e mo sp wi si : Nat) (c d : sl_M) : Prop := ∃ W T, y_gRx e sp wi si W T c d ∧ y_rest e T W c ∧ (mo ≤ 1 → ∀ s, s < 64 → c.1 27 e s = sl_i 0)
def y_grow (e fi n n' : Nat) (c c' : sl_M) : Prop := (n' = n ∨ (n < 40 ∧ n' = n + 1 ∧ c'.1 2 (40 * e + (fi + n) % 40) 1 = sl_i 1)) ∧
  ∀ j, j < 40 → (n' = n + 1 → j ≠ (fi + n) % 40) → c'.1 2 (40 * e + j) 1 = c.1 2 (40 * e + j) 1
def y_zDc (e k w p : Nat) : Prop := (k = 27 ∧ w = 2) ∨ y_zLc e k w p ∨ y_zR e k w p
def y_zDd (e k w p : Nat) : Prop := (k = 68 ∧ w = 0) ∨ y_zLd e k w p ∨ y_zRd e k w p
def y_dataC (e a load : Nat) (c : sl_M) : Option (sl_PL × sl_M) := (f_X5_hearData e (sl_i a) (12 + e) (sl_i load) c).bind (fun q8 =>
  if q8.1.1 = sl_i 0 then some ((sl_i 0, 0, 0), q8.2) else (f_X5_layKnown e q8.2).bind (fun q9 => some ((sl_i 0, 0, 0), q9.2)))
theorem y_zR_L {e k w p : Nat} (he : e < 2) (h : y_zR e k w p) : ¬ y_zLc e k w p := fun q => by have := y_zLc0 q he; unfold y_zR at h; omega
theorem y_zRd_L {e k w p : Nat} (he : e < 2) (h : y_zRd e k w p) : ¬ y_zLd e k w p := fun q => by have := y_zLd0 q he; unfold y_zRd at h; omega
theorem y_zF_R {e k w p : Nat} (he : e < 2) (h : y_zF e k w p) : ¬ y_zR e k w p := fun q => by unfold y_zR at q; unfold y_zF at h; omega
theorem y_zFd_R {e k w p : Nat} (he : e < 2) (h : y_zFd e k w p) : ¬ y_zRd e k w p := fun q => by unfold y_zRd at q; unfold y_zFd at h; omega
/-- behind the taking: a KNOWN -/
theorem y_after (mo sp wi si ti e fi n W T : Nat) (c0 d0 c d : sl_M) (he : e < 2) (hS : y_gS mo sp wi si ti c d) (hL : y_gL e fi n c d) (hv : y_hv d) (hC : y_gC c d)
    (hR : y_gRx e sp wi si W T c d) (hre : y_rest e T W c) (hz : mo ≤ 1 → ∀ s, s < 64 → c.1 27 e s = sl_i 0)
    (hs0 : ∀ j, j < 40 → c.1 2 (40 * e + j) 1 = c0.1 2 (40 * e + j) 1) (hc0 : y_sm (y_zDc e) c0 c) (hd0 : y_sm (y_zDd e) d0 d) :
    ∃ c' d' n', f_X5_layKnown e c = some ((sl_i 0, 0, 0), c') ∧ f_X11_layKnown (sl_i e) d = some ((sl_i 0, 0, 0), d') ∧ y_gL e fi n' c' d' ∧ y_gC c' d' ∧ y_gR e mo sp wi si c' d' ∧
      y_grow e fi n n' c0 c' ∧ y_sm (y_zDc e) c0 c' ∧ y_sm (y_zDd e) d0 d' := by
  obtain ⟨c', d', r1, r2, r3, r4, r5, r6, r7, r8⟩ := y_layKnown mo sp wi si ti e fi n W T c d he hS hL hv hC hR
  have hS2 := hS
  obtain ⟨_, _, hmo, hsp2, hsp64, hw1, hwA, hwB, hsi1, hsi60, hti1, hti50⟩ := hS
  have h27 : ∀ s, c'.1 27 e s = c.1 27 e s := fun s => r7.2 _ _ _ (y_zR_L he (by unfold y_zR; omega))
  refine ⟨c', d', _, r1, r2, r3, r4, ⟨W, T, y_gRx_cong hR he hsp64 (by omega) hsi60 r7 r8 (fun _ _ _ h => y_zR_L he h) (fun _ _ _ h => y_zRd_L he h), ?_, ?_⟩, ⟨?_, ?_⟩, ?_, ?_⟩
  · intro sz h1 h2 h3
    rw [h27] at h2; exact hre sz h1 h2 h3
  · intro hm s hs; rw [h27]; exact hz hm s hs
  · by_cases h : n < 40
    · rw [if_pos h]; exact .inr ⟨h, rfl, r5 h⟩
    · rw [if_neg h]; exact .inl rfl
  · intro j hj hjn
    rw [r6 j hj (fun h => hjn (by rw [if_pos h])), hs0 j hj]
  · exact y_sm_tr hc0 r7 (fun _ _ _ h => h) (fun _ _ _ h => .inr (.inl h))
  · exact y_sm_tr hd0 r8 (fun _ _ _ h => h) (fun _ _ _ h => .inr (.inl h))
theorem y_data01 (mo sp wi si ti e fi n a load M : Nat) (c d : sl_M) (he : e < 2) (hm : mo ≤ 1) (hS : y_gS mo sp wi si ti c d) (hL : y_gL e fi n c d) (hv : y_hv d) (hC : y_gC c d) (hR : y_gR e mo sp wi si c d)
    (ha : a < sp) (hl1 : 1 ≤ load) (hls : load ≤ si) (hM : c.1 6 (12 + e) 1 = sl_i M) (hM1 : 1 + load ≤ M) (hM2 : M ≤ 120) (hb : ∀ j, j < M → y_rb c (12 + e) j = y_mb d 9 j) :
    ∃ c' d' n', y_dataC e a load c = some ((sl_i 0, 0, 0), c') ∧ f_X11_inOrder (sl_i e) (sl_i a) (sl_i load) d = some ((sl_i 0, 0, 0), d') ∧ y_gL e fi n' c' d' ∧ y_gC c' d' ∧ y_gR e mo sp wi si c' d' ∧
      y_grow e fi n n' c c' ∧ y_sm (y_zDc e) c c' ∧ y_sm (y_zDd e) d d' := by
  obtain ⟨W, T, hRx, hre, hz⟩ := hR
  have hS2 := hS
  obtain ⟨⟨c0, c1, c2, c3, c4⟩, ⟨d0, d1, d2, d3, d4⟩, hmo, hsp2, hsp64, hw1, hwA, hwB, hsi1, hsi60, hti1, hti50⟩ := hS
  have hRx2 := hRx
  obtain ⟨a1, a2, a3, a4, a5, a6⟩ := hRx
  have hlr6 := y_lr6 he
  have hlr12 := y_lr12 he
  have hWm : W % sp < sp := Nat.mod_lt _ (by omega)
  have hmd := y_md_lt a W (show 0 < sp by omega)
  have hcl : ∀ r : Nat, y_dataC e a load c = ((f_X6_hasRoom (6 + e) (sl_i load) c).bind (fun q3 =>
      if (sl_i (y_md a W sp)) = sl_i 0 then
        if q3.1.1 = sl_i 0 then (f_X9_add (sl_i 5) q3.2).bind (fun q4 => if (sl_i (y_md a W sp)) = sl_i 0 then some ((sl_i 0, 0, 0), q4.2) else some ((sl_i 1, 0, 0), q4.2))
        else (f_X6_addPart (6 + e) (12 + e) (sl_i 1) (sl_i load) q3.2).bind (fun q5 => some ((sl_i 1, 0, 0), (sl_up q5.2 5 e 4 ((q5.2.1 5 e 4) + sl_i 1))))
      else (f_X9_add (sl_i 5) q3.2).bind (fun q6 => if (sl_i (y_md a W sp)) = sl_i 0 then some ((sl_i 0, 0, 0), q6.2) else some ((sl_i 1, 0, 0), q6.2)))).bind (fun q8 =>
        if q8.1.1 = sl_i 0 then some ((sl_i 0, 0, 0), q8.2) else (f_X5_layKnown e q8.2).bind (fun q9 => some ((sl_i 0, 0, 0), q9.2))) := by
    intro _
    unfold y_dataC
    rw [e_X5_hearData, a1.1, y_inRingd c c1 (by omega) (by omega) (by omega) hsp64, ob_some, y_each0 c c0 hm, ob_some]
    simp (disch := omega) only [i_lit, i_eq, if_true, if_pos]
  rw [hcl 0, e_X11_inOrder]
  simp (disch := omega) only [i_lit, i_ofNat, i_add, i_mul, i_sub, i_addn, i_subm, y_nsm, i_le, i_lt, i_nat, i_eq, i_div, i_nle, i_nlt, i_len, i_ltn, i_neq, i_eqn, i_and1, i_and63, i_and255, b8_sx, ob_some, if_true, if_false, and_self, true_and, if_pos, if_neg, d1, a1.2.1, a2.2.1]
  by_cases hw : a = W % sp
  · have hD : y_md a W sp = 0 := (y_md0 ha).2 hw
    by_cases hfit : T + load ≤ 3000
    · rw [y_roomY c a2.1 (by omega), ob_some]
      obtain ⟨m1, g1, g2, g3, g4⟩ := y_addPart c (r := 6 + e) (f := 12 + e) (s := 1) (n := load) (L := T) (LF := M) a2.1 hM (by omega) (by omega) (by omega) (by omega) (by omega)
      obtain ⟨n1, k1, k2, k3, k4, k5⟩ := y_gets e 9 1 load W T d he (by omega) (by show _ ≤ 200; omega) hfit a2.2.1 a1.2.1
      obtain ⟨m2, hm2⟩ : ∃ m2, m2 = sl_up m1 5 e 4 (sl_i (W + 1)) := ⟨_, rfl⟩
      have hm2s : y_sm (fun k w p => (k = 6 ∧ w = 6 + e ∧ p = 1) ∨ (k = 20 ∧ w = 6 + e ∧ T ≤ p) ∨ (k = 5 ∧ w = e ∧ p = 4)) c m2 := by
        rw [hm2]; exact ⟨by rw [up_2, g4.1], fun k w p h => by rw [up_ne (by omega), g4.2 _ _ _ (by omega)]⟩
      have hA : y_hdA e sp wi si W m2 n1 := by
        refine ⟨?_, ?_, ?_⟩
        · intro i hi
          have hm3 : (W + i) % sp < sp := Nat.mod_lt _ (by omega)
          exact y_hd_cong (a4 i hi) (hm2s.2 _ _ _ (by omega)) (fun k hk => k5.2 _ _ _ (by omega)) (fun j hj => y_sm_rb hm2s (by omega)) (fun j hj => y_sm_mb k5 (by omega)) hsi60
        · intro s hs hne; rw [hm2s.2 _ _ _ (by omega)]; exact a5 s hs hne
        · intro k hk hne; rw [k5.2 _ _ _ (by omega)]; exact a6 k hk hne
      have hm27 : ∀ s, s < 64 → m2.1 27 e s = sl_i 0 := fun s hs => by rw [hm2s.2 _ _ _ (by omega)]; exact hz hm s hs
      have hR3 : y_gRx e sp wi si (W + 1) (T + load) m2 n1 := by
        refine ⟨⟨?_, ?_, by omega⟩, ⟨?_, ?_, hfit, ?_⟩, ?_, y_hdShift hA hw1 (by omega) (by omega) hsp64 hsi60 (hm27 _ (by omega))⟩
        · rw [hm2, up_eq rfl rfl rfl]
        · exact k3
        · rw [hm2, up_ne (by omega)]; exact g2
        · exact k2
        · intro j hj
          by_cases hjT : j < T
          · rw [y_sm_rb hm2s (by omega), y_sm_mb k5 (by omega)]; exact a2.2.2.2 j hjT
          · have e1 := g3 (j - T) (by omega)
            have e2 := k4 (j - T) (by omega)
            rw [show T + (j - T) = j by omega] at e1 e2
            rw [hm2, y_rb_ne (by omega), e1, e2]
            exact hb _ (by omega)
        · rw [hm2s.2 _ _ _ (by omega)]; exact a3
      obtain ⟨c', d', n', s1, s2, s3, s4, s5, s6, s7, s8⟩ := y_after mo sp wi si ti e fi n (W + 1) (T + load) c d m2 n1 he
        (y_gS_cong hS2 (fun p => hm2s.2 _ _ _ (by omega)) (fun p _ _ => k5.2 _ _ _ (by omega)))
        (y_gL_cong hL he hm2s k5 (fun k w p h => by unfold y_zF at h; omega) (fun k w p h => by unfold y_zFd at h; omega))
        (fun k hk => by rw [k5.2 _ _ _ (by omega)]; exact hv k hk)
        (fun k hk => by rw [hm2s.2 _ _ _ (by omega), k5.2 _ _ _ (by omega)]; exact hC k hk) hR3
        (fun sz h1 h2 h3 => by rw [hm27 _ (by omega)] at h2; exact absurd (y_isz h2 (by omega) (by omega)).symm h3) (fun _ => hm27)
        (fun j hj => hm2s.2 _ _ _ (by omega)) (y_sm_mono hm2s (fun k w p h => .inr (.inr (by unfold y_zR; omega)))) (y_sm_mono k5 (fun k w p h => .inr (.inr (by unfold y_zRd; omega))))
      refine ⟨c', d', n', ?_, ?_, s3, s4, s5, s6, s7, s8⟩
      · rw [hD]
        simp (disch := omega) only [i_lit, i_ofNat, i_add, i_mul, i_sub, i_addn, i_subm, y_nsm, i_le, i_lt, i_nat, i_eq, i_div, i_nle, i_nlt, i_len, i_ltn, i_neq, i_eqn, i_and1, i_and63, i_and255, b8_sx, ob_some, if_true, if_false, and_self, true_and, if_pos, if_neg]
        rw [g1, ob_some, ob_some, g4.2 5 e 4 (by omega), a1.1, i_add, ← hm2]
        simp (disch := omega) only [i_lit, i_ofNat, i_add, i_mul, i_sub, i_addn, i_subm, y_nsm, i_le, i_lt, i_nat, i_eq, i_div, i_nle, i_nlt, i_len, i_ltn, i_neq, i_eqn, i_and1, i_and63, i_and255, b8_sx, ob_some, if_true, if_false, and_self, true_and, if_pos, if_neg]
        rw [s1, ob_some]
      · rw [if_pos hw, if_neg (by omega), k1, ob_some, s2, ob_some]
    · rw [y_roomN c a2.1 (by omega) (by omega) (by omega), ob_some]
      have hcs : y_sm (fun k w p => k = 27 ∧ w = 2) c (sl_up c 27 2 5 (c.1 27 2 5 + sl_i 1)) := y_sm_up (y_sm_refl _ _) (fun _ _ _ h => h) (by omega)
      have hds : y_sm (fun k w p => k = 68 ∧ w = 0) d (sl_up d 68 0 5 (d.1 68 0 5 + sl_i 1)) := y_sm_up (y_sm_refl _ _) (fun _ _ _ h => h) (by omega)
      refine ⟨sl_up c 27 2 5 (c.1 27 2 5 + sl_i 1), sl_up d 68 0 5 (d.1 68 0 5 + sl_i 1), n, ?_, ?_, ?_, ?_, ⟨W, T, ?_, ?_, ?_⟩, ⟨.inl rfl, ?_⟩, ?_, ?_⟩
      · rw [hD]
        simp (disch := omega) only [i_lit, i_ofNat, i_add, i_mul, i_sub, i_addn, i_subm, y_nsm, i_le, i_lt, i_nat, i_eq, i_div, i_nle, i_nlt, i_len, i_ltn, i_neq, i_eqn, i_and1, i_and63, i_and255, b8_sx, ob_some, if_true, if_false, and_self, true_and, if_pos, if_neg, y_tally]
      · rw [if_pos hw, if_pos (by omega)]
      · exact y_gL_cong hL he hcs hds (fun k w p h => by unfold y_zF at h; omega) (fun k w p h => by unfold y_zFd at h; omega)
      · intro k hk
        by_cases h5 : k = 5
        · subst h5; rw [up_eq rfl rfl rfl, up_eq rfl rfl rfl, hC 5 (by omega)]
        · rw [up_ne (by omega), up_ne (by omega)]; exact hC k hk
      · exact y_gRx_cong hRx2 he hsp64 (by omega) hsi60 hcs hds (fun k w p h => by unfold y_zR at h; omega) (fun k w p h => by unfold y_zRd at h; omega)
      · intro sz h1 h2 h3; rw [up_ne (by omega)] at h2; exact hre sz h1 h2 h3
      · intro _ s hs; rw [up_ne (by omega)]; exact hz hm s hs
      · intro j hj _; rw [up_ne (by omega)]
      · exact y_sm_mono hcs (fun k w p h => .inl h)
      · exact y_sm_mono hds (fun k w p h => .inl h)
  · have hD : y_md a W sp ≠ 0 := fun h => hw ((y_md0 ha).1 h)
    have hcs : y_sm (fun k w p => k = 27 ∧ w = 2) c (sl_up c 27 2 5 (c.1 27 2 5 + sl_i 1)) := y_sm_up (y_sm_refl _ _) (fun _ _ _ h => h) (by omega)
    have hds : y_sm (fun k w p => k = 68 ∧ w = 0) d (sl_up d 68 0 5 (d.1 68 0 5 + sl_i 1)) := y_sm_up (y_sm_refl _ _) (fun _ _ _ h => h) (by omega)
    obtain ⟨c', d', n', s1, s2, s3, s4, s5, s6, s7, s8⟩ := y_after mo sp wi si ti e fi n W T c d _ _ he
      (y_gS_cong hS2 (fun p => hcs.2 _ _ _ (by omega)) (fun p _ _ => hds.2 _ _ _ (by omega)))
      (y_gL_cong hL he hcs hds (fun k w p h => by unfold y_zF at h; omega) (fun k w p h => by unfold y_zFd at h; omega))
      (fun k hk => by rw [hds.2 _ _ _ (by omega)]; exact hv k hk)
      (fun k hk => by
        by_cases h5 : k = 5
        · subst h5; rw [up_eq rfl rfl rfl, up_eq rfl rfl rfl, hC 5 (by omega)]
        · rw [up_ne (by omega), up_ne (by omega)]; exact hC k hk)
      (y_gRx_cong hRx2 he hsp64 (by omega) hsi60 hcs hds (fun k w p h => by unfold y_zR at h; omega) (fun k w p h => by unfold y_zRd at h; omega))
      (fun sz h1 h2 h3 => by rw [up_ne (by omega)] at h2; exact hre sz h1 h2 h3) (fun _ s hs => by rw [up_ne (by omega)]; exact hz hm s hs)
      (fun j hj => up_ne (by omega)) (y_sm_mono hcs (fun k w p h => .inl h)) (y_sm_mono hds (fun k w p h => .inl h))
    refine ⟨c', d', n', ?_, ?_, s3, s4, s5, s6, s7, s8⟩
    · have hro : ∃ x, f_X6_hasRoom (6 + e) (sl_i load) c = some ((sl_i x, 0, 0), c) := by
        by_cases hfit : T + load ≤ 3000
        · exact ⟨1, y_roomY c a2.1 (by omega)⟩
        · exact ⟨0, y_roomN c a2.1 (by omega) (by omega) (by omega)⟩
      obtain ⟨x, hx⟩ := hro
      rw [hx, ob_some]
      simp (disch := omega) only [i_lit, i_ofNat, i_add, i_mul, i_sub, i_addn, i_subm, y_nsm, i_le, i_lt, i_nat, i_eq, i_div, i_nle, i_nlt, i_len, i_ltn, i_neq, i_eqn, i_and1, i_and63, i_and255, b8_sx, ob_some, if_true, if_false, and_self, true_and, if_pos, if_neg, y_tally]
      rw [s1, ob_some]
    · rw [if_neg hw]
      by_cases hfit : 3000 < T + load
      · rw [if_pos hfit, s2, ob_some]
      · rw [if_neg hfit, s2, ob_some]

theorem y_data2 (sp wi si ti e fi n a load M : Nat) (c d : sl_M) (he : e < 2) (hS : y_gS 2 sp wi si ti c d) (hL : y_gL e fi n c d) (hv : y_hv d) (hC : y_gC c d) (hR : y_gR e 2 sp wi si c d)
    (ha : a < sp) (hl1 : 1 ≤ load) (hls : load ≤ si) (hM : c.1 6 (12 + e) 1 = sl_i M) (hM1 : 1 + load ≤ M) (hM2 : M ≤ 120) (hb : ∀ j, j < M → y_rb c (12 + e) j = y_mb d 9 j) :
    ∃ c' d' n', y_dataC e a load c = some ((sl_i 0, 0, 0), c') ∧ f_X11_byItself (sl_i e) (sl_i a) (sl_i load) d = some ((sl_i 0, 0, 0), d') ∧ y_gL e fi n' c' d' ∧ y_gC c' d' ∧ y_gR e 2 sp wi si c' d' ∧
      y_grow e fi n n' c c' ∧ y_sm (y_zDc e) c c' ∧ y_sm (y_zDd e) d d' := by
  obtain ⟨W, T, hRx, hre, hz⟩ := hR
  have hS2 := hS
  obtain ⟨⟨c0, c1, c2, c3, c4⟩, ⟨d0, d1, d2, d3, d4⟩, hmo, hsp2, hsp64, hw1, hwA, hwB, hsi1, hsi60, hti1, hti50⟩ := hS
  have hRx2 := hRx
  obtain ⟨a1, a2, a3, a4, a5, a6⟩ := hRx
  have hl7 : sl_l7 e = 64 := by unfold sl_l7; rw [show (e == 2) = false by simp; omega]; rfl
  have hlr6 := y_lr6 he
  have hlr12 := y_lr12 he
  have hWm : W % sp < sp := Nat.mod_lt _ (by omega)
  have hmd := y_md_lt a W (show 0 < sp by omega)
  have hwi : wi ≤ 32 := by have := hwB rfl; omega
  have hWD := y_mdW (W := W) ha
  obtain ⟨D, hD⟩ : ∃ D, D = y_md a W sp := ⟨_, rfl⟩
  rw [← hD] at hWD hmd
  have hDm : (a + sp - W % sp) % sp = D := by rw [hD]; rfl
  have hcl : y_dataC e a load c = ((f_X5_hold e (sl_i D) (12 + e) (sl_i load) c).bind (fun q7 => (f_X5_takeHeld e q7.2).bind (fun q8 => some ((sl_i 1, 0, 0), q8.2)))).bind (fun q8 =>
        if q8.1.1 = sl_i 0 then some ((sl_i 0, 0, 0), q8.2) else (f_X5_layKnown e q8.2).bind (fun q9 => some ((sl_i 0, 0, 0), q9.2))) := by
    unfold y_dataC
    rw [e_X5_hearData, a1.1, y_inRingd c c1 (by omega) (by omega) (by omega) hsp64, ob_some, y_each2 c c0, ob_some, ← hD]
    simp (disch := omega) only [i_lit, i_eq, if_neg]
  -- AGAIN: the class looks for held ones that fit, in vain
  have hagain : (c2 : sl_M) → (d2 : sl_M) → c2 = sl_up c 27 2 5 (c.1 27 2 5 + sl_i 1) → d2 = sl_up d 68 0 5 (d.1 68 0 5 + sl_i 1) →
      f_X5_takeHeld e c2 = some ((sl_i 0, 0, 0), c2) ∧ ∃ c' d' n', f_X5_layKnown e c2 = some ((sl_i 0, 0, 0), c') ∧ f_X11_layKnown (sl_i e) d2 = some ((sl_i 0, 0, 0), d') ∧ y_gL e fi n' c' d' ∧ y_gC c' d' ∧ y_gR e 2 sp wi si c' d' ∧
      y_grow e fi n n' c c' ∧ y_sm (y_zDc e) c c' ∧ y_sm (y_zDd e) d d' := by
    intro m2 n2 hm2 hn2
    have hcs : y_sm (fun k w p => k = 27 ∧ w = 2) c m2 := by rw [hm2]; exact y_sm_up (y_sm_refl _ _) (fun _ _ _ h => h) (by omega)
    have hds : y_sm (fun k w p => k = 68 ∧ w = 0) d n2 := by rw [hn2]; exact y_sm_up (y_sm_refl _ _) (fun _ _ _ h => h) (by omega)
    refine ⟨?_, ?_⟩
    · obtain ⟨sz, b1, b2, b3, b4⟩ := a4 0 (by omega)
      rw [Nat.add_zero] at b1
      rw [e_X5_takeHeld, show (99999 : Nat) = 99998 + 1 from rfl, e_X5_takeHeld_2, hl7, hcs.2 5 e 4 (by omega), a1.1]
      simp (disch := omega) only [i_lit, i_ofNat, i_add, i_mul, i_sub, i_addn, i_subm, y_nsm, i_le, i_lt, i_nat, i_eq, i_div, i_nle, i_nlt, i_len, i_ltn, i_neq, i_eqn, i_and1, i_and63, i_and255, b8_sx, ob_some, if_true, if_false, and_self, true_and, if_pos, if_neg, hcs.2 27 e (W % 64) (by omega), b1]
      by_cases hsz : sz = 0
      · rw [if_pos hsz]
      · rw [if_neg hsz, y_roomN m2 (L := T) (by rw [hcs.2 _ _ _ (by omega)]; exact a2.1) (by omega) (by omega) (by have := hre sz (by omega) b1 hsz; omega), ob_some]
        simp (disch := omega) only [i_lit, i_ofNat, i_add, i_mul, i_sub, i_addn, i_subm, y_nsm, i_le, i_lt, i_nat, i_eq, i_div, i_nle, i_nlt, i_len, i_ltn, i_neq, i_eqn, i_and1, i_and63, i_and255, b8_sx, ob_some, if_true, if_false, and_self, true_and, if_pos, if_neg]
    · exact y_after 2 sp wi si ti e fi n W T c d m2 n2 he
        (y_gS_cong hS2 (fun p => hcs.2 _ _ _ (by omega)) (fun p _ _ => hds.2 _ _ _ (by omega)))
        (y_gL_cong hL he hcs hds (fun k w p h => by unfold y_zF at h; omega) (fun k w p h => by unfold y_zFd at h; omega))
        (fun k hk => by rw [hds.2 _ _ _ (by omega)]; exact hv k hk)
        (fun k hk => by
          by_cases h5 : k = 5
          · subst h5; rw [hm2, hn2, up_eq rfl rfl rfl, up_eq rfl rfl rfl, hC 5 (by omega)]
          · rw [hm2, hn2, up_ne (by omega), up_ne (by omega)]; exact hC k hk)
        (y_gRx_cong hRx2 he hsp64 (by omega) hsi60 hcs hds (fun k w p h => by unfold y_zR at h; omega) (fun k w p h => by unfold y_zRd at h; omega))
        (fun sz h1 h2 h3 => by rw [hcs.2 _ _ _ (by omega)] at h2; exact hre sz h1 h2 h3) (fun h => by omega)
        (fun j hj => hcs.2 _ _ _ (by omega)) (y_sm_mono hcs (fun k w p h => .inl h)) (y_sm_mono hds (fun k w p h => .inl h))
  rw [hcl, e_X11_byItself]
  simp (disch := omega) only [i_lit, i_ofNat, i_add, i_mul, i_sub, i_addn, i_subm, y_nsm, i_le, i_lt, i_nat, i_eq, i_div, i_nle, i_nlt, i_len, i_ltn, i_neq, i_eqn, i_and1, i_and63, i_and255, b8_sx, ob_some, if_true, if_false, and_self, true_and, if_pos, if_neg, d1, d2, a1.2.1, i_subadd, hDm]
  by_cases hDw : wi ≤ D
  · obtain ⟨h1, c', d', n', s1, s2, s3⟩ := hagain _ _ rfl rfl
    refine ⟨c', d', n', ?_, ?_, s3⟩
    · rw [e_X5_hold, c2]
      simp (disch := omega) only [i_lit, i_ofNat, i_add, i_mul, i_sub, i_addn, i_subm, y_nsm, i_le, i_lt, i_nat, i_eq, i_div, i_nle, i_nlt, i_len, i_ltn, i_neq, i_eqn, i_and1, i_and63, i_and255, b8_sx, ob_some, if_true, if_false, and_self, true_and, if_pos, if_neg, y_tally]
      rw [h1, ob_some]
      simp (disch := omega) only [i_lit, i_ofNat, i_add, i_mul, i_sub, i_addn, i_subm, y_nsm, i_le, i_lt, i_nat, i_eq, i_div, i_nle, i_nlt, i_len, i_ltn, i_neq, i_eqn, i_and1, i_and63, i_and255, b8_sx, ob_some, if_true, if_false, and_self, true_and, if_pos, if_neg]
      rw [s1, ob_some]
    · rw [if_pos hDw, s2, ob_some]
  · rw [if_neg hDw]
    obtain ⟨sz, b1, b2, b3, b4⟩ := a4 D (by omega)
    rw [hWD] at b3 b4
    by_cases hsz : sz = 0
    · rw [if_pos hsz] at b3
      subst hsz
      obtain ⟨m1, g1, g2, g3⟩ := y_hold44 e ((W + D) % 64) load M he (by omega) (by omega) hM1 hM2 load 0 (99999 - load - 1) c (by omega) hM
      rw [show 99999 - load - 1 + load + 1 = 99999 by omega] at g1
      obtain ⟨m2, hm2⟩ : ∃ m2, m2 = sl_up m1 27 e ((W + D) % 64) (sl_i load) := ⟨_, rfl⟩
      rw [← hm2] at g1
      obtain ⟨n1, hn1⟩ : ∃ n1, n1 = sl_up (sl_up d 71 0 (64 * e + a) (sl_i 1)) 60 0 (64 * e + a) (sl_i load) := ⟨_, rfl⟩
      obtain ⟨n2, k1, k2, k3⟩ := y_by84 e load (64 * e + a) he (by omega) (by omega) load 0 (99999 - load - 1) n1 (by omega)
      rw [show 99999 - load - 1 + load + 1 = 99999 by omega] at k1
      have hm2s : y_sm (fun k w p => (k = 20 ∧ w = 8 + e ∧ 60 * ((W + D) % 64) ≤ p ∧ p < 60 * ((W + D) % 64) + load) ∨ (k = 27 ∧ w = e ∧ p = (W + D) % 64)) c m2 := by
        rw [hm2]; exact ⟨by rw [up_2, g3.1], fun k w p h => by rw [up_ne (by omega), g3.2 _ _ _ (by omega)]⟩
      have hn2s : y_sm (fun k w p => (k = 30 ∧ w = 5 ∧ 60 * (64 * e + a) ≤ p ∧ p < 60 * (64 * e + a) + load) ∨ ((k = 60 ∨ k = 71) ∧ w = 0 ∧ p = 64 * e + a)) d n2 := by
        exact ⟨by rw [k3.1, hn1, up_2, up_2], fun k w p h => by rw [k3.2 _ _ _ (by omega), hn1, up_ne (by omega), up_ne (by omega)]⟩
      have hR3 : y_gRx e sp wi si W T m2 n2 := by
        refine ⟨⟨?_, ?_, a1.2.2⟩, ⟨?_, ?_, a2.2.2.1, ?_⟩, ?_, ?_, ?_, ?_⟩
        · rw [hm2s.2 _ _ _ (by omega)]; exact a1.1
        · rw [hn2s.2 _ _ _ (by omega)]; exact a1.2.1
        · rw [hm2s.2 _ _ _ (by omega)]; exact a2.1
        · rw [hn2s.2 _ _ _ (by omega)]; exact a2.2.1
        · intro j hj; rw [y_sm_rb hm2s (by omega), y_sm_mb hn2s (by omega)]; exact a2.2.2.2 j hj
        · rw [hm2s.2 _ _ _ (by omega)]; exact a3
        · intro i hi
          by_cases hiD : i = D
          · subst hiD
            refine ⟨load, ?_, hls, ?_, fun _ => ⟨?_, ?_⟩⟩
            · rw [hm2, up_eq rfl rfl rfl]
            · rw [hWD, if_neg (by omega), k3.2 _ _ _ (by omega), hn1, up_ne (by omega), up_eq rfl rfl rfl]
            · rw [hWD, k3.2 _ _ _ (by omega), hn1, up_eq rfl rfl rfl]
            · intro j hj
              rw [hWD, k2 j (by omega) hj, hn1, y_mb_ne (by omega), y_mb_ne (by omega), hm2, y_rb_ne (by omega), g2 j (by omega) hj]
              exact hb _ (by omega)
          · have hne : (W + i) % sp ≠ a := fun h => hiD (y_modinj (s := sp) W (by omega) (by omega) (by rw [h, hWD]))
            have hm3 : (W + i) % sp < sp := Nat.mod_lt _ (by omega)
            exact y_hd_cong (a4 i hi) (hm2s.2 _ _ _ (by omega)) (fun k hk => hn2s.2 _ _ _ (by omega)) (fun j hj => y_sm_rb hm2s (by omega)) (fun j hj => y_sm_mb hn2s (by omega)) hsi60
        · intro s hs hne
          rw [hm2s.2 _ _ _ (by have := hne D (by omega); omega)]; exact a5 s hs hne
        · intro k hk hne
          rw [hn2s.2 _ _ _ (by have := hne D (by omega); rw [hWD] at this; omega)]; exact a6 k hk hne
      obtain ⟨W', T', m3, n3, t1, t2, t3, t4, t5, t6⟩ := y_takeHeld 2 sp wi si ti e he wi 0 W T 99999 (99999 - load - 2) m2 n2 (by omega) (by omega) (by omega) (by omega)
        (y_gS_cong hS2 (fun p => hm2s.2 _ _ _ (by omega)) (fun p _ _ => hn2s.2 _ _ _ (by omega))) hR3 (fun i h1 h2 => by omega) (fun _ => hw1)
      rw [show 99999 - load - 2 + 1 = 99999 - load - 1 by omega] at t2
      have hcs : y_sm (y_zR e) c m3 := y_sm_tr (y_sm_mono hm2s (fun k w p h => by unfold y_zR; omega)) t5 (fun _ _ _ h => h) (fun _ _ _ h => h)
      have hds : y_sm (y_zRd e) d n3 := y_sm_tr (y_sm_mono (U := y_zRd e) hn2s (fun k w p h => by unfold y_zRd; omega)) t6 (fun _ _ _ h => h) (fun _ _ _ h => h)
      obtain ⟨c', d', n', s1, s2, s3⟩ := y_after 2 sp wi si ti e fi n W' T' c d m3 n3 he
        (y_gS_cong hS2 (fun p => hcs.2 _ _ _ (fun q => by unfold y_zR at q; omega)) (fun p _ _ => hds.2 _ _ _ (fun q => by unfold y_zRd at q; omega)))
        (y_gL_cong hL he hcs hds (fun _ _ _ h => y_zF_R he h) (fun _ _ _ h => y_zFd_R he h))
        (fun k hk => by rw [hds.2 _ _ _ (fun q => by unfold y_zRd at q; omega)]; exact hv k hk)
        (fun k hk => by rw [hcs.2 _ _ _ (fun q => by unfold y_zR at q; omega), hds.2 _ _ _ (fun q => by unfold y_zRd at q; omega)]; exact hC k hk)
        t3 t4 (fun h => by omega) (fun j hj => hcs.2 _ _ _ (fun q => by unfold y_zR at q; omega)) (y_sm_mono hcs (fun k w p h => .inr (.inr h))) (y_sm_mono hds (fun k w p h => .inr (.inr h)))
      refine ⟨c', d', n', ?_, ?_, s3⟩
      · rw [e_X5_hold, c2, a1.1, hl7]
        simp (disch := omega) only [i_lit, i_ofNat, i_add, i_mul, i_sub, i_addn, i_subm, y_nsm, i_le, i_lt, i_nat, i_eq, i_div, i_nle, i_nlt, i_len, i_ltn, i_neq, i_eqn, i_and1, i_and63, i_and255, b8_sx, ob_some, if_true, if_false, and_self, true_and, if_pos, if_neg, b1]
        rw [g1, ob_some, e_X5_takeHeld, i_lit, t1, ob_some]
        simp (disch := omega) only [i_lit, i_ofNat, i_add, i_mul, i_sub, i_addn, i_subm, y_nsm, i_le, i_lt, i_nat, i_eq, i_div, i_nle, i_nlt, i_len, i_ltn, i_neq, i_eqn, i_and1, i_and63, i_and255, b8_sx, ob_some, if_true, if_false, and_self, true_and, if_pos, if_neg]
        rw [s1, ob_some]
      · simp (disch := omega) only [i_lit, i_ofNat, i_add, i_mul, i_sub, i_addn, i_subm, y_nsm, i_le, i_lt, i_nat, i_eq, i_div, i_nle, i_nlt, i_len, i_ltn, i_neq, i_eqn, i_and1, i_and63, i_and255, b8_sx, ob_some, if_true, if_false, and_self, true_and, if_pos, if_neg, b3]
        rw [← hn1, k1, t2, s2, ob_some]
    · rw [if_neg hsz] at b3
      obtain ⟨h1, c', d', n', s1, s2, s3⟩ := hagain _ _ rfl rfl
      refine ⟨c', d', n', ?_, ?_, s3⟩
      · rw [e_X5_hold, c2, a1.1, hl7]
        simp (disch := omega) only [i_lit, i_ofNat, i_add, i_mul, i_sub, i_addn, i_subm, y_nsm, i_le, i_lt, i_nat, i_eq, i_div, i_nle, i_nlt, i_len, i_ltn, i_neq, i_eqn, i_and1, i_and63, i_and255, b8_sx, ob_some, if_true, if_false, and_self, true_and, if_pos, if_neg, b1, y_tally]
        rw [h1, ob_some]
        simp (disch := omega) only [i_lit, i_ofNat, i_add, i_mul, i_sub, i_addn, i_subm, y_nsm, i_le, i_lt, i_nat, i_eq, i_div, i_nle, i_nlt, i_len, i_ltn, i_neq, i_eqn, i_and1, i_and63, i_and255, b8_sx, ob_some, if_true, if_false, and_self, true_and, if_pos, if_neg]
        rw [s1, ob_some]
      · simp (disch := omega) only [i_lit, i_ofNat, i_add, i_mul, i_sub, i_addn, i_subm, y_nsm, i_le, i_lt, i_nat, i_eq, i_div, i_nle, i_nlt, i_len, i_ltn, i_neq, i_eqn, i_and1, i_and63, i_and255, b8_sx, ob_some, if_true, if_false, and_self, true_and, if_pos, if_neg, b3]
        rw [s2, ob_some]
