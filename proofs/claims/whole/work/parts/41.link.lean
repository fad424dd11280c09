/-! tick, open, and the calls that read -/
theorem y_tick_c {e k w p : Nat} (h : y_zLc e k w p ∨ y_zP e k w p) : y_zIc e k w p := by
  rcases h with h | h
  · exact .inl (.inl (.inr (.inl h)))
  · exact .inl (.inl (.inr (.inr (.inl h))))
theorem y_tick_d {e k w p : Nat} (h : y_zLd e k w p ∨ y_zPd e k w p) : y_zId e k w p := by
  rcases h with h | h
  · exact .inl (.inl (.inr (.inl h)))
  · exact .inl (.inl (.inr (.inr (.inl h))))
theorem y_zIc0 {e k w p : Nat} (he : e < 2) (h : y_zIc e k w p) : y_zc k w p ∧ ¬ y_zT k w p ∧ k ≠ 8 := by
  unfold y_zIc y_zBc y_zTc y_zLc y_zF y_zP y_zR at h; unfold y_zc y_zT; omega
theorem y_zId0 {e k w p : Nat} (he : e < 2) (h : y_zId e k w p) : y_zm k w p ∧ k ≠ 11 ∧ k ≠ 50 ∧ ¬ (k = 30 ∧ w ≤ 1) ∧ ¬ (k = 30 ∧ w = 10) := by
  unfold y_zId y_zBd y_zTd y_zLd y_zFd y_zPd y_zRd at h; unfold y_zm; omega
/-- the other end, when one end has heard -/
theorem y_oth {mo sp wi si ti e o fi n K B : Nat} {c d c' d' : sl_M} (he : e < 2) (ho : o < 2) (hne : o ≠ e) (hE : y_E mo sp wi si ti o fi n K c d) (hH : y_H o B c d) (hc : y_sm (y_zIc e) c c') (hd : y_sm (y_zId e) d d') :
    y_E mo sp wi si ti o fi n K c' d' ∧ y_H o B c' d' := by
  refine ⟨y_E_cong hE ho hc hd (fun k w p h => y_zI_S he ho hne h) (fun k w p h => y_zI_Sd he ho hne h), y_H_cong hH (Nat.le_refl _) hc hd ?_ ?_⟩
  · intro k w p q r
    unfold y_zIc y_zBc y_zTc y_zLc y_zF y_zP y_zR at r; omega
  · intro k w p q r
    unfold y_zId y_zBd y_zTd y_zLd y_zFd y_zPd y_zRd at r; omega
theorem y_othT {e : Nat} {c d c' d' : sl_M} (he : e < 2) (hT : y_gT c d) (hc : y_sm (y_zIc e) c c') (hd : y_sm (y_zId e) d d') : y_gT c' d' :=
  y_gT_cong hT hc hd (fun k w p q r => (y_zIc0 he r).2.1 q) (fun k w p q r => by have := y_zId0 he r; omega)
/-- one end ticks; both ends' parts go on -/
theorem y_tick1 (mo sp wi si ti e o fi n fo no K Ko B Bo : Nat) (c d : sl_M) (he : e < 2) (ho : o < 2) (hne : o ≠ e) (hK : K < 80000) (hE : y_E mo sp wi si ti e fi n K c d) (hH : y_H e B c d) (hEo : y_E mo sp wi si ti o fo no Ko c d) (hHo : y_H o Bo c d) (h3 : y_g3 c d) (hT : y_gT c d) :
    ∃ c' d' a n' fi', f_X7_passTick e c = some ((sl_i a, 0, 0), c') ∧ f_X11_tickOf (sl_i e) d = some ((sl_i 0, 0, 0), d') ∧ y_E mo sp wi si ti e fi' n' (K + 1) c' d' ∧ y_H e B c' d' ∧ y_E mo sp wi si ti o fo no Ko c' d' ∧ y_H o Bo c' d' ∧
      y_g3 c' d' ∧ y_gT c' d' ∧ d'.1 68 0 0 = d.1 68 0 0 + sl_i a ∧ y_sm (fun k w p => y_zLc e k w p ∨ y_zP e k w p) c c' ∧ y_sm (fun k w p => y_zLd e k w p ∨ y_zPd e k w p) d d' := by
  obtain ⟨e1, e2, e3, e4, e5⟩ := hE
  have hS2 := e1
  obtain ⟨_, _, hmo, hsp2, hsp64, hw1, hwA, hwB, hsi1, hsi60, hti1, hti50⟩ := hS2
  obtain ⟨c', d', a, r1, r2, ⟨fi', n', r3⟩, r4, r5, r6, r7, r8⟩ := y_tickE mo sp wi si ti e K c d he (by omega) e1 ⟨fi, n, e2⟩ e3 h3 e4
  have hcI := y_sm_mono r7 (fun k w p h => y_tick_c h)
  have hdI := y_sm_mono r8 (fun k w p h => y_tick_d h)
  obtain ⟨o1, o2⟩ := y_oth he ho hne hEo hHo hcI hdI
  refine ⟨c', d', a, n', fi', r1, r2, ⟨?_, r3, ?_, r6, ?_⟩, ?_, o1, o2, r4, y_othT he hT hcI hdI, r5, r7, r8⟩
  · exact o1.1
  · exact o1.2.2.1
  · exact y_gR_cong e5 he hsp64 (by omega) hsi60 r7 r8 (fun k w p h q => by rcases q with q | q; exact y_zR_L he h q; unfold y_zR at h; unfold y_zP at q; omega) (fun k w p h q => by rcases q with q | q; exact y_zRd_L he h q; unfold y_zRd at h; unfold y_zPd at q; omega)
  · refine y_H_cong hH (Nat.le_refl _) r7 r8 ?_ ?_
    · intro k w p q r
      unfold y_zLc y_zF y_zP at r; omega
    · intro k w p q r
      unfold y_zLd y_zFd y_zPd at r; omega
theorem y_addsub (x a b : Int32) : x + a + b - x = a + b := by
  rw [Int32.add_assoc, Int32.add_comm x, Int32.add_sub_cancel]
/-- both ends tick, and the tick is counted -/
theorem y_ticks (K : Nat) (c d : sl_M) (hK : K < 70000) (h : y_R K c d) : ∃ c' d' a, f_X10_tickBoth c = some ((a, 0, 0), c') ∧ f_X11_ticks d = some ((a, 0, 0), d') ∧ y_R (K + 1) c' d' ∧ y_sm y_zc c c' ∧ y_sm y_zm d d' ∧ d'.1 11 0 0 = d.1 11 0 0 := by
  obtain ⟨mo, sp, wi, si, ti, hC, hT, hE⟩ := h
  obtain ⟨⟨f0, n0, hE0⟩, hH0⟩ := hE 0 (by omega)
  obtain ⟨⟨f1, n1, hE1⟩, hH1⟩ := hE 1 (by omega)
  have hcs : y_sm (fun k w p => k = 27 ∧ w = 2) c (sl_up c 27 2 9 (c.1 27 2 9 + sl_i 1)) := y_sm_up (y_sm_refl _ _) (fun _ _ _ h => h) (by omega)
  have hE0' := y_E_tally hE0 (by omega) hcs (y_sm_refl _ d)
  have hE1' := y_E_tally hE1 (by omega) hcs (y_sm_refl _ d)
  have hHt : ∀ e, e < 2 → ∀ B, y_H e B c d → y_H e B (sl_up c 27 2 9 (c.1 27 2 9 + sl_i 1)) d := fun e he B hH => y_H_cong (T := fun _ _ _ => False) hH (Nat.le_refl _) hcs (y_sm_refl _ _) (fun k w p q r => by omega) (fun k w p q r => r)
  obtain ⟨c1, d1, a0, m0, g0, r1, r2, r3, r4, r5, r6, r7, r8, r9, r10, r11⟩ := y_tick1 mo sp wi si ti 0 1 f0 n0 f1 n1 K K (100 * K) (100 * K) _ d (by omega) (by omega) (by omega) (by omega) hE0' (hHt 0 (by omega) _ hH0) hE1' (hHt 1 (by omega) _ hH1)
    (fun k hk => by rw [up_ne (by omega)]; exact hC k (by omega))
    (y_gT_cong (T := fun _ _ _ => False) hT hcs (y_sm_refl _ _) (fun k w p q r => by unfold y_zT at q; omega) (fun k w p q r => r))
  obtain ⟨c2, d2, a1, m1, g1, s1, s2, s3, s4, s5, s6, s7, s8, s9, s10, s11⟩ := y_tick1 mo sp wi si ti 1 0 f1 n1 g0 m0 K (K + 1) (100 * K) (100 * K) c1 d1 (by omega) (by omega) (by omega) (by omega) r5 r6 r3 r4 r7 r8
  have hcz : ∀ e, e < 2 → ∀ k w p, y_zLc e k w p ∨ y_zP e k w p → y_zc k w p := fun e he k w p h => (y_zIc0 he (y_tick_c h)).1
  have hdz : ∀ e, e < 2 → ∀ k w p, y_zLd e k w p ∨ y_zPd e k w p → y_zm k w p := fun e he k w p h => (y_zId0 he (y_tick_d h)).1
  have hds2 : y_sm (fun k w p => k = 68 ∧ w = 0) d2 (sl_up d2 68 0 9 (d2.1 68 0 9 + sl_i 1)) := y_sm_up (y_sm_refl _ _) (fun _ _ _ h => h) (by omega)
  have hc27 : ∀ p, 3 ≤ p → c2.1 27 2 p = (sl_up c 27 2 9 (c.1 27 2 9 + sl_i 1)).1 27 2 p := by
    intro p hp
    rw [s10.2 _ _ _ (fun q => by unfold y_zLc y_zF y_zP at q; omega), r10.2 _ _ _ (fun q => by unfold y_zLc y_zF y_zP at q; omega)]
  have hd68 : ∀ p, 3 ≤ p → d2.1 68 0 p = d.1 68 0 p := by
    intro p hp
    rw [s11.2 _ _ _ (fun q => by unfold y_zLd y_zFd y_zPd at q; omega), r11.2 _ _ _ (fun q => by unfold y_zLd y_zFd y_zPd at q; omega)]
  refine ⟨c2, sl_up d2 68 0 9 (d2.1 68 0 9 + sl_i 1), sl_i a0 + sl_i a1, ?_, ?_, ⟨mo, sp, wi, si, ti, ?_, ?_, ?_⟩, ?_, ?_, ?_⟩
  · rw [e_X10_tickBoth]
    simp (disch := omega) only [i_litN, y_tally, ob_some]
    rw [r1, ob_some, s1, ob_some]
  · rw [e_X11_ticks, i_lit0, r2, ob_some, show (1 : Int32) = sl_i 1 from rfl, s2, ob_some, s9, r9, y_addsub]
  · intro k hk
    by_cases h9 : k = 9
    · subst h9
      rw [up_eq rfl rfl rfl, hc27 9 (by omega), up_eq rfl rfl rfl, hd68 9 (by omega), hC 9 (by omega)]
    · rw [up_ne (by omega)]
      by_cases h2 : k ≤ 2
      · exact s7 k h2
      · rw [hc27 k (by omega), up_ne (by omega), hd68 k (by omega)]; exact hC k hk
  · exact y_gT_cong (S := fun _ _ _ => False) s8 (y_sm_refl _ _) hds2 (fun k w p q r => r) (fun k w p q r => by omega)
  · intro e he
    rcases y_e01 he with h | h
    · subst h
      exact ⟨⟨_, _, y_E_tally s5 (by omega) (y_sm_refl _ _) hds2⟩, y_H_cong (S := fun _ _ _ => False) s6 (by omega) (y_sm_refl _ _) hds2 (fun k w p q r => r) (fun k w p q r => by omega)⟩
    · subst h
      exact ⟨⟨_, _, y_E_tally s3 (by omega) (y_sm_refl _ _) hds2⟩, y_H_cong (S := fun _ _ _ => False) s4 (by omega) (y_sm_refl _ _) hds2 (fun k w p q r => r) (fun k w p q r => by omega)⟩
  · exact y_sm_tr (y_sm_tr (U := y_zc) hcs r10 (fun k w p h => by unfold y_zc; omega) (hcz 0 (by omega))) s10 (fun _ _ _ h => h) (hcz 1 (by omega))
  · exact y_sm_tr (y_sm_tr (U := y_zm) r11 s11 (hdz 0 (by omega)) (hdz 1 (by omega))) hds2 (fun _ _ _ h => h) (fun k w p h => by unfold y_zm; omega)
  · rw [up_ne (by omega), s11.2 _ _ _ (fun q => by unfold y_zLd y_zFd y_zPd at q; omega), r11.2 _ _ _ (fun q => by unfold y_zLd y_zFd y_zPd at q; omega)]
theorem q_tick (K : Nat) (c d : sl_M) (hK : K < 70000) (h : y_R K c d) : y_Q K c d (f_X10_tick c) (f_X11_tick d) := by
  obtain ⟨c', d', a, r1, r2, r3, r4, r5, r6⟩ := y_ticks K c (sl_up d 11 0 0 (sl_i 0)) hK (y_R_thr h)
  refine y_Qok (a := a) r3 r4 (y_sm_tr (y_zTm' (y_thr d _)) r5 (fun _ _ _ h => h) (fun _ _ _ h => h)) ?_ ?_ ?_
  · rw [e_X10_tick, r1, ob_some]
  · rw [e_X11_tick]
    simp only [i_litN]
    rw [r2, ob_some]
  · rw [r6, up_eq rfl rfl rfl]
theorem q_count (K : Nat) (a : Int32) (c d : sl_M) (h : y_R K c d) : y_Q K c d (f_X10_count a c) (f_X11_count a d) := by
  have hR := h
  obtain ⟨mo, sp, wi, si, ti, hC, hT, hE⟩ := h
  rw [e_X10_count, e_X9_of, e_X11_count]
  simp only [i_litN]
  by_cases h0 : a < sl_i 0
  · rw [if_pos h0, if_pos h0, ob_some]; exact y_Qr hR rfl rfl
  · rw [if_neg h0, if_neg h0]
    obtain ⟨k, hk, rfl⟩ := y_nn a h0
    simp (disch := omega) only [i_ofNat, i_le, i_lt, i_eq, i_nat]
    by_cases h16 : 16 ≤ k
    · rw [if_pos h16, if_pos (by omega), ob_some]; exact y_Qr hR rfl rfl
    · rw [if_neg h16, if_neg (show ¬ 15 < k by omega)]
      by_cases h10 : k = 10
      · rw [if_pos h10, ob_some, if_pos h10]; exact y_Qr hR rfl rfl
      · rw [if_neg h10, if_neg h10, if_pos (show 0 ≤ k ∧ k < 16 by omega), ob_some, if_pos (show 0 ≤ k ∧ k < 16 by omega)]
        refine y_Qr hR rfl ?_
        rw [hC k (by omega)]
theorem q_line (K : Nat) (a : Int32) (c d : sl_M) (h : y_R K c d) : y_Q K c d (f_X10_line a c) (f_X11_line a d) := by
  by_cases ha : a = sl_i 0 ∨ a = sl_i 1
  · obtain ⟨e, he, rfl⟩ : ∃ e, e < 2 ∧ a = sl_i e := by rcases ha with h | h; exact ⟨0, by omega, h⟩; exact ⟨1, by omega, h⟩
    have hR := h
    obtain ⟨mo, sp, wi, si, ti, hC, hT, hE⟩ := h
    obtain ⟨⟨fi, n, hE1⟩, hH⟩ := hE e he
    have hL := hE1.2.1
    rw [e_X10_line, y_laneAt c he, ob_some, e_X11_line, y_isOutNo d he, ob_some]
    simp (disch := omega) only [i_lit, i_ofNat, i_add, i_mul, i_sub, i_addn, i_subm, y_nsm, i_le, i_lt, i_nat, i_eq, i_div, i_nle, i_nlt, i_len, i_ltn, i_neq, i_eqn, i_and1, i_and63, i_and255, b8_sx, ob_some, if_true, if_false, and_self, true_and, if_pos, if_neg, up_eq, up_ne, hL.2.1.1, hL.2.1.2.1]
    exact y_Qr hR rfl rfl
  · have h0 : a ≠ sl_i 0 := fun q => ha (.inl q)
    have h1 : a ≠ sl_i 1 := fun q => ha (.inr q)
    refine y_QX (b := -(sl_i 1)) h ?_ ?_
    · rw [e_X10_line, y_laneNo c a h0 h1, ob_some, if_pos rfl]; rfl
    · rw [e_X11_line, y_isOutYes d a h0 h1, ob_some]
      simp (disch := omega) only [i_lit, i_ofNat, i_add, i_mul, i_sub, i_addn, i_subm, y_nsm, i_le, i_lt, i_nat, i_eq, i_div, i_nle, i_nlt, i_len, i_ltn, i_neq, i_eqn, i_and1, i_and63, i_and255, b8_sx, ob_some, if_true, if_false, and_self, true_and, if_pos, if_neg]
theorem q_taken (K : Nat) (a i : Int32) (c d : sl_M) (h : y_R K c d) : y_Q K c d (f_X10_taken a i c) (f_X11_taken a i d) := by
  by_cases ha : a = sl_i 0 ∨ a = sl_i 1
  · obtain ⟨e, he, rfl⟩ : ∃ e, e < 2 ∧ a = sl_i e := by rcases ha with h | h; exact ⟨0, by omega, h⟩; exact ⟨1, by omega, h⟩
    have hR := h
    obtain ⟨mo, sp, wi, si, ti, hC, hT, hE⟩ := h
    obtain ⟨⟨fi, n, hE1⟩, hH⟩ := hE e he
    obtain ⟨W, T, ⟨_, a2, _⟩, _⟩ := hE1.2.2.2.2
    have hlr := y_lr6 he
    rw [e_X10_taken, y_endAt c he, ob_some, e_X11_taken, y_isOutNo d he, ob_some]
    simp (disch := omega) only [i_litN, i_ofNat, i_add, i_mul, i_sub, i_addn, i_subm, y_nsm, i_le, i_lt, i_nat, i_eq, i_div, i_nle, i_nlt, i_len, i_ltn, i_neq, i_eqn, i_and1, i_and63, i_and255, b8_sx, ob_some, if_true, if_false, and_self, true_and, if_pos, if_neg, up_eq, up_ne, a2.2.1]
    rw [y_atAny c i a2.1 (by omega)]
    by_cases h0 : i < sl_i 0
    · simp (disch := omega) only [i_litN, i_ofNat, i_add, i_mul, i_sub, i_addn, i_subm, y_nsm, i_le, i_lt, i_nat, i_eq, i_div, i_nle, i_nlt, i_len, i_ltn, i_neq, i_eqn, i_and1, i_and63, i_and255, b8_sx, ob_some, if_true, if_false, and_self, true_and, if_pos, if_neg, if_pos h0]
      exact y_Qr hR rfl rfl
    · obtain ⟨k, hk, rfl⟩ := y_nn i h0
      simp (disch := omega) only [i_litN, i_ofNat, i_add, i_mul, i_sub, i_addn, i_subm, y_nsm, i_le, i_lt, i_nat, i_eq, i_div, i_nle, i_nlt, i_len, i_ltn, i_neq, i_eqn, i_and1, i_and63, i_and255, b8_sx, ob_some, if_true, if_false, and_self, true_and, if_pos, if_neg]
      by_cases hkT : k < T
      · rw [if_pos hkT, if_pos hkT]
        refine y_Qr (a := sl_i (y_rb c (6 + e) k)) hR rfl ?_
        rw [a2.2.2.2 k hkT]; rfl
      · rw [if_neg hkT, if_neg hkT]
        exact y_Qr hR rfl rfl
  · have h0 : a ≠ sl_i 0 := fun q => ha (.inl q)
    have h1 : a ≠ sl_i 1 := fun q => ha (.inr q)
    refine y_QX (b := -(sl_i 1)) h ?_ ?_
    · rw [e_X10_taken, y_endNo c a h0 h1, ob_some, if_pos rfl]; rfl
    · rw [e_X11_taken, y_isOutYes d a h0 h1, ob_some]
      simp (disch := omega) only [i_lit, i_ofNat, i_add, i_mul, i_sub, i_addn, i_subm, y_nsm, i_le, i_lt, i_nat, i_eq, i_div, i_nle, i_nlt, i_len, i_ltn, i_neq, i_eqn, i_and1, i_and63, i_and255, b8_sx, ob_some, if_true, if_false, and_self, true_and, if_pos, if_neg]
