/-! noise; a frame is carried -/
theorem y_hearAny (mo sp wi si ti e fi n K B b : Nat) (c d : sl_M) (he : e < 2) (hK : K < 90000) (hE : y_E mo sp wi si ti e fi n K c d) (hC : y_gC c d) (hH : y_H e B c d) (hB : B < 1900000) (hb : b < 256) :
    ∃ c' d' n', f_X1_hear e (sl_i b) (sl_i 0) c = some ((sl_i 0, 0, 0), c') ∧ f_X11_hears (sl_i e) (sl_i b) (sl_i 0) d = some ((sl_i 0, 0, 0), d') ∧
      y_E mo sp wi si ti e fi n' K c' d' ∧ y_gC c' d' ∧ y_H e (B + 1) c' d' ∧ y_sm (y_zIc e) c c' ∧ y_sm (y_zId e) d d' := by
  obtain ⟨nh, x, h1, h2, h3, h4⟩ := hH
  by_cases hb0 : b = 0
  · subst hb0
    obtain ⟨c', d', n', r1, r2, r3, r4, r5, r6, r7, r8, r9, r10⟩ := y_hear0 mo sp wi si ti e fi n K nh 0 0 x c d he hK hE hC h1 (by omega) (by omega) h3 (fun _ => by rw [if_pos rfl]) h4
    exact ⟨c', d', n', r1, r2, r3, r4, ⟨0, 0, r5, by omega, r6, by omega⟩, r9, r10⟩
  · obtain ⟨c', d', r1, r2, r3, r4, r5, r6, r9, r10, _⟩ := y_hearN mo sp wi si ti e fi n K nh b 0 0 x c d he hE hC h1 (by omega) hb hb0 (by omega) h3
    refine ⟨c', d', n, r1, r2, r3, r4, ⟨nh + 1, 0, r5, by omega, by rw [r6, if_pos rfl], by omega⟩, ?_, ?_⟩
    · exact y_sm_mono r9 (fun k w p h => .inr (by omega))
    · refine y_sm_mono r10 (fun k w p h => ?_)
      by_cases h7 : k = 72
      · exact .inl (.inr (.inr (by omega)))
      · rcases h with h | h
        · exact .inr (.inl (by omega))
        · exact .inr (.inr (.inl h))
theorem y_noise (mo sp wi si ti e fi K : Nat) (v n : Int32) (hK : K < 9000) (he : e < 2) : ∀ r nl B fuel fuel' (c d : sl_M), r ≤ 4 → r < fuel → r < fuel' → B + r < 1900000 → y_E mo sp wi si ti e fi nl K c d → y_gC c d → y_H e B c d →
    ∃ c' d' n', b_X10_noise_24 fuel v n e (if r = 0 then -(sl_i 1) else sl_i (r - 1)) c = some ((n, 0, 0), c') ∧ b_X11_noise_27 fuel' (sl_i e) v n (if r = 0 then -(sl_i 1) else sl_i (r - 1)) d = some ((n, 0, 0), d') ∧
      y_E mo sp wi si ti e fi n' K c' d' ∧ y_gC c' d' ∧ y_H e (B + r) c' d' ∧ y_sm (y_zIc e) c c' ∧ y_sm (y_zId e) d d' := by
  intro r
  induction r with
  | zero =>
    intro nl B fuel fuel' c d hr hf hf' hB hE hC hH
    obtain ⟨f2, rfl⟩ : ∃ f2, fuel = f2 + 1 := ⟨fuel - 1, by omega⟩
    obtain ⟨f3, rfl⟩ : ∃ f3, fuel' = f3 + 1 := ⟨fuel' - 1, by omega⟩
    refine ⟨c, d, nl, ?_, ?_, hE, hC, hH, y_sm_refl _ _, y_sm_refl _ _⟩
    · rw [if_pos rfl, e_X10_noise_24]
      simp (disch := omega) only [i_litN, i_ofNat, i_add, i_mul, i_sub, i_addn, i_subm, y_nsm, i_le, i_lt, i_nat, i_eq, i_div, i_nle, i_nlt, i_len, i_ltn, i_neq, i_eqn, i_and1, i_and63, i_and255, b8_sx, ob_some, if_true, if_false, and_self, true_and, if_pos, if_neg]
    · rw [if_pos rfl, e_X11_noise_27]
      simp (disch := omega) only [i_litN, i_ofNat, i_add, i_mul, i_sub, i_addn, i_subm, y_nsm, i_le, i_lt, i_nat, i_eq, i_div, i_nle, i_nlt, i_len, i_ltn, i_neq, i_eqn, i_and1, i_and63, i_and255, b8_sx, ob_some, if_true, if_false, and_self, true_and, if_pos, if_neg]
  | succ r ih =>
    intro nl B fuel fuel' c d hr hf hf' hB hE hC hH
    obtain ⟨f2, rfl⟩ : ∃ f2, fuel = f2 + 1 := ⟨fuel - 1, by omega⟩
    obtain ⟨f3, rfl⟩ : ∃ f3, fuel' = f3 + 1 := ⟨fuel' - 1, by omega⟩
    have hs : sl_i r + -(sl_i 1) = (if r = 0 then -(sl_i 1) else sl_i (r - 1)) := by
      by_cases h3 : r = 0
      · rw [if_pos h3, h3]; exact Int32.zero_add _
      · rw [if_neg h3, i_addn (by omega)]
    have hb2 : sl_b8 (v >>> (sl_i (8 * r) &&& sl_i 31)) = sl_b8 (sl_ush v (sl_i (8 * r))) := by rw [b8_shr _ (by omega), b8_ush _ (by omega)]
    obtain ⟨c1, d1, n1, r1, r2, r3, r4, r5, r6, r7⟩ := y_hearAny mo sp wi si ti e fi nl K B (sl_b8 (sl_ush v (sl_i (8 * r)))) c d he (by omega) hE hC hH (by omega) (b8_lt _)
    obtain ⟨c', d', n', s1, s2, s3, s4, s5, s6, s7⟩ := ih n1 (B + 1) f2 f3 c1 d1 (by omega) (by omega) (by omega) (by omega) r3 r4 r5
    refine ⟨c', d', n', ?_, ?_, s3, s4, by rw [show B + (r + 1) = B + 1 + r by omega]; exact s5, y_sm_tr r6 s6 (fun _ _ _ h => h) (fun _ _ _ h => h), y_sm_tr r7 s7 (fun _ _ _ h => h) (fun _ _ _ h => h)⟩
    · rw [if_neg (by omega), e_X10_noise_24, show r + 1 - 1 = r from rfl]
      simp (disch := omega) only [i_litN, i_lt, i_mul, if_neg, i_and255]
      rw [r1, ob_some, hs]; exact s1
    · rw [if_neg (by omega), e_X11_noise_27, show r + 1 - 1 = r from rfl]
      simp (disch := omega) only [i_litN, i_lt, i_mul, if_neg, i_and255]
      rw [hb2, r2, ob_some, hs]; exact s2
/-- R again, when one end has heard -/
theorem y_R_heard {mo sp wi si ti e K : Nat} {c d c' d' : sl_M} (he : e < 2) (hT : y_gT c d) (ho : ∀ o, o < 2 → (∃ fi n, y_E mo sp wi si ti o fi n K c d) ∧ y_H o (100 * K) c d) (hC : y_gC c' d') {fi n : Nat} (hE : y_E mo sp wi si ti e fi n K c' d')
    (hH : y_H e (100 * (K + 1)) c' d') (hc : y_sm (y_zIc e) c c') (hd : y_sm (y_zId e) d d') : y_R (K + 1) c' d' := by
  refine ⟨mo, sp, wi, si, ti, hC, y_othT he hT hc hd, fun o hoo => ?_⟩
  by_cases hoe : o = e
  · subst hoe; exact ⟨⟨fi, n, y_E_K hE (by omega)⟩, hH⟩
  · obtain ⟨⟨f1, n1, h1⟩, h2⟩ := ho o hoo
    obtain ⟨q1, nh, x, q2, q3, q4⟩ := y_oth he hoo hoe h1 h2 hc hd
    exact ⟨⟨f1, n1, y_E_K q1 (by omega)⟩, nh, x, q2, by omega, q4⟩
theorem q_noise (K : Nat) (a v n : Int32) (c d : sl_M) (hK : K < 9000) (h : y_R K c d) : y_Q K c d (f_X10_noise a v n c) (f_X11_noise a v n d) := by
  by_cases ha : a = sl_i 0 ∨ a = sl_i 1
  · obtain ⟨e, he, rfl⟩ : ∃ e, e < 2 ∧ a = sl_i e := by rcases ha with h | h; exact ⟨0, by omega, h⟩; exact ⟨1, by omega, h⟩
    have hR := h
    rw [e_X10_noise, y_endAt c he, ob_some, e_X11_noise, y_isOutNo d he, ob_some]
    simp (disch := omega) only [i_litN, i_ofNat, i_add, i_mul, i_sub, i_addn, i_subm, y_nsm, i_le, i_lt, i_nat, i_eq, i_div, i_nle, i_nlt, i_len, i_ltn, i_neq, i_eqn, i_and1, i_and63, i_and255, b8_sx, ob_some, if_true, if_false, and_self, true_and, if_pos, if_neg]
    by_cases hn1 : n < sl_i 1
    · rw [if_pos hn1, if_pos hn1]; exact y_Qr hR rfl rfl
    · rw [if_neg hn1, if_neg hn1]
      by_cases hn4 : n ≤ sl_i 4
      · rw [if_pos hn4, if_pos hn4]
        obtain ⟨k, hk, rfl⟩ := y_nn n (fun q => hn1 (Int32.lt_trans q (by decide)))
        rw [i_lt hk (by omega)] at hn1
        rw [i_le hk (by omega)] at hn4
        obtain ⟨mo, sp, wi, si, ti, hC, hT, hE⟩ := y_R_thr (x := sl_i 0) hR
        obtain ⟨⟨fi, nl, hE1⟩, hH⟩ := hE e he
        obtain ⟨c', d', n', s1, s2, s3, s4, s5, s6, s7⟩ := y_noise mo sp wi si ti e fi K v (sl_i k) hK he k nl (100 * K) 99999 99999 c (sl_up d 11 0 0 (sl_i 0)) (by omega) (by omega) (by omega) (by omega) hE1 hC hH
        rw [if_neg (by omega)] at s1 s2
        rw [i_sub (by omega)]
        refine y_Qok (a := sl_i k) (y_R_heard he hT hE s4 s3 ?_ s6 s7) (y_sm_mono s6 (fun k w p q => (y_zIc0 he q).1)) (y_sm_tr (y_zTm' (y_thr d _)) s7 (fun _ _ _ q => q) (fun k w p q => (y_zId0 he q).1)) s1 s2 ?_
        · obtain ⟨nh, x, q1, q2, q3⟩ := s5
          exact ⟨nh, x, q1, by omega, q3⟩
        · rw [s7.2 _ _ _ (fun q => (y_zId0 he q).2.1 rfl), up_eq rfl rfl rfl]
      · rw [if_neg hn4, if_neg hn4]; exact y_Qr hR rfl rfl
  · have h0 : a ≠ sl_i 0 := fun q => ha (.inl q)
    have h1 : a ≠ sl_i 1 := fun q => ha (.inr q)
    refine y_QX (b := -(sl_i 1)) h ?_ ?_
    · rw [e_X10_noise, y_endNo c a h0 h1, ob_some, if_pos rfl]; rfl
    · rw [e_X11_noise, y_isOutYes d a h0 h1, ob_some]
      simp (disch := omega) only [i_litN, i_ofNat, i_add, i_mul, i_sub, i_addn, i_subm, y_nsm, i_le, i_lt, i_nat, i_eq, i_div, i_nle, i_nlt, i_len, i_ltn, i_neq, i_eqn, i_and1, i_and63, i_and255, b8_sx, ob_some, if_true, if_false, and_self, true_and, if_pos, if_neg]
/-! the frame leaves -/
theorem y_leave15 (l s fi n len f : Nat) (hl : l < 2) (hs : s ≤ 1) (hf : f = 40 * l + fi) (hfi : fi < 40) (hn : n ≤ 40) (hn1 : 1 ≤ n) (hlen : len ≤ 67) : ∀ r i fuel (d : sl_M), i + r = len → d.1 62 0 l = sl_i fi → d.1 63 0 l = sl_i n → d.1 64 0 f = sl_i len →
    ∃ d1, b_X11_leaves_15 (fuel + r + 1) (sl_i l) (sl_i s) (sl_i f) (sl_i i) d = some ((sl_i len, 0, 0), if s = 0 then sl_up (sl_up d1 62 0 l (sl_i ((fi + 1) % 40))) 63 0 l (sl_i (n - 1)) else d1) ∧
      (∀ j, i ≤ j → j < len → y_mb d1 10 j = y_mb d 7 (80 * f + j)) ∧ y_sm (fun k w p => k = 30 ∧ w = 10 ∧ i ≤ p) d d1 := by
  intro r
  induction r with
  | zero =>
    intro i fuel d hi h62 h63 h64
    have : i = len := by omega
    subst this
    refine ⟨d, ?_, fun j _ _ => by omega, y_sm_refl _ _⟩
    rw [e_X11_leaves_15]
    simp (disch := omega) only [i_litN, i_ofNat, i_add, i_mul, i_sub, i_addn, i_subm, y_nsm, i_le, i_lt, i_nat, i_eq, i_div, i_nle, i_nlt, i_len, i_ltn, i_neq, i_eqn, i_and1, i_and63, i_and255, b8_sx, ob_some, if_true, if_false, and_self, true_and, if_pos, if_neg, h64, h62, h63]
    by_cases h : s = 0
    · rw [if_pos h, if_pos h]
    · rw [if_neg h, if_neg h]
  | succ r ih =>
    intro i fuel d hi h62 h63 h64
    obtain ⟨d1, g1, g2, g3⟩ := ih (i + 1) fuel (sl_up d 30 10 i (sl_sx (d.1 30 7 (80 * f + i)))) (by omega) (by rw [up_ne (by omega)]; exact h62) (by rw [up_ne (by omega)]; exact h63) (by rw [up_ne (by omega)]; exact h64)
    refine ⟨d1, ?_, ?_, ?_⟩
    · rw [show fuel + (r + 1) + 1 = fuel + r + 1 + 1 from rfl, e_X11_leaves_15]
      simp (disch := omega) only [i_litN, i_ofNat, i_add, i_mul, i_sub, i_addn, i_subm, y_nsm, i_le, i_lt, i_nat, i_eq, i_div, i_nle, i_nlt, i_len, i_ltn, i_neq, i_eqn, i_and1, i_and63, i_and255, b8_sx, ob_some, if_true, if_false, and_self, true_and, if_pos, if_neg, h64]
      exact g1
    · intro j hj hj2
      by_cases hji : j = i
      · subst hji; rw [y_sm_mb g3 (by omega), y_mb_up rfl rfl]; rfl
      · rw [g2 j (by omega) hj2, y_mb_ne (by omega)]
    · exact ⟨g3.1, fun k w p h => by rw [g3.2 k w p (by omega), up_ne (by omega)]⟩
theorem y_leave (l s fi n len f : Nat) (d : sl_M) (hl : l < 2) (hs : s ≤ 1) (hf : f = 40 * l + fi) (hfi : fi < 40) (hn : n ≤ 40) (hn1 : 1 ≤ n) (hlen : len ≤ 67) (h62 : d.1 62 0 l = sl_i fi) (h63 : d.1 63 0 l = sl_i n) (h64 : d.1 64 0 f = sl_i len) :
    ∃ d1 d2, f_X11_leaves (sl_i l) (sl_i s) d = some ((sl_i len, 0, 0), d2) ∧ d2 = (if s = 0 then sl_up (sl_up d1 62 0 l (sl_i ((fi + 1) % 40))) 63 0 l (sl_i (n - 1)) else d1) ∧
      (∀ j, j < len → y_mb d2 10 j = y_mb d 7 (80 * f + j)) ∧ y_sm (fun k w p => k = 30 ∧ w = 10) d d1 ∧ y_sm (fun k w p => (k = 30 ∧ w = 10) ∨ ((k = 62 ∨ k = 63) ∧ w = 0 ∧ p = l)) d d2 := by
  obtain ⟨d1, g1, g2, g3⟩ := y_leave15 l s fi n len f hl hs hf hfi hn hn1 hlen len 0 (99998 - len) d (by omega) h62 h63 h64
  rw [show 99998 - len + len + 1 = 99999 by omega] at g1
  have g3 := y_sm_mono (U := fun k w p => k = 30 ∧ w = 10) g3 (fun k w p h => ⟨h.1, h.2.1⟩)
  refine ⟨d1, _, ?_, rfl, ?_, g3, ?_⟩
  · rw [e_X11_leaves]
    simp (disch := omega) only [i_litN, i_ofNat, i_add, i_mul, i_sub, i_addn, i_subm, y_nsm, i_le, i_lt, i_nat, i_eq, i_div, i_nle, i_nlt, i_len, i_ltn, i_neq, i_eqn, i_and1, i_and63, i_and255, b8_sx, ob_some, if_true, if_false, and_self, true_and, if_pos, if_neg, h62]
    rw [← hf]; exact g1
  · intro j hj
    split
    · rw [y_mb_ne (by omega), y_mb_ne (by omega)]; exact g2 j (by omega) hj
    · exact g2 j (by omega) hj
  · split
    · exact ⟨by rw [up_2, up_2, g3.1], fun k w p h => by rw [up_ne (by omega), up_ne (by omega), g3.2 _ _ _ (by omega)]⟩
    · exact y_sm_mono g3 (fun k w p h => .inl h)
/-- the lane that a frame has left -/
theorem y_dropE {mo sp wi si ti l fi n K : Nat} {c d c' d' : sl_M} {S T : Nat → Nat → Nat → Prop} (hl : l < 2) (h : y_E mo sp wi si ti l fi n K c d) (hn1 : 1 ≤ n) (hc : y_sm S c c') (hd : y_sm T d d')
    (hS : ∀ k w p, y_zS l k w p → k ≠ 4 → ¬ S k w p) (hT : ∀ k w p, y_zSd l k w p → k ≠ 62 → k ≠ 63 → ¬ T k w p)
    (h3 : c'.1 4 l 3 = sl_i ((fi + 1) % 40)) (h4 : c'.1 4 l 4 = sl_i (n - 1)) (h62 : d'.1 62 0 l = sl_i ((fi + 1) % 40)) (h63 : d'.1 63 0 l = sl_i (n - 1)) : y_E mo sp wi si ti l ((fi + 1) % 40) (n - 1) K c' d' := by
  obtain ⟨q1, ⟨l1, l2, l3, l4⟩, q3, q4, q5⟩ := h
  have hS2 := q1
  obtain ⟨_, _, hmo, hsp2, hsp64, hw1, hwA, hwB, hsi1, hsi60, hti1, hti50⟩ := hS2
  have hm := Nat.mod_lt (fi + 1) (show 0 < 40 by decide)
  have e1 : ∀ k w p, y_zS l k w p → k ≠ 4 → c'.1 k w p = c.1 k w p := fun k w p a b => hc.2 _ _ _ (hS k w p a b)
  have e2 : ∀ k w p, y_zSd l k w p → k ≠ 62 → k ≠ 63 → d'.1 k w p = d.1 k w p := fun k w p a b b2 => hd.2 _ _ _ (hT k w p a b b2)
  refine ⟨?_, ⟨⟨h3, h62, hm⟩, ⟨h4, h63, by omega⟩, ?_, ?_⟩, ?_, ?_, ?_⟩
  · exact y_gS_cong q1 (fun p => e1 _ _ _ (.inl rfl) (by omega)) (fun p a _ => e2 _ _ _ (.inl ⟨rfl, a⟩) (by omega) (by omega))
  · intro j hj
    rw [e1 _ _ _ (.inr (.inl (by unfold y_zF; omega))) (by omega)]
    have := l3 (j + 1) (by omega)
    rw [show (fi + (j + 1)) % 40 = ((fi + 1) % 40 + j) % 40 by omega] at this
    exact this
  · intro j hj
    refine y_fr_cong (l4 j hj) (e1 _ _ _ (.inr (.inl (by unfold y_zF; omega))) (by omega)) (fun p => e1 _ _ _ (.inr (.inl (by unfold y_zF; omega))) (by omega)) (fun p => e1 _ _ _ (.inr (.inl (by unfold y_zF; omega))) (by omega)) ?_ ?_
    · intro k hk; exact e2 _ _ _ (.inr (.inr (.inl (by unfold y_zFd; omega)))) (by omega) (by omega)
    · intro i hi; exact e2 _ _ _ (.inr (.inr (.inl (by unfold y_zFd; omega)))) (by omega) (by omega)
  · intro k hk; rw [e2 _ _ _ (.inr (.inl rfl)) (by omega) (by omega)]; exact q3 k hk
  · exact y_gP_cong q4 hl hc hd (fun k w p a => hS _ _ _ (.inr (.inr (.inl a))) (by unfold y_zP at a; omega)) (fun k w p a => hT _ _ _ (.inr (.inr (.inr (.inl a)))) (by unfold y_zPd at a; omega) (by unfold y_zPd at a; omega))
  · exact y_gR_cong q5 hl hsp64 (by omega) hsi60 hc hd (fun k w p a => hS _ _ _ (.inr (.inr (.inr a))) (by unfold y_zR at a; omega)) (fun k w p a => hT _ _ _ (.inr (.inr (.inr (.inr a)))) (by unfold y_zRd at a; omega) (by unfold y_zRd at a; omega))
