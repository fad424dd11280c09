/-! a frame is brought to an end -/
theorem y_xeq (a : Int32) {ch : Nat} (h : ch < 256) : (a ^^^ sl_i ch = a) = (ch = 0) := by
  apply propext
  constructor
  · intro hx
    have h1 := congrArg (fun z => a ^^^ z) hx
    rw [← Int32.xor_assoc, Int32.xor_self, Int32.zero_xor] at h1
    exact y_isz (a := ch) (b := 0) h1 (by omega) (by omega)
  · intro hx
    subst hx
    exact Int32.xor_zero
theorem y_zI_S {e e2 k w p : Nat} (he : e < 2) (he2 : e2 < 2) (hne : e2 ≠ e) (h : y_zS e2 k w p) : ¬ y_zIc e k w p := fun q => by
  rcases q with q | q | q
  · rcases q with q | q | q
    · rcases q with q | q | q | q
      · have := y_zS0 h he2; omega
      · unfold y_zLc at q; unfold y_zS y_zF y_zP y_zR at h; unfold y_zF at q; omega
      · unfold y_zP at q; unfold y_zS y_zF y_zP y_zR at h; omega
      · unfold y_zR at q; unfold y_zS y_zF y_zP y_zR at h; omega
    · have := y_zS0 h he2; omega
    · have := y_zS0 h he2; omega
  · have := y_zS0 h he2; omega
  · have := y_zS0 h he2; omega
theorem y_zI_Sd {e e2 k w p : Nat} (he : e < 2) (he2 : e2 < 2) (hne : e2 ≠ e) (h : y_zSd e2 k w p) : ¬ y_zId e k w p := fun q => by
  rcases q with q | q | q | q
  · rcases q with q | q | q
    · rcases q with q | q | q | q
      · have := y_zSd0 h he2; omega
      · unfold y_zLd at q; unfold y_zSd y_zFd y_zPd y_zRd at h; unfold y_zFd at q; omega
      · unfold y_zPd at q; unfold y_zSd y_zFd y_zPd y_zRd at h; omega
      · unfold y_zRd at q; unfold y_zSd y_zFd y_zPd y_zRd at h; omega
    · have := y_zSd0 h he2; omega
    · have := y_zSd0 h he2; omega
  · have := y_zSd0 h he2; omega
  · have := y_zSd0 h he2; omega
  · have := y_zSd0 h he2; omega
theorem y_bringL (mo sp wi si ti e fi K f L at' ch n clc : Nat) (va : Int32) (g : Nat → Nat) (he : e < 2) (hK : K < 90000) (hf : f < 40 * e ∨ 40 * e + 40 ≤ f) (hf80 : f < 80) (hL3 : 3 ≤ L) (hL67 : L ≤ 67) (hn : n ≤ L)
    (hg : ∀ j, g j < 256) (hgz : g (L - 1) = 0) (hgn : ∀ j, j + 1 < L → g j ≠ 0) (hch : ch < 256) (hcl1 : clc ≤ 1) (hva : ∀ i, i < n → (sl_i i = va) = (i = at')) (hcf : clc = 1 → ch = 0 ∧ n = L) :
    ∀ k i nl nh x fuel fuel' (c d : sl_M), i + k = n → k < fuel → k < fuel' → y_E mo sp wi si ti e fi nl K c d → y_gC c d → y_gHx e nh c d → nh + k < 2000000 → d.1 72 0 e = sl_i x → x ≤ 1 →
    (clc = 1 → i < n → x = 1) → (clc = 0 → x = 1 → i < n → n < L ∨ (ch ≠ 0 ∧ i ≤ at' ∧ at' < n)) →
    c.1 6 (14 + f) 1 = sl_i L → (∀ j, j < L → y_rb c (14 + f) j = g j) → (∀ j, j < n → y_mb d 10 j = g j) →
    ∃ c' d' nl' nh' x', b_X10_bring_36 fuel f e va (sl_i ch) (sl_i n) (sl_i clc) (sl_i i) c = some ((sl_i 0, 0, 0), c') ∧
      b_X11_moves_30 fuel' (sl_i n) va (sl_i ch) (sl_i e) (sl_i i) d = some ((sl_i 0, 0, 0), d') ∧ y_E mo sp wi si ti e fi nl' K c' d' ∧ y_gC c' d' ∧ y_gHx e nh' c' d' ∧ nh' ≤ nh + k ∧ d'.1 72 0 e = sl_i x' ∧ x' ≤ 1 ∧
      y_sm (y_zIc e) c c' ∧ y_sm (y_zId e) d d' ∧
      (ch = 0 → n = L → i < n → y_grow e fi nl nl' c c' ∧ nh' = 0 ∧ ((nh = i ∧ ∀ j, j < i → y_rb c (10 + e) j = g j) → 2 ≤ g 0 → 64 ≤ g 1 → g 1 < 128 → nl' = nl)) := by
  have hlr := y_lr14 f
  intro k
  induction k with
  | zero =>
    intro i nl nh x fuel fuel' c d hi hf1 hf2 hE hC hH hnh h72 hx hc1 hc0 hl hr hm
    obtain ⟨f2, rfl⟩ : ∃ f2, fuel = f2 + 1 := ⟨fuel - 1, by omega⟩
    obtain ⟨f3, rfl⟩ : ∃ f3, fuel' = f3 + 1 := ⟨fuel' - 1, by omega⟩
    refine ⟨c, d, nl, nh, x, ?_, ?_, hE, hC, hH, by omega, h72, hx, y_sm_refl _ _, y_sm_refl _ _, fun _ _ h => by omega⟩
    · rw [e_X10_bring_36]
      simp (disch := omega) only [i_lit, i_ofNat, i_add, i_mul, i_sub, i_addn, i_subm, y_nsm, i_le, i_lt, i_nat, i_eq, i_div, i_nle, i_nlt, i_len, i_ltn, i_neq, i_eqn, i_and1, i_and63, i_and255, b8_sx, ob_some, if_true, if_false, and_self, true_and, if_pos, if_neg]
    · rw [e_X11_moves_30]
      simp (disch := omega) only [i_lit, i_ofNat, i_add, i_mul, i_sub, i_addn, i_subm, y_nsm, i_le, i_lt, i_nat, i_eq, i_div, i_nle, i_nlt, i_len, i_ltn, i_neq, i_eqn, i_and1, i_and63, i_and255, b8_sx, ob_some, if_true, if_false, and_self, true_and, if_pos, if_neg]
  | succ k ih =>
    intro i nl nh x fuel fuel' c d hi hf1 hf2 hE hC hH hnh h72 hx hc1 hc0 hl hr hm
    obtain ⟨f2, rfl⟩ : ∃ f2, fuel = f2 + 1 := ⟨fuel - 1, by omega⟩
    obtain ⟨f3, rfl⟩ : ∃ f3, fuel' = f3 + 1 := ⟨fuel' - 1, by omega⟩
    have hgi := hg i
    obtain ⟨b, hb⟩ : ∃ b, b = (if i = at' then g i ^^^ ch else g i) := ⟨_, rfl⟩
    obtain ⟨by0, hby⟩ : ∃ by0, by0 = (if x = 0 then 0 else if i = at' then (if ch = 0 then 1 else 0) else 1) := ⟨_, rfl⟩
    have hb256 : b < 256 := by
      rw [hb]; split
      · exact Nat.xor_lt_two_pow (n := 8) hgi hch
      · exact hgi
    have hby1 : by0 ≤ 1 := by rw [hby]; split; omega; split; split; omega; omega; omega
    have hcS : b_X10_bring_36 (f2 + 1) f e va (sl_i ch) (sl_i n) (sl_i clc) (sl_i i) c = (f_X1_hear e (sl_i b) (sl_i clc) c).bind (fun q2 => b_X10_bring_36 f2 f e va (sl_i ch) (sl_i n) (sl_i clc) (sl_i (i + 1)) q2.2) := by
      rw [e_X10_bring_36]
      simp (disch := omega) only [i_lit, i_le, if_neg]
      rw [y_at c hl (by omega) (by omega), hr i (by omega), ob_some]
      simp (disch := omega) only [hva, i_add, i_xor]
      by_cases ha : i = at'
      · rw [if_pos ha]; rw [if_pos ha] at hb; rw [hb]
      · rw [if_neg ha]; rw [if_neg ha] at hb; rw [hb]
    have hmi : sl_b8 (d.1 30 10 i) = g i := hm i (by omega)
    have hdS : b_X11_moves_30 (f3 + 1) (sl_i n) va (sl_i ch) (sl_i e) (sl_i i) d = (f_X11_hears (sl_i e) (sl_i b) (sl_i by0) d).bind (fun q2 => b_X11_moves_30 f3 (sl_i n) va (sl_i ch) (sl_i e) (sl_i (i + 1)) q2.2) := by
      rw [e_X11_moves_30]
      simp (disch := omega) only [i_lit, i_ofNat, i_add, i_mul, i_sub, i_addn, i_subm, y_nsm, i_le, i_lt, i_nat, i_eq, i_div, i_nle, i_nlt, i_len, i_ltn, i_neq, i_eqn, i_and1, i_and63, i_and255, b8_sx, ob_some, if_true, if_false, and_self, true_and, if_pos, if_neg, hva, h72, y_xeq, b8_xor, b8_i, hmi]
      rw [Nat.mod_eq_of_lt hch]
      by_cases hx0 : x = 0
      · subst hx0
        rw [if_pos rfl] at hby
        subst hby
        by_cases ha : i = at'
        · rw [if_pos ha]; rw [if_pos ha] at hb; rw [hb]
          rw [if_pos (show 0 % 2 = 0 from rfl)]
        · rw [if_neg ha]; rw [if_neg ha] at hb; rw [hb]
          rw [if_pos (show 0 % 2 = 0 from rfl)]
      · rw [if_neg hx0] at hby
        by_cases ha : i = at'
        · rw [if_pos ha]; rw [if_pos ha] at hb hby; rw [hb]
          simp (disch := omega) only [if_neg]
          by_cases hc : ch = 0
          · rw [if_pos hc]; rw [if_pos hc] at hby; rw [hby]
          · rw [if_neg hc]; rw [if_neg hc] at hby; rw [hby]
        · rw [if_neg ha]; rw [if_neg ha] at hb hby; rw [hb, hby]
          simp (disch := omega) only [if_neg]
    rw [hcS, hdS]
    by_cases hb0 : b = 0
    · -- a 0
      have hcl2 : clc = (if by0 = 0 then 0 else x) := by
        rcases (show clc = 0 ∨ clc = 1 by omega) with h | h
        · have h0 := hc0 h
          by_cases hy : by0 = 0
          · rw [if_pos hy, h]
          · rw [if_neg hy, h]
            by_cases hx1 : x = 0
            · exact hx1.symm
            · exfalso
              rw [if_neg hx1] at hby
              have hh := h0 (by omega) (by omega)
              by_cases ha : i = at'
              · rw [if_pos ha] at hby hb
                by_cases hc : ch = 0
                · subst hc
                  rw [Nat.xor_zero] at hb
                  rcases hh with hh | hh
                  · exact hgn i (by omega) (by omega)
                  · omega
                · rw [if_neg hc] at hby; exact hy hby
              · rw [if_neg ha] at hb
                rcases hh with hh | hh
                · exact hgn i (by omega) (by omega)
                · exact hgn i (by omega) (by omega)
        · have h1 := hc1 h (by omega)
          have h2 := hcf h
          rw [h1, if_neg (by omega)] at hby
          have : by0 = 1 := by
            rw [hby]; split
            · rw [if_pos h2.1]
            · rfl
          rw [this, if_neg (by omega), h, h1]
      obtain ⟨c1, d1, n1, r1, r2, r3, r4, r5, r6, r7, r8, r9, r10⟩ := y_hear0 mo sp wi si ti e fi nl K nh clc by0 x c d he hK hE hC hH (by omega) hby1 h72 (fun _ => hcl2) hx
      have hrow : ∀ q, 14 + f = q → ∀ k p, (k = 20 ∨ (k = 6 ∧ p = 1)) → ¬ y_zIc e k q p := by
        intro q hq k p hk h
        unfold y_zIc y_zBc y_zTc y_zLc y_zF y_zP y_zR at h
        omega
      have hmov : ∀ p, ¬ y_zId e 30 10 p := by
        intro p h
        unfold y_zId y_zBd y_zTd y_zLd y_zFd y_zPd y_zRd at h
        omega
      obtain ⟨c', d', nl', nh', x', s1, s2, s3, s4, s5, s6, s7, s8, s9, s10, s11⟩ := ih (i + 1) n1 0 0 f2 f3 c1 d1 (by omega) (by omega) (by omega) r3 r4 r5 (by omega) r6 (by omega)
        (fun h hin => by
          exfalso
          have h2 := hcf h
          rw [h2.1, Nat.xor_zero, ite_self] at hb
          exact hgn i (by omega) (by omega))
        (fun _ h _ => by omega)
        (by rw [r9.2 _ _ _ (hrow _ rfl 6 1 (.inr ⟨rfl, rfl⟩))]; exact hl) (fun j hj => by rw [y_sm_rb r9 (hrow _ rfl 20 j (.inl rfl))]; exact hr j hj) (fun j hj => by rw [y_sm_mb r10 (hmov j)]; exact hm j hj)
      refine ⟨c', d', nl', nh', x', ?_, ?_, s3, s4, s5, by omega, s7, s8, y_sm_tr r9 s9 (fun _ _ _ h => h) (fun _ _ _ h => h), y_sm_tr r10 s10 (fun _ _ _ h => h) (fun _ _ _ h => h), ?_⟩
      · rw [hb0, r1, ob_some]; exact s1
      · rw [hb0, r2, ob_some]; exact s2
      · intro h1 h2 h3
        have hiL : i = L - 1 := by
          by_cases hq : i + 1 < L
          · exfalso
            rw [h1, Nat.xor_zero, ite_self] at hb
            exact hgn i hq (by omega)
          · omega
        have hk0 : k = 0 := by omega
        subst hk0
        obtain ⟨f4, rfl⟩ : ∃ f4, f2 = f4 + 1 := ⟨f2 - 1, by omega⟩
        obtain ⟨f5, rfl⟩ : ∃ f5, f3 = f5 + 1 := ⟨f3 - 1, by omega⟩
        rw [e_X10_bring_36] at s1
        simp (disch := omega) only [i_lit, i_ofNat, i_add, i_mul, i_sub, i_addn, i_subm, y_nsm, i_le, i_lt, i_nat, i_eq, i_div, i_nle, i_nlt, i_len, i_ltn, i_neq, i_eqn, i_and1, i_and63, i_and255, b8_sx, ob_some, if_true, if_false, and_self, true_and, if_pos, if_neg] at s1
        have hcc : c1 = c' := congrArg (fun z => z.2) (Option.some.inj s1)
        rw [e_X11_moves_30] at s2
        simp (disch := omega) only [i_lit, i_ofNat, i_add, i_mul, i_sub, i_addn, i_subm, y_nsm, i_le, i_lt, i_nat, i_eq, i_div, i_nle, i_nlt, i_len, i_ltn, i_neq, i_eqn, i_and1, i_and63, i_and255, b8_sx, ob_some, if_true, if_false, and_self, true_and, if_pos, if_neg] at s2
        have hdd : d1 = d' := congrArg (fun z => z.2) (Option.some.inj s2)
        subst hcc; subst hdd
        have hnn : nl' = n1 := by
          have e1 := s3.2.1.2.1.1
          have e2 := r3.2.1.2.1.1
          rw [e1] at e2
          have b1 := s3.2.1.2.1.2.2
          have b2 := r3.2.1.2.1.2.2
          exact y_isz e2 (by omega) (by omega)
        subst hnn
        refine ⟨r7, by omega, fun hk h2' h64 h128 => ?_⟩
        have q0 := hk.2 0 (by omega)
        have q1 := hk.2 1 (by omega)
        exact r8 (by omega) (by omega) (by omega)
    · -- not a 0
      obtain ⟨c1, d1, r1, r2, r3, r4, r5, r6, r9, r10, r11⟩ := y_hearN mo sp wi si ti e fi nl K nh b clc by0 x c d he hE hC hH (by omega) hb256 hb0 hby1 h72
      obtain ⟨c', d', nl', nh', x', s1, s2, s3, s4, s5, s6, s7, s8, s9, s10, s11⟩ := ih (i + 1) nl (nh + 1) (if by0 = 0 then 0 else x) f2 f3 c1 d1 (by omega) (by omega) (by omega) r3 r4 r5 (by omega) r6 (by split <;> omega)
        (fun h hin => by
          have h1 := hc1 h (by omega)
          have h2 := hcf h
          rw [h1, if_neg (by omega)] at hby
          have : by0 = 1 := by
            rw [hby]; split
            · rw [if_pos h2.1]
            · rfl
          rw [this, if_neg (by omega), h1])
        (fun h hx1 hin => by
          by_cases hy : by0 = 0
          · rw [if_pos hy] at hx1; omega
          · rw [if_neg hy] at hx1
            rcases hc0 h hx1 (by omega) with hh | hh
            · exact .inl hh
            · rw [hx1, if_neg (by omega)] at hby
              refine .inr ⟨hh.1, ?_, hh.2.2⟩
              by_cases ha : i = at'
              · rw [if_pos ha, if_neg hh.1] at hby; exact absurd hby hy
              · omega)
        (by rw [r9.2 _ _ _ (by omega)]; exact hl) (fun j hj => by rw [y_sm_rb r9 (by omega)]; exact hr j hj) (fun j hj => by rw [y_sm_mb r10 (by omega)]; exact hm j hj)
      refine ⟨c', d', nl', nh', x', ?_, ?_, s3, s4, s5, by omega, s7, s8, y_sm_tr r9 s9 (fun k w p h => ?_) (fun _ _ _ h => h), y_sm_tr r10 s10 (fun k w p h => ?_) (fun _ _ _ h => h), ?_⟩
      · rw [r1, ob_some]; exact s1
      · rw [r2, ob_some]; exact s2
      · exact .inr (by omega)
      · by_cases h7 : k = 72
        · exact .inl (.inr (.inr (by omega)))
        · rcases h with h | h
          · exact .inr (.inl (by omega))
          · exact .inr (.inr (.inl h))
      · intro h1 h2 h3
        have hbg : b = g i := by rw [hb, h1, Nat.xor_zero, ite_self]
        have hi2 : i + 1 < n := by
          by_cases hq : i + 1 < n
          · exact hq
          · exfalso
            have : i = L - 1 := by omega
            rw [this, hgz] at hbg; exact hb0 hbg
        obtain ⟨t1, t2, t3⟩ := s11 h1 h2 hi2
        refine ⟨⟨t1.1, fun j hj hjn => ?_⟩, t2, fun hk => ?_⟩
        · rw [t1.2 j hj hjn, r9.2 _ _ _ (by omega)]
        · obtain ⟨u1, u2⟩ := r11 (by omega)
          refine t3 ⟨by omega, fun j hj => ?_⟩
          by_cases hji : j = i
          · subst hji
            rw [← hk.1, u1, hbg, hk.1]
          · rw [u2 j (by omega)]; exact hk.2 j (by omega)

theorem y_bring (mo sp wi si ti e fi nl K f L at' ch n nh x0 : Nat) (va : Int32) (g : Nat → Nat) (c d : sl_M) (he : e < 2) (hK : K < 90000) (hf : f < 40 * e ∨ 40 * e + 40 ≤ f) (hf80 : f < 80) (hL3 : 3 ≤ L) (hL67 : L ≤ 67) (hn : n ≤ L)
    (hg : ∀ j, g j < 256) (hgz : g (L - 1) = 0) (hgn : ∀ j, j + 1 < L → g j ≠ 0) (hch : ch < 256) (hva : ∀ i, i < n → (sl_i i = va) = (i = at')) (hat : ch ≠ 0 → at' < n)
    (hE : y_E mo sp wi si ti e fi nl K c d) (hC : y_gC c d) (hH : y_gHx e nh c d) (hnh : nh + n < 2000000) (h72 : d.1 72 0 e = sl_i x0)
    (hl : c.1 6 (14 + f) 1 = sl_i L) (hr : ∀ j, j < L → y_rb c (14 + f) j = g j) (hm : ∀ j, j < n → y_mb d 10 j = g j) :
    ∃ c' d' nl' nh' x', f_X10_bring f e va (sl_i ch) (sl_i n) c = some ((sl_i 0, 0, 0), c') ∧
      f_X11_moves (sl_i (1 - e)) (sl_i n) va (sl_i ch) d = some ((sl_i 0, 0, 0), d') ∧ y_E mo sp wi si ti e fi nl' K c' d' ∧ y_gC c' d' ∧ y_gHx e nh' c' d' ∧ nh' ≤ nh + n ∧ d'.1 72 0 e = sl_i x' ∧ x' ≤ 1 ∧
      y_sm (y_zIc e) c c' ∧ y_sm (y_zId e) d d' ∧
      (ch = 0 → n = L → y_grow e fi nl nl' c c' ∧ nh' = 0 ∧ (nh = 0 → 2 ≤ g 0 → 64 ≤ g 1 → g 1 < 128 → nl' = nl)) := by
  obtain ⟨clc, hclc⟩ : ∃ clc, clc = (if ch = 0 ∧ n = L ∧ nh = 0 then 1 else 0) := ⟨_, rfl⟩
  obtain ⟨x, hx⟩ : ∃ x, x = (if nh = 0 then 1 else 0) := ⟨_, rfl⟩
  have hcl1 : clc ≤ 1 := by rw [hclc]; split <;> omega
  have hx1 : x ≤ 1 := by rw [hx]; split <;> omega
  obtain ⟨d1, hd1⟩ : ∃ d1, d1 = sl_up d 72 0 e (sl_i x) := ⟨_, rfl⟩
  have hds : y_sm (fun k w p => k = 72 ∧ w = 0 ∧ p = e) d d1 := by rw [hd1]; exact y_sm_up (y_sm_refl _ _) (fun _ _ _ h => h) (by omega)
  obtain ⟨c', d', nl', nh', x', s1, s2, s3, s4, s5, s6, s7, s8, s9, s10, s11⟩ := y_bringL mo sp wi si ti e fi K f L at' ch n clc va g he hK hf hf80 hL3 hL67 hn hg hgz hgn hch hcl1 hva
    (fun h => by
      rw [hclc] at h
      by_cases hh : ch = 0 ∧ n = L ∧ nh = 0
      · exact ⟨hh.1, hh.2.1⟩
      · rw [if_neg hh] at h; omega)
    n 0 nl nh x 99999 99999 c d1 (by omega) (by omega) (by omega) (y_E_b hE he (y_sm_refl _ _) (y_sm_mono hds (fun k w p h => by omega)))
    (fun k hk => by rw [hds.2 _ _ _ (by omega)]; exact hC k hk)
    ⟨hH.1, by rw [hds.2 _ _ _ (by omega)]; exact hH.2.1, hH.2.2.1, fun j hj => by rw [y_sm_mb hds (by omega)]; exact hH.2.2.2 j hj⟩ hnh (by rw [hd1, up_eq rfl rfl rfl]) hx1
    (fun h _ => by
      rw [hclc] at h
      by_cases hh : ch = 0 ∧ n = L ∧ nh = 0
      · rw [hx, if_pos hh.2.2]
      · rw [if_neg hh] at h; omega)
    (fun h h1 _ => by
      have hn0 : nh = 0 := by
        by_cases hh : nh = 0
        · exact hh
        · rw [if_neg hh] at hx; omega
      by_cases hc : ch = 0
      · by_cases hnL : n = L
        · rw [if_pos ⟨hc, hnL, hn0⟩] at hclc; omega
        · exact .inl (by omega)
      · exact .inr ⟨hc, by omega, hat hc⟩)
    hl hr (fun j hj => by rw [y_sm_mb hds (by omega)]; exact hm j hj)
  refine ⟨c', d', nl', nh', x', ?_, ?_, s3, s4, s5, s6, s7, s8, s9, ?_, ?_⟩
  · rw [e_X10_bring, hl, hH.1]
    simp (disch := omega) only [i_lit, i_eq]
    rw [← s1]
    by_cases h1 : ch = 0
    · rw [if_pos h1]
      by_cases h2 : n = L
      · rw [if_pos h2]
        by_cases h3 : nh = 0
        · rw [if_pos ⟨h1, h2, h3⟩] at hclc
          rw [if_pos (by omega), hclc]
        · rw [if_neg (fun q => h3 q.2.2)] at hclc
          rw [if_neg (by omega), hclc]
      · rw [if_neg (fun q => h2 q.2.1)] at hclc
        rw [if_neg h2, hclc]
    · rw [if_neg (fun q => h1 q.1)] at hclc
      rw [if_neg h1, hclc]
  · rw [e_X11_moves]
    simp (disch := omega) only [i_lit, i_ofNat, i_add, i_mul, i_sub, i_addn, i_subm, y_nsm, i_le, i_lt, i_nat, i_eq, i_div, i_nle, i_nlt, i_len, i_ltn, i_neq, i_eqn, i_and1, i_and63, i_and255, b8_sx, ob_some, if_true, if_false, and_self, true_and, if_pos, if_neg, hH.2.1, show 1 - (1 - e) = e by omega]
    by_cases h3 : nh = 0
    · rw [if_pos h3] at hx
      rw [if_pos h3, ← s2, hd1, hx]
    · rw [if_neg h3] at hx
      rw [if_neg h3, ← s2, hd1, hx]
  · exact y_sm_tr hds s10 (fun k w p h => .inl (.inr (.inr h))) (fun _ _ _ h => h)
  · intro h1 h2
    obtain ⟨t1, t2, t3⟩ := s11 h1 h2 (by omega)
    exact ⟨t1, t2, fun h0 => t3 ⟨h0, fun j hj => by omega⟩⟩
