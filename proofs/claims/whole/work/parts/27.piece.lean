/-! a piece is laid -/
def y_zLc (e k w p : Nat) : Prop := (k = 27 ∧ w = 2 ∧ p ≤ 2) ∨ y_zF e k w p ∨ (k = 6 ∧ w = 2 + e ∧ p = 1) ∨ (k = 20 ∧ w = 2 + e)
def y_zLd (e k w p : Nat) : Prop := (k = 68 ∧ w = 0 ∧ p ≤ 2) ∨ y_zFd e k w p ∨ (k = 30 ∧ w = 8)
theorem y_zLc0 {e k w p : Nat} (h : y_zLc e k w p) (he : e < 2) : k = 27 ∧ w = 2 ∧ p ≤ 2 ∨ (k = 4 ∧ w = e) ∨ k = 2 ∨ ((k = 6 ∨ k = 20) ∧ 14 ≤ w) ∨ ((k = 6 ∨ k = 20) ∧ w = 2 + e) := by
  unfold y_zLc y_zF at h; omega
theorem y_zLd0 {e k w p : Nat} (h : y_zLd e k w p) (he : e < 2) : k = 68 ∧ w = 0 ∧ p ≤ 2 ∨ (62 ≤ k ∧ k ≤ 67) ∨ k = 73 ∨ (k = 30 ∧ (w = 7 ∨ w = 8)) := by
  unfold y_zLd y_zFd at h; omega
theorem y_startBody (c : sl_M) {e s a : Nat} (he : e < 2) : f_X4_startBody e (sl_i s) (sl_i a) c =
    some ((sl_i 0, 2 + e, 0), sl_up (sl_up (sl_up c 6 (2 + e) 1 (sl_i 0)) 20 (2 + e) 0 (sl_sx (sl_i (64 * s + a)))) 6 (2 + e) 1 (sl_i 1)) := by
  have hlr := y_lr2 he
  rw [e_X4_startBody, y_clear, ob_some]
  simp only [i_lit, i_mul, i_add]
  rw [y_add (L := 0) _ _ (by rw [up_eq rfl rfl rfl]) (by omega), ob_some]
theorem y_lp49 (e ag st sz : Nat) (he : e < 2) (h1 : st + sz ≤ 3000) (h2 : sz ≤ 60) : ∀ k i fuel (d : sl_M), i + k = sz →
    ∃ d1, b_X11_layPiece_49 (fuel + k) (sl_i e) (sl_i ag) (sl_i st) (sl_i sz) (sl_i i) d = b_X11_layPiece_49 fuel (sl_i e) (sl_i ag) (sl_i st) (sl_i sz) (sl_i sz) d1 ∧
      (∀ j, i ≤ j → j < sz → y_mb d1 8 (1 + j) = y_mb d 3 (3000 * e + st + j)) ∧ y_sm (fun k w p => k = 30 ∧ w = 8 ∧ 1 + i ≤ p) d d1 := by
  intro k
  induction k with
  | zero =>
    intro i fuel d hi
    have : i = sz := by omega
    subst this
    exact ⟨d, rfl, fun j _ _ => by omega, y_sm_refl _ _⟩
  | succ k ih =>
    intro i fuel d hi
    obtain ⟨d1, g1, g3, g4⟩ := ih (i + 1) fuel (sl_up d 30 8 (1 + i) (sl_sx (d.1 30 3 (3000 * e + st + i)))) (by omega)
    refine ⟨d1, ?_, ?_, ?_⟩
    · rw [show fuel + (k + 1) = fuel + k + 1 from rfl, e_X11_layPiece_49]
      simp (disch := omega) only [i_lit, i_ofNat, i_add, i_mul, i_sub, i_addn, i_subm, y_nsm, i_le, i_lt, i_nat, i_eq, i_div, i_nle, i_nlt, i_len, i_ltn, i_neq, i_eqn, i_and1, i_and63, i_and255, b8_sx, ob_some, if_true, if_false, and_self, true_and, if_pos, if_neg]
      exact g1
    · intro j hj hj2
      by_cases h : j = i
      · subst h
        rw [y_sm_mb g4 (by omega), y_mb_up rfl rfl]; rfl
      · rw [g3 j (by omega) hj2, y_mb_ne (by omega)]
    · exact ⟨g4.1, fun k w p h => by rw [g4.2 k w p (by omega), up_ne (by omega)]⟩
theorem y_layPiece (mo sp wi si ti e fi n p st sz ag : Nat) (c d : sl_M) (he : e < 2) (hS : y_gS mo sp wi si ti c d) (hL : y_gL e fi n c d) (hv : y_hv d) (hC : y_g3 c d)
    (G : Nat) (hG : c.1 6 (4 + e) 1 = sl_i G) (hG3 : G ≤ 3000) (hGb : ∀ j, j < G → y_rb c (4 + e) j = y_mb d 3 (3000 * e + j))
    (hp : p ≤ 3000) (h1 : c.1 23 e (p % 64) = sl_i st) (h2 : c.1 24 e (p % 64) = sl_i sz) (h3 : d.1 58 0 (3002 * e + p) = sl_i st) (h4 : d.1 58 0 (3002 * e + p + 1) = sl_i (st + sz))
    (h5 : st + sz ≤ G) (h6 : sz ≤ 60) (hag : ag ≤ 1) :
    ∃ c' d', f_X7_layPiece e (sl_i p) (sl_i ag) c = some ((sl_i 0, 0, 0), c') ∧ f_X11_layPiece (sl_i e) (sl_i p) (sl_i ag) d = some ((sl_i 0, 0, 0), d') ∧
      y_gL e fi (if n < 40 then n + 1 else n) c' d' ∧ y_g3 c' d' ∧ d'.1 68 0 0 = d.1 68 0 0 + sl_i 1 ∧ y_sm (y_zLc e) c c' ∧ y_sm (y_zLd e) d d' := by
  obtain ⟨⟨c0, c1, c2, c3, c4⟩, ⟨d0, d1, d2, d3, d4⟩, _, hsp2, hsp64, _⟩ := hS
  have hlr := y_lr2 he
  have hlr4 := y_lr4 he
  have hpm : p % sp < sp := Nat.mod_lt _ (by omega)
  obtain ⟨m1, hm1⟩ : ∃ m1, m1 = sl_up (sl_up (sl_up c 6 (2 + e) 1 (sl_i 0)) 20 (2 + e) 0 (sl_sx (sl_i (64 * 0 + p % sp)))) 6 (2 + e) 1 (sl_i 1) := ⟨_, rfl⟩
  have hm1s : y_sm (fun k w p => (k = 6 ∧ w = 2 + e ∧ p = 1) ∨ (k = 20 ∧ w = 2 + e)) c m1 := by
    rw [hm1]; exact ⟨rfl, fun k w p h => by rw [up_ne (by omega), up_ne (by omega), up_ne (by omega)]⟩
  obtain ⟨m2, a1, a2, a3, a4⟩ := y_addPart m1 (r := 2 + e) (f := 4 + e) (s := st) (n := sz) (L := 1) (LF := G) (by rw [hm1, up_eq rfl rfl rfl]) (by rw [hm1s.2 _ _ _ (by omega)]; exact hG) (by omega) h5 (by omega) (by omega) (by omega)
  obtain ⟨n1, hn1⟩ : ∃ n1, n1 = sl_up d 30 8 0 (sl_sx (sl_i (p % sp))) := ⟨_, rfl⟩
  obtain ⟨n2, b1, b3, b4⟩ := y_lp49 e ag st sz he (by omega) h6 sz 0 (99999 - sz) n1 (by omega)
  obtain ⟨n3, hn3⟩ : ∃ n3, n3 = (if ag = 0 then n2 else sl_up n2 68 0 1 (n2.1 68 0 1 + sl_i 1)) := ⟨_, rfl⟩
  have hn3s : y_sm (fun k w p => k = 68 ∧ w = 0 ∧ p = 1) n2 n3 := by
    rw [hn3]; split
    · exact y_sm_refl _ _
    · exact y_sm_up (y_sm_refl _ _) (fun _ _ _ h => h) (by omega)
  have hm2s : y_sm (fun k w p => (k = 6 ∧ w = 2 + e ∧ p = 1) ∨ (k = 20 ∧ w = 2 + e)) c m2 := y_sm_tr hm1s a4 (fun _ _ _ h => h) (fun k w p h => by omega)
  have hds : y_sm (fun k w p => (k = 30 ∧ w = 8) ∨ (k = 68 ∧ w = 0 ∧ p = 1)) d n3 := by
    refine ⟨by rw [hn3s.1, b4.1, hn1, up_2], fun k w p h => ?_⟩
    rw [hn3s.2 _ _ _ (by omega), b4.2 _ _ _ (by omega), hn1, up_ne (by omega)]
  have hb0 : y_mb n3 8 0 = p % sp := by
    rw [y_sm_mb hn3s (by omega), y_sm_mb b4 (by omega), hn1, y_mb_up rfl rfl, b8_i]; omega
  have hm20 : y_rb m2 (2 + e) 0 = p % sp := by
    rw [y_sm_rb a4 (by omega), hm1, y_rb_ne (by omega), y_rb_up rfl rfl, b8_i]; omega
  obtain ⟨c', d', r1, r2, r3, r4, r5, r6, r7, r8, r9⟩ := y_lay e fi n (1 + sz) ag m2 n3 he
    (y_gL_cong hL he hm2s hds (fun k w p h => by unfold y_zF at h; omega) (fun k w p h => by unfold y_zFd at h; omega))
    (fun k hk => by rw [hds.2 _ _ _ (by omega)]; exact hv k hk) a2 (by omega) (by omega) hag
    (fun j hj => by
      by_cases h : j = 0
      · subst h; rw [hb0, hm20]
      · have e1 := a3 (j - 1) (by omega)
        have e2 := b3 (j - 1) (by omega) (by omega)
        rw [show 1 + (j - 1) = j by omega] at e1 e2
        rw [e1, y_sm_rb hm1s (by omega), y_sm_mb hn3s (by omega), e2, hn1, y_mb_ne (by omega), hGb _ (by omega), Nat.add_assoc])
    (by rw [hb0]; omega)
    (fun k hk h1 => by rw [hm2s.2 _ _ _ (by omega), hds.2 _ _ _ (by omega)]; exact hC k hk)
    (by
      rw [hm2s.2 _ _ _ (by omega), hn3, hC 1 (by omega)]
      split
      · rw [b4.2 _ _ _ (by omega), hn1, up_ne (by omega)]
      · rw [up_eq rfl rfl rfl, b4.2 _ _ _ (by omega), hn1, up_ne (by omega)])
  refine ⟨c', d', ?_, ?_, r3, r4, ?_, ?_, ?_⟩
  · rw [e_X7_layPiece, y_inRing c c1 (by omega) (by omega) hsp64, ob_some]
    simp only [i_lit]
    rw [y_startBody c he, ← hm1, ob_some]
    simp (disch := omega) only [i_lit, i_ofNat, i_add, i_mul, i_sub, i_addn, i_subm, y_nsm, i_le, i_lt, i_nat, i_eq, i_div, i_nle, i_nlt, i_len, i_ltn, i_neq, i_eqn, i_and1, i_and63, i_and255, b8_sx, ob_some, if_true, if_false, and_self, true_and, if_pos, if_neg]
    rw [hm1s.2 _ _ _ (by omega), hm1s.2 _ _ _ (by omega), h1, h2, a1, ob_some, r1, ob_some]
  · rw [e_X11_layPiece]
    simp (disch := omega) only [i_lit, i_ofNat, i_add, i_mul, i_sub, i_addn, i_subm, y_nsm, i_le, i_lt, i_nat, i_eq, i_div, i_nle, i_nlt, i_len, i_ltn, i_neq, i_eqn, i_and1, i_and63, i_and255, b8_sx, ob_some, if_true, if_false, and_self, true_and, if_pos, if_neg, h3, h4, d1, Nat.add_sub_cancel_left]
    rw [← hn1]
    have hsz : 99999 = 99999 - sz + sz := by omega
    rw [hsz, b1]
    obtain ⟨fu, hfu⟩ : ∃ fu, 99999 - sz = fu + 1 := ⟨99998 - sz, by omega⟩
    rw [hfu, e_X11_layPiece_49]
    simp (disch := omega) only [i_lit, i_ofNat, i_add, i_mul, i_sub, i_addn, i_subm, y_nsm, i_le, i_lt, i_nat, i_eq, i_div, i_nle, i_nlt, i_len, i_ltn, i_neq, i_eqn, i_and1, i_and63, i_and255, b8_sx, ob_some, if_true, if_false, and_self, true_and, if_pos, if_neg]
    by_cases h : ag = 0
    · rw [if_pos h] at hn3
      rw [if_pos h, ← hn3, r2, ob_some]
    · rw [if_neg h] at hn3
      rw [if_neg h, ← hn3, r2, ob_some]
  · rw [r5, hds.2 _ _ _ (by omega)]
  · refine y_sm_tr hm2s r8 ?_ ?_
    · intro k w p h; unfold y_zLc; omega
    · intro k w p h; unfold y_zLc; omega
  · refine y_sm_tr hds r9 ?_ ?_
    · intro k w p h; unfold y_zLd; omega
    · intro k w p h
      unfold y_zLd
      rcases h with h | h | h
      · exact .inl (by omega)
      · exact .inr (.inl h)
      · exact .inr (.inr h)
