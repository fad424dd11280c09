/-! the relation of class and model, whole; calls on the tape alone -/
def y_gT (c d : sl_M) : Prop := ∃ n m, (c.1 6 0 1 = sl_i n ∧ d.1 11 0 2 = sl_i n ∧ n ≤ 1200 ∧ ∀ j, j < n → y_rb c 0 j = y_mb d 0 j) ∧
  (c.1 6 1 1 = sl_i m ∧ d.1 11 0 4 = sl_i m ∧ m ≤ 1205 ∧ ∀ j, j < m → y_rb c 1 j = y_mb d 1 j) ∧ (c.1 3 0 0 = d.1 11 0 6 ∧ c.1 3 0 1 = d.1 11 0 7)
def y_H (e B : Nat) (c d : sl_M) : Prop := ∃ nh x, y_gHx e nh c d ∧ nh ≤ B ∧ d.1 72 0 e = sl_i x ∧ x ≤ 1
def y_R (K : Nat) (c d : sl_M) : Prop := ∃ mo sp wi si ti, y_gC c d ∧ y_gT c d ∧ ∀ e, e < 2 → (∃ fi n, y_E mo sp wi si ti e fi n K c d) ∧ y_H e (100 * K) c d
def y_zc (k _w _p : Nat) : Prop := k ≠ 11 ∧ k < 30
def y_zm (k _w _p : Nat) : Prop := k = 11 ∨ 30 ≤ k
def y_zT (k w _p : Nat) : Prop := (k = 6 ∧ w ≤ 1) ∨ (k = 20 ∧ w ≤ 1) ∨ (k = 3 ∧ w = 0)
def y_zTm (k w p : Nat) : Prop := (k = 11 ∧ p ≤ 8) ∨ (k = 30 ∧ w ≤ 2)
/-- what a call of both gives -/
def y_Q (K : Nat) (c d : sl_M) (A B : Option (sl_PL × sl_M)) : Prop := ∃ c' d', y_R (K + 1) c' d' ∧ y_sm y_zc c c' ∧ y_sm y_zm d d' ∧
  ((∃ a, A = some ((a, 0, 0), c') ∧ B = some ((a, 0, 0), d') ∧ d'.1 11 0 0 = sl_i 0) ∨ (∃ b, A = some ((sl_i 0, 0, 2), c') ∧ B = some ((b, 0, 0), d') ∧ d'.1 11 0 0 = sl_i 1))
theorem y_H_cong {e B B' : Nat} {c d c' d' : sl_M} {S T : Nat → Nat → Nat → Prop} (h : y_H e B c d) (hB : B ≤ B') (hc : y_sm S c c') (hd : y_sm T d d')
    (hS : ∀ k w p, ((k = 6 ∧ p = 1) ∨ k = 20) ∧ w = 10 + e ∨ k = 1 ∧ w = e → ¬ S k w p) (hT : ∀ k w p, (k = 61 ∨ k = 72) ∧ w = 0 ∧ p = e ∨ k = 30 ∧ w = 6 ∧ 120 * e ≤ p ∧ p < 120 * e + 120 → ¬ T k w p) : y_H e B' c' d' := by
  obtain ⟨nh, x, ⟨a1, a2, a3, a4⟩, h2, h3, h4⟩ := h
  refine ⟨nh, x, ⟨?_, ?_, ?_, ?_⟩, by omega, ?_, h4⟩
  · rw [hc.2 _ _ _ (hS _ _ _ (by omega))]; exact a1
  · rw [hd.2 _ _ _ (hT _ _ _ (by omega))]; exact a2
  · rw [hc.2 _ _ _ (hS _ _ _ (by omega))]; exact a3
  · intro j hj
    rw [y_sm_rb hc (hS _ _ _ (by omega)), y_sm_mb hd (hT _ _ _ (by omega))]; exact a4 j hj
  · rw [hd.2 _ _ _ (hT _ _ _ (by omega))]; exact h3
theorem y_E_K {mo sp wi si ti e fi n K K' : Nat} {c d : sl_M} (h : y_E mo sp wi si ti e fi n K c d) (hK : K ≤ K') : y_E mo sp wi si ti e fi n K' c d := by
  obtain ⟨h1, h2, h3, ⟨G, P, ck, tm, ba, ne, h4, h5⟩, h6⟩ := h
  exact ⟨h1, h2, h3, ⟨G, P, ck, tm, ba, ne, h4, by omega⟩, h6⟩
theorem y_gC_cong {c d c' d' : sl_M} {S T : Nat → Nat → Nat → Prop} (h : y_gC c d) (hc : y_sm S c c') (hd : y_sm T d d') (hS : ∀ p, ¬ S 27 2 p) (hT : ∀ p, ¬ T 68 0 p) : y_gC c' d' :=
  fun k hk => by rw [hc.2 _ _ _ (hS _), hd.2 _ _ _ (hT _)]; exact h k hk
theorem y_gT_cong {c d c' d' : sl_M} {S T : Nat → Nat → Nat → Prop} (h : y_gT c d) (hc : y_sm S c c') (hd : y_sm T d d')
    (hS : ∀ k w p, y_zT k w p → ¬ S k w p) (hT : ∀ k w p, (k = 11 ∧ 2 ≤ p ∧ p ≤ 8) ∨ (k = 30 ∧ w ≤ 1) → ¬ T k w p) : y_gT c' d' := by
  obtain ⟨n, m, a1, a2, a3⟩ := h
  refine ⟨n, m, ⟨?_, ?_, a1.2.2.1, ?_⟩, ⟨?_, ?_, a2.2.2.1, ?_⟩, ?_, ?_⟩
  · rw [hc.2 _ _ _ (hS _ _ _ (by unfold y_zT; omega))]; exact a1.1
  · rw [hd.2 _ _ _ (hT _ _ _ (by omega))]; exact a1.2.1
  · intro j hj; rw [y_sm_rb hc (hS _ _ _ (by unfold y_zT; omega)), y_sm_mb hd (hT _ _ _ (by omega))]; exact a1.2.2.2 j hj
  · rw [hc.2 _ _ _ (hS _ _ _ (by unfold y_zT; omega))]; exact a2.1
  · rw [hd.2 _ _ _ (hT _ _ _ (by omega))]; exact a2.2.1
  · intro j hj; rw [y_sm_rb hc (hS _ _ _ (by unfold y_zT; omega)), y_sm_mb hd (hT _ _ _ (by omega))]; exact a2.2.2.2 j hj
  · rw [hc.2 _ _ _ (hS _ _ _ (by unfold y_zT; omega)), hd.2 _ _ _ (hT _ _ _ (by omega))]; exact a3.1
  · rw [hc.2 _ _ _ (hS _ _ _ (by unfold y_zT; omega)), hd.2 _ _ _ (hT _ _ _ (by omega))]; exact a3.2
/-- only the tape's cells have changed -/
theorem y_R_T {K K' : Nat} {c d c' d' : sl_M} (h : y_R K c d) (hK : K ≤ K') (hc : y_sm y_zT c c') (hd : y_sm y_zTm d d') (hT : y_gT c' d') : y_R K' c' d' := by
  obtain ⟨mo, sp, wi, si, ti, h1, h2, h3⟩ := h
  refine ⟨mo, sp, wi, si, ti, y_gC_cong h1 hc hd (fun p h => by unfold y_zT at h; omega) (fun p h => by unfold y_zTm at h; omega), hT, fun e he => ?_⟩
  obtain ⟨⟨fi, n, h4⟩, h5⟩ := h3 e he
  refine ⟨⟨fi, n, y_E_K (y_E_cong h4 he hc hd (fun k w p q => by have := y_zS0 q he; unfold y_zT; omega) (fun k w p q => by have := y_zSd0 q he; unfold y_zTm; omega)) hK⟩, y_H_cong h5 (by omega) hc hd ?_ ?_⟩
  · intro k w p q r; unfold y_zT at r; omega
  · intro k w p q r; unfold y_zTm at r; omega
/-- class cells may change in d, model cells in c -/
theorem y_R_x {K : Nat} {c d c' d' : sl_M} (h : y_R K c d) (hc : y_sm y_zm c c') (hd : y_sm y_zc d d') : y_R K c' d' := by
  obtain ⟨mo, sp, wi, si, ti, h1, h2, h3⟩ := h
  refine ⟨mo, sp, wi, si, ti, y_gC_cong h1 hc hd (fun p h => by unfold y_zm at h; omega) (fun p h => by unfold y_zc at h; omega), ?_, fun e he => ?_⟩
  · exact y_gT_cong h2 hc hd (fun k w p q r => by unfold y_zT at q; unfold y_zm at r; omega) (fun k w p q r => by unfold y_zc at r; omega)
  · obtain ⟨⟨fi, n, h4⟩, h5⟩ := h3 e he
    refine ⟨⟨fi, n, y_E_cong h4 he hc hd (fun k w p q => by have := y_zS0 q he; unfold y_zm; omega) (fun k w p q => by have := y_zSd0 q he; unfold y_zc; omega)⟩, y_H_cong h5 (by omega) hc hd ?_ ?_⟩
    · intro k w p q r; unfold y_zm at r; omega
    · intro k w p q r; unfold y_zc at r; omega
theorem y_zTc' {c c' : sl_M} (h : y_sm y_zT c c') : y_sm y_zc c c' := y_sm_mono h (fun k w p q => by unfold y_zT at q; unfold y_zc; omega)
theorem y_zTm' {c c' : sl_M} (h : y_sm y_zTm c c') : y_sm y_zm c c' := y_sm_mono h (fun k w p q => by unfold y_zTm at q; unfold y_zm; omega)
theorem y_QT {K : Nat} {c d c' d' : sl_M} {a : Int32} {A B : Option (sl_PL × sl_M)} (h : y_R K c d) (hc : y_sm y_zT c c') (hd : y_sm y_zTm d d') (hT : y_gT c' d') (hA : A = some ((a, 0, 0), c')) (hB : B = some ((a, 0, 0), d')) (h0 : d'.1 11 0 0 = sl_i 0) : y_Q K c d A B :=
  ⟨c', d', y_R_T h (by omega) hc hd hT, y_zTc' hc, y_zTm' hd, .inl ⟨a, hA, hB, h0⟩⟩
/-- thrown alone is written -/
theorem y_thr (d : sl_M) (x : Int32) : y_sm y_zTm d (sl_up d 11 0 0 x) := y_sm_up (y_sm_refl _ _) (fun _ _ _ h => h) (by unfold y_zTm; omega)
theorem y_gT_thr {c d : sl_M} {x : Int32} (h : y_gT c d) : y_gT c (sl_up d 11 0 0 x) :=
  y_gT_cong (S := fun _ _ _ => False) (T := fun k w p => k = 11 ∧ w = 0 ∧ p = 0) h (y_sm_refl _ _) (y_sm_up (y_sm_refl _ _) (fun _ _ _ h => h) (by omega)) (fun _ _ _ _ h => h) (fun k w p q r => by omega)
theorem y_Qr {K : Nat} {c d : sl_M} {a : Int32} {A B : Option (sl_PL × sl_M)} (h : y_R K c d) (hA : A = some ((a, 0, 0), c)) (hB : B = some ((a, 0, 0), sl_up d 11 0 0 (sl_i 0))) : y_Q K c d A B := by
  have hT : y_gT c d := by obtain ⟨mo, sp, wi, si, ti, h1, h2, h3⟩ := h; exact h2
  exact y_QT h (y_sm_refl _ _) (y_thr d _) (y_gT_thr hT) hA hB (up_eq rfl rfl rfl)
/-! feed -/
theorem y_feedN (v : Int32) : ∀ r j L fuel (c : sl_M), j + r = 4 → r < fuel → c.1 6 0 1 = sl_i L → L + r ≤ 1200 →
    ∃ c', b_X10_feedNumber_3 fuel v (if j = 4 then -(sl_i 8) else sl_i (24 - 8 * j)) c = some ((sl_i 0, 0, 0), c') ∧ c'.1 6 0 1 = sl_i (L + r) ∧
      (∀ k, k < r → y_rb c' 0 (L + k) = v.toBitVec.toNat / 2 ^ (24 - 8 * (j + k)) % 256) ∧ y_sm (fun k w p => (k = 6 ∧ w = 0 ∧ p = 1) ∨ (k = 20 ∧ w = 0 ∧ L ≤ p ∧ p < L + r)) c c' := by
  intro r
  induction r with
  | zero =>
    intro j L fuel c hj hf hl hL
    obtain ⟨f2, rfl⟩ : ∃ f2, fuel = f2 + 1 := ⟨fuel - 1, by omega⟩
    refine ⟨c, ?_, hl, fun k hk => by omega, y_sm_refl _ _⟩
    rw [if_pos (by omega), e_X10_feedNumber_3]
    simp (disch := omega) only [i_lit, i_ofNat, i_add, i_mul, i_sub, i_addn, i_subm, y_nsm, i_le, i_lt, i_nat, i_eq, i_div, i_nle, i_nlt, i_len, i_ltn, i_neq, i_eqn, i_and1, i_and63, i_and255, b8_sx, ob_some, if_true, if_false, and_self, true_and, if_pos, if_neg]
  | succ r ih =>
    intro j L fuel c hj hf hl hL
    obtain ⟨f2, rfl⟩ : ∃ f2, fuel = f2 + 1 := ⟨fuel - 1, by omega⟩
    obtain ⟨c', g1, g2, g3, g4⟩ := ih (j + 1) (L + 1) f2 (sl_up (sl_up c 20 0 L (sl_sx (sl_ush v (sl_i (24 - 8 * j))))) 6 0 1 (sl_i (L + 1))) (by omega) (by omega) (by rw [up_eq rfl rfl rfl]) (by omega)
    refine ⟨c', ?_, ?_, ?_, ?_⟩
    · rw [if_neg (by omega), e_X10_feedNumber_3]
      simp (disch := omega) only [i_lit, i_lt, if_neg]
      have hs : sl_i (24 - 8 * j) + -(sl_i 8) = (if j + 1 = 4 then -(sl_i 8) else sl_i (24 - 8 * (j + 1))) := by
        by_cases h3 : j + 1 = 4
        · rw [if_pos h3, show 24 - 8 * j = 0 by omega]
          exact Int32.zero_add _
        · rw [if_neg h3, i_addn (by omega), show 24 - 8 * j - 8 = 24 - 8 * (j + 1) by omega]
      rw [y_add c _ hl (by show L < 1200; omega), ob_some, hs]
      exact g1
    · rw [g2, show L + 1 + r = L + (r + 1) by omega]
    · intro k hk
      by_cases hk0 : k = 0
      · subst hk0
        rw [y_sm_rb g4 (by omega), y_rb_ne (by omega), y_rb_up rfl (by omega), b8_ush _ (by omega)]; rfl
      · have := g3 (k - 1) (by omega)
        rw [show L + 1 + (k - 1) = L + k by omega, show j + 1 + (k - 1) = j + k by omega] at this
        exact this
    · exact ⟨g4.1, fun k w p h => by rw [g4.2 k w p (by omega), up_ne (by omega), up_ne (by omega)]⟩
theorem y_feed1 (v : Int32) (L : Nat) (c : sl_M) (hl : c.1 6 0 1 = sl_i L) (hL : L + 4 ≤ 1200) :
    ∃ c', f_X10_feedNumber v c = some ((sl_i 0, 0, 0), c') ∧ c'.1 6 0 1 = sl_i (L + 4) ∧
      (∀ k, k < 4 → y_rb c' 0 (L + k) = v.toBitVec.toNat / 2 ^ (24 - 8 * k) % 256) ∧ y_sm (fun k w p => (k = 6 ∧ w = 0 ∧ p = 1) ∨ (k = 20 ∧ w = 0 ∧ L ≤ p ∧ p < L + 4)) c c' := by
  obtain ⟨c', g1, g2, g3, g4⟩ := y_feedN v 4 0 L 99999 c (by omega) (by omega) hl (by omega)
  refine ⟨c', ?_, g2, ?_, g4⟩
  · rw [e_X10_feedNumber]; exact g1
  · intro k hk
    have := g3 k hk
    rw [Nat.zero_add] at this; exact this
theorem y_feedM (a b v w x : Int32) (n : Nat) (hn : n + 20 ≤ 1200) : ∀ r i fuel (d : sl_M), i + r = 4 → d.1 11 0 2 = sl_i n → 
    ∃ d', b_X11_feed_23 (fuel + r + 1) a b v w x (sl_i i) d = some ((sl_i (n + 20), 0, 0), sl_up d' 11 0 2 (sl_i (n + 20))) ∧
      (∀ k, i ≤ k → k < 4 → y_mb d' 0 (n + k) = a.toBitVec.toNat / 2 ^ (24 - 8 * k) % 256 ∧ y_mb d' 0 (n + 4 + k) = b.toBitVec.toNat / 2 ^ (24 - 8 * k) % 256 ∧
        y_mb d' 0 (n + 8 + k) = v.toBitVec.toNat / 2 ^ (24 - 8 * k) % 256 ∧ y_mb d' 0 (n + 12 + k) = w.toBitVec.toNat / 2 ^ (24 - 8 * k) % 256 ∧ y_mb d' 0 (n + 16 + k) = x.toBitVec.toNat / 2 ^ (24 - 8 * k) % 256) ∧
      y_sm (fun k w p => k = 30 ∧ w = 0 ∧ ((n + i ≤ p ∧ p < n + 4) ∨ (n + 4 + i ≤ p ∧ p < n + 8) ∨ (n + 8 + i ≤ p ∧ p < n + 12) ∨ (n + 12 + i ≤ p ∧ p < n + 16) ∨ (n + 16 + i ≤ p ∧ p < n + 20))) d d' := by
  intro r
  induction r with
  | zero =>
    intro i fuel d hi h2
    have : i = 4 := by omega
    subst this
    refine ⟨d, ?_, fun k _ _ => by omega, y_sm_refl _ _⟩
    rw [e_X11_feed_23, h2]
    simp (disch := omega) only [i_lit, i_ofNat, i_add, i_mul, i_sub, i_addn, i_subm, y_nsm, i_le, i_lt, i_nat, i_eq, i_div, i_nle, i_nlt, i_len, i_ltn, i_neq, i_eqn, i_and1, i_and63, i_and255, b8_sx, ob_some, if_true, if_false, and_self, true_and, if_pos, if_neg]
  | succ r ih =>
    intro i fuel d hi h2
    obtain ⟨d', g1, g2, g3⟩ := ih (i + 1) fuel (sl_up (sl_up (sl_up (sl_up (sl_up d 30 0 (n + i) (sl_sx (a >>> (sl_i (24 - 8 * i) &&& sl_i 31)))) 30 0 (n + 4 + i) (sl_sx (b >>> (sl_i (24 - 8 * i) &&& sl_i 31)))) 30 0 (n + 8 + i) (sl_sx (v >>> (sl_i (24 - 8 * i) &&& sl_i 31)))) 30 0 (n + 12 + i) (sl_sx (w >>> (sl_i (24 - 8 * i) &&& sl_i 31)))) 30 0 (n + 16 + i) (sl_sx (x >>> (sl_i (24 - 8 * i) &&& sl_i 31)))) (by omega)
      (by rw [up_ne (by omega), up_ne (by omega), up_ne (by omega), up_ne (by omega), up_ne (by omega)]; exact h2)
    refine ⟨d', ?_, ?_, ?_⟩
    · rw [show fuel + (r + 1) + 1 = fuel + r + 1 + 1 from rfl, e_X11_feed_23, h2]
      simp (disch := omega) only [i_lit, i_ofNat, i_add, i_mul, i_sub, i_addn, i_subm, y_nsm, i_le, i_lt, i_nat, i_eq, i_div, i_nle, i_nlt, i_len, i_ltn, i_neq, i_eqn, i_and1, i_and63, i_and255, b8_sx, ob_some, if_true, if_false, and_self, true_and, if_pos, if_neg]
      exact g1
    · intro k hk hk4
      by_cases hki : k = i
      · subst hki
        refine ⟨?_, ?_, ?_, ?_, ?_⟩
        · rw [y_sm_mb g3 (by omega), y_mb_ne (by omega), y_mb_ne (by omega), y_mb_ne (by omega), y_mb_ne (by omega), y_mb_up rfl rfl, b8_shr _ (by omega)]
        · rw [y_sm_mb g3 (by omega), y_mb_ne (by omega), y_mb_ne (by omega), y_mb_ne (by omega), y_mb_up rfl rfl, b8_shr _ (by omega)]
        · rw [y_sm_mb g3 (by omega), y_mb_ne (by omega), y_mb_ne (by omega), y_mb_up rfl rfl, b8_shr _ (by omega)]
        · rw [y_sm_mb g3 (by omega), y_mb_ne (by omega), y_mb_up rfl rfl, b8_shr _ (by omega)]
        · rw [y_sm_mb g3 (by omega), y_mb_up rfl rfl, b8_shr _ (by omega)]
      · exact g2 k (by omega) hk4
    · exact ⟨g3.1, fun k w p h => by rw [g3.2 k w p (by omega), up_ne (by omega), up_ne (by omega), up_ne (by omega), up_ne (by omega), up_ne (by omega)]⟩
theorem q_feed (K : Nat) (a b v w x : Int32) (c d : sl_M) (h : y_R K c d) : y_Q K c d (f_X10_feed a b v w x c) (f_X11_feed a b v w x d) := by
  have hR := h
  obtain ⟨mo, sp, wi, si, ti, _, ⟨n, m, t1, t2, t3⟩, _⟩ := h
  rw [e_X10_feed, e_X11_feed, t1.2.1]
  simp (disch := omega) only [i_lit, i_add, i_le]
  by_cases hn : n + 20 ≤ 1200
  · rw [if_pos hn, y_roomY c t1.1 (by show n + 20 ≤ 1200; omega), ob_some]
    simp (disch := omega) only [i_lit, i_ofNat, i_add, i_mul, i_sub, i_addn, i_subm, y_nsm, i_le, i_lt, i_nat, i_eq, i_div, i_nle, i_nlt, i_len, i_ltn, i_neq, i_eqn, i_and1, i_and63, i_and255, b8_sx, ob_some, if_true, if_false, and_self, true_and, if_pos, if_neg]
    obtain ⟨c1, a1, a2, a3, a4⟩ := y_feed1 a n c t1.1 (by omega)
    obtain ⟨c2, b1, b2, b3, b4⟩ := y_feed1 b (n + 4) c1 a2 (by omega)
    obtain ⟨c3, v1, v2, v3, v4⟩ := y_feed1 v (n + 4 + 4) c2 b2 (by omega)
    obtain ⟨c4, w1, w2, w3, w4⟩ := y_feed1 w (n + 4 + 4 + 4) c3 v2 (by omega)
    obtain ⟨c5, x1, x2, x3, x4⟩ := y_feed1 x (n + 4 + 4 + 4 + 4) c4 w2 (by omega)
    obtain ⟨d', k1, k2, k3⟩ := y_feedM a b v w x n hn 4 0 99994 (sl_up d 11 0 0 (sl_i 0)) (by omega) (by rw [up_ne (by omega)]; exact t1.2.1)
    have hcs : y_sm (fun k w p => (k = 6 ∧ w = 0 ∧ p = 1) ∨ (k = 20 ∧ w = 0 ∧ n ≤ p)) c c5 :=
      ⟨by rw [x4.1, w4.1, v4.1, b4.1, a4.1], fun k w p h => by rw [x4.2 _ _ _ (by omega), w4.2 _ _ _ (by omega), v4.2 _ _ _ (by omega), b4.2 _ _ _ (by omega), a4.2 _ _ _ (by omega)]⟩
    have hds : y_sm (fun k w p => (k = 30 ∧ w = 0 ∧ n ≤ p) ∨ (k = 11 ∧ w = 0 ∧ (p = 0 ∨ p = 2))) d (sl_up d' 11 0 2 (sl_i (n + 20))) :=
      ⟨by rw [up_2, k3.1, up_2], fun k w p h => by rw [up_ne (by omega), k3.2 _ _ _ (by omega), up_ne (by omega)]⟩
    refine y_QT (c' := c5) (d' := sl_up d' 11 0 2 (sl_i (n + 20))) hR (y_sm_mono hcs (fun k w p q => by unfold y_zT; omega)) (y_sm_mono hds (fun k w p q => by unfold y_zTm; omega)) ?_ (a := sl_i (n + 20)) ?_ ?_ ?_
    · refine ⟨n + 20, m, ⟨?_, ?_, hn, ?_⟩, ⟨?_, ?_, t2.2.2.1, ?_⟩, ?_, ?_⟩
      · rw [x2]
      · rw [up_eq rfl rfl rfl]
      · intro j hj
        rw [y_mb_ne (by omega)]
        by_cases j0 : j < n
        · rw [y_sm_rb hcs (by omega), y_sm_mb k3 (by omega), y_mb_ne (by omega)]; exact t1.2.2.2 j j0
        by_cases j1 : j < n + 4
        · have e1 := a3 (j - n) (by omega)
          have e2 := (k2 (j - n) (by omega) (by omega)).1
          rw [show n + (j - n) = j by omega] at e1 e2
          rw [y_sm_rb x4 (by omega), y_sm_rb w4 (by omega), y_sm_rb v4 (by omega), y_sm_rb b4 (by omega), e1, e2]
        by_cases j2 : j < n + 8
        · have e1 := b3 (j - n - 4) (by omega)
          have e2 := (k2 (j - n - 4) (by omega) (by omega)).2.1
          rw [show n + 4 + (j - n - 4) = j by omega] at e1 e2
          rw [y_sm_rb x4 (by omega), y_sm_rb w4 (by omega), y_sm_rb v4 (by omega), e1, e2]
        by_cases j3 : j < n + 12
        · have e1 := v3 (j - n - 8) (by omega)
          have e2 := (k2 (j - n - 8) (by omega) (by omega)).2.2.1
          rw [show n + 4 + 4 + (j - n - 8) = j by omega] at e1
          rw [show n + 8 + (j - n - 8) = j by omega] at e2
          rw [y_sm_rb x4 (by omega), y_sm_rb w4 (by omega), e1, e2]
        by_cases j4 : j < n + 16
        · have e1 := w3 (j - n - 12) (by omega)
          have e2 := (k2 (j - n - 12) (by omega) (by omega)).2.2.2.1
          rw [show n + 4 + 4 + 4 + (j - n - 12) = j by omega] at e1
          rw [show n + 12 + (j - n - 12) = j by omega] at e2
          rw [y_sm_rb x4 (by omega), e1, e2]
        · have e1 := x3 (j - n - 16) (by omega)
          have e2 := (k2 (j - n - 16) (by omega) (by omega)).2.2.2.2
          rw [show n + 4 + 4 + 4 + 4 + (j - n - 16) = j by omega] at e1
          rw [show n + 16 + (j - n - 16) = j by omega] at e2
          rw [e1, e2]
      · rw [hcs.2 _ _ _ (by omega)]; exact t2.1
      · rw [hds.2 _ _ _ (by omega)]; exact t2.2.1
      · intro j hj; rw [y_sm_rb hcs (by omega), y_sm_mb hds (by omega)]; exact t2.2.2.2 j hj
      · rw [hcs.2 _ _ _ (by omega), hds.2 _ _ _ (by omega)]; exact t3.1
      · rw [hcs.2 _ _ _ (by omega), hds.2 _ _ _ (by omega)]; exact t3.2
    · rw [a1, ob_some, b1, ob_some, v1, ob_some, w1, ob_some, x1, ob_some, x2]
    · exact k1
    · rw [up_ne (by omega), k3.2 _ _ _ (by omega), up_eq rfl rfl rfl]
  · rw [if_neg hn, y_roomN c t1.1 (by show n ≤ 1200; omega) (by omega) (by show 1200 < n + 20; omega), ob_some]
    simp (disch := omega) only [i_lit, i_ofNat, i_add, i_mul, i_sub, i_addn, i_subm, y_nsm, i_le, i_lt, i_nat, i_eq, i_div, i_nle, i_nlt, i_len, i_ltn, i_neq, i_eqn, i_and1, i_and63, i_and255, b8_sx, ob_some, if_true, if_false, and_self, true_and, if_pos, if_neg]
    exact y_Qr hR rfl rfl
