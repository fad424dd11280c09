/-! the other calls on the tape -/
theorem i_litN (n : Nat) : (no_index (OfNat.ofNat n) : Int32) = sl_i n := of_eq_true (eq_self (sl_i n))
theorem y_nn (a : Int32) (h : ¬ a < sl_i 0) : ∃ k, k < 2147483648 ∧ a = sl_i k := by
  refine ⟨a.toNatClampNeg, Int32.toNatClampNeg_lt a, ?_⟩
  have h0 : (0 : Int32) ≤ a := Int32.not_lt.1 h
  exact (Int32.ofNat_toNatClampNeg a h0).symm
theorem y_max0 (m : sl_M) (a : Nat) (ha : a < 2147483648) : f_J9_max_7cf53 (sl_i 0) (sl_i a) m = some ((sl_i a, 0, 0), m) := by
  rw [e_J9_max_7cf53]
  simp (disch := omega) only [i_lt]
  by_cases h : 0 < a
  · rw [if_pos h]
  · rw [if_neg h, show a = 0 by omega]
theorem q_cut (K : Nat) (a : Int32) (c d : sl_M) (h : y_R K c d) : y_Q K c d (f_X10_cut a c) (f_X11_cut a d) := by
  have hR := h
  obtain ⟨mo, sp, wi, si, ti, _, ⟨n, m, t1, t2, t3⟩, _⟩ := h
  rw [e_X10_cut, e_X11_cut, t1.1, t1.2.1]
  simp only [i_litN]
  by_cases ha : a < sl_i 0
  · rw [if_pos ha, if_pos ha]
    exact y_Qr hR rfl rfl
  · rw [if_neg ha, if_neg ha]
    obtain ⟨k, hk, rfl⟩ := y_nn a ha
    simp (disch := omega) only [i_le]
    by_cases hkn : k ≤ n
    · rw [if_pos hkn, if_pos hkn]
      refine y_QT (a := sl_i 1) (c' := sl_up c 6 0 1 (sl_i k)) (d' := sl_up (sl_up d 11 0 0 (sl_i 0)) 11 0 2 (sl_i k)) hR ?_ ?_ ⟨k, m, ⟨?_, ?_, by omega, ?_⟩, ⟨?_, ?_, t2.2.2.1, ?_⟩, ?_, ?_⟩ ?_ rfl ?_
      · exact y_sm_up (y_sm_refl _ _) (fun _ _ _ h => h) (by unfold y_zT; omega)
      · exact y_sm_up (y_sm_up (y_sm_refl _ _) (fun _ _ _ h => h) (by unfold y_zTm; omega)) (fun _ _ _ h => h) (by unfold y_zTm; omega)
      · rw [up_eq rfl rfl rfl]
      · rw [up_eq rfl rfl rfl]
      · intro j hj; rw [y_rb_ne (by omega), y_mb_ne (by omega), y_mb_ne (by omega)]; exact t1.2.2.2 j (by omega)
      · rw [up_ne (by omega)]; exact t2.1
      · rw [up_ne (by omega), up_ne (by omega)]; exact t2.2.1
      · intro j hj; rw [y_rb_ne (by omega), y_mb_ne (by omega), y_mb_ne (by omega)]; exact t2.2.2.2 j hj
      · rw [up_ne (by omega), up_ne (by omega), up_ne (by omega)]; exact t3.1
      · rw [up_ne (by omega), up_ne (by omega), up_ne (by omega)]; exact t3.2
      · rw [e_X6_cutTo, t1.1, y_min c k n hk (by omega), ob_some, i_lit0, y_max0 c _ (by split <;> omega), ob_some, ob_some, if_neg (by omega)]
      · rw [up_ne (by omega), up_eq rfl rfl rfl]
    · rw [if_neg hkn, if_neg hkn]
      exact y_Qr hR rfl rfl
theorem y_take31 (n : Nat) (hn : n ≤ 1200) : ∀ r i fuel (d : sl_M), i + r = n → d.1 11 0 2 = sl_i n →
    ∃ d', b_X11_take_31 (fuel + r + 1) (sl_i i) d = some ((sl_i n, 0, 0), d') ∧ (∀ j, i ≤ j → j < n → y_mb d' 0 j = y_mb d 1 j) ∧ y_sm (fun k w p => k = 30 ∧ w = 0 ∧ i ≤ p) d d' := by
  intro r
  induction r with
  | zero =>
    intro i fuel d hi h2
    have : i = n := by omega
    subst this
    refine ⟨d, ?_, fun j _ _ => by omega, y_sm_refl _ _⟩
    rw [e_X11_take_31, h2]
    simp (disch := omega) only [i_lit, i_ofNat, i_add, i_mul, i_sub, i_addn, i_subm, y_nsm, i_le, i_lt, i_nat, i_eq, i_div, i_nle, i_nlt, i_len, i_ltn, i_neq, i_eqn, i_and1, i_and63, i_and255, b8_sx, ob_some, if_true, if_false, and_self, true_and, if_pos, if_neg]
  | succ r ih =>
    intro i fuel d hi h2
    obtain ⟨d', g1, g2, g3⟩ := ih (i + 1) fuel (sl_up d 30 0 i (sl_sx (d.1 30 1 i))) (by omega) (by rw [up_ne (by omega)]; exact h2)
    refine ⟨d', ?_, ?_, ?_⟩
    · rw [show fuel + (r + 1) + 1 = fuel + r + 1 + 1 from rfl, e_X11_take_31, h2]
      simp (disch := omega) only [i_lit, i_ofNat, i_add, i_mul, i_sub, i_addn, i_subm, y_nsm, i_le, i_lt, i_nat, i_eq, i_div, i_nle, i_nlt, i_len, i_ltn, i_neq, i_eqn, i_and1, i_and63, i_and255, b8_sx, ob_some, if_true, if_false, and_self, true_and, if_pos, if_neg]
      exact g1
    · intro j hj hj2
      by_cases hji : j = i
      · subst hji; rw [y_sm_mb g3 (by omega), y_mb_up rfl rfl]; rfl
      · rw [g2 j (by omega) hj2, y_mb_ne (by omega)]
    · exact ⟨g3.1, fun k w p h => by rw [g3.2 k w p (by omega), up_ne (by omega)]⟩
theorem q_take (K : Nat) (c d : sl_M) (h : y_R K c d) : y_Q K c d (f_X10_take c) (f_X11_take d) := by
  have hR := h
  obtain ⟨mo, sp, wi, si, ti, _, ⟨n, m, t1, t2, t3⟩, _⟩ := h
  obtain ⟨q, hq⟩ : ∃ q, q = (if 1200 < m then 1200 else m) := ⟨_, rfl⟩
  have hq2 : q ≤ 1200 ∧ q ≤ m := by rw [hq]; split <;> omega
  obtain ⟨c1, hc1⟩ : ∃ c1, c1 = sl_up c 6 0 1 (sl_i 0) := ⟨_, rfl⟩
  obtain ⟨c', a1, a2, a3, a4⟩ := y_addPart c1 (r := 0) (f := 1) (s := 0) (n := q) (L := 0) (LF := m) (by rw [hc1, up_eq rfl rfl rfl]) (by rw [hc1, up_ne (by omega)]; exact t2.1) (by omega) (by omega) (by show m ≤ 1205; omega) (by show 0 + q ≤ 1200; omega) (by omega)
  obtain ⟨d', k1, k2, k3⟩ := y_take31 q hq2.1 q 0 (99998 - q) (sl_up (sl_up d 11 0 0 (sl_i 0)) 11 0 2 (sl_i q)) (by omega) (by rw [up_eq rfl rfl rfl])
  rw [show 99998 - q + q + 1 = 99999 by omega] at k1
  have hcs : y_sm (fun k w p => (k = 6 ∧ w = 0 ∧ p = 1) ∨ (k = 20 ∧ w = 0)) c c' := ⟨by rw [a4.1, hc1]; rfl, fun k w p h => by rw [a4.2 _ _ _ (by omega), hc1, up_ne (by omega)]⟩
  have hds : y_sm (fun k w p => (k = 30 ∧ w = 0) ∨ (k = 11 ∧ w = 0 ∧ (p = 0 ∨ p = 2))) d d' := ⟨by rw [k3.1]; rfl, fun k w p h => by rw [k3.2 _ _ _ (by omega), up_ne (by omega), up_ne (by omega)]⟩
  rw [Nat.zero_add] at a2
  refine y_QT (a := sl_i q) (c' := c') (d' := d') hR (y_sm_mono hcs (fun k w p q => by unfold y_zT; omega)) (y_sm_mono hds (fun k w p q => by unfold y_zTm; omega)) ⟨q, m, ⟨a2, ?_, hq2.1, ?_⟩, ⟨?_, ?_, t2.2.2.1, ?_⟩, ?_, ?_⟩ ?_ ?_ ?_
  · rw [k3.2 _ _ _ (by omega), up_eq rfl rfl rfl]
  · intro j hj
    have e1 := a3 j hj
    rw [Nat.zero_add] at e1
    rw [e1, k2 j (by omega) hj, hc1, y_rb_ne (by omega), y_mb_ne (by omega), y_mb_ne (by omega)]
    exact t2.2.2.2 j (by omega)
  · rw [hcs.2 _ _ _ (by omega)]; exact t2.1
  · rw [hds.2 _ _ _ (by omega)]; exact t2.2.1
  · intro j hj; rw [y_sm_rb hcs (by omega), y_sm_mb hds (by omega)]; exact t2.2.2.2 j hj
  · rw [hcs.2 _ _ _ (by omega), hds.2 _ _ _ (by omega)]; exact t3.1
  · rw [hcs.2 _ _ _ (by omega), hds.2 _ _ _ (by omega)]; exact t3.2
  · rw [e_X10_take, y_clear, ob_some, ← hc1, hc1, up_ne (by omega), t2.1, ← hc1]
    simp only [i_litN]
    rw [y_min c1 m 1200 (by omega) (by omega), ob_some, ← hq, a1, ob_some, a2]
  · rw [e_X11_take, t2.2.1]
    simp (disch := omega) only [i_lit, i_le]
    by_cases hm : 1200 ≤ m
    · have : q = 1200 := by rw [hq]; split <;> omega
      rw [this] at k1
      rw [if_pos hm, k1, this]
    · rw [if_neg (by omega)] at hq
      rw [hq] at k1
      rw [if_neg hm, k1, hq]
  · rw [k3.2 _ _ _ (by omega), up_ne (by omega), up_eq rfl rfl rfl]
theorem q_stuff (K : Nat) (c d : sl_M) (h : y_R K c d) : y_Q K c d (f_X10_stuff c) (f_X11_stuff d) := by
  have hR := h
  obtain ⟨mo, sp, wi, si, ti, _, ⟨n, m, t1, t2, t3⟩, _⟩ := h
  obtain ⟨d1, hd1⟩ : ∃ d1, d1 = sl_up (sl_up d 11 0 0 (sl_i 0)) 11 0 2 (sl_i 0) := ⟨_, rfl⟩
  obtain ⟨L, c', d', s1, s2, s3, s4, s5, s6, s7, s8⟩ := y_stuff (y_rb c 0) 0 1 0 1 0 n c d1 (by omega) (by omega) (by show n ≤ 1200; omega) (by omega) (by show _ ≤ 1205; omega) (by show _ ≤ 1300; omega) (by show _ ≤ 1200; omega)
    t1.1 (fun j _ => rfl) (fun j hj => by rw [hd1, y_mb_ne (by omega), y_mb_ne (by omega)]; exact (t1.2.2.2 j hj).symm)
  have hcs : y_sm (fun k w p => (k = 6 ∧ w ≤ 1) ∨ (k = 20 ∧ w = 1)) c (sl_up c' 6 0 1 (sl_i 0)) := ⟨by rw [up_2, s7.1], fun k w p h => by rw [up_ne (by omega), s7.2 _ _ _ (by omega)]⟩
  have hds : y_sm (fun k w p => (k = 30 ∧ w = 1) ∨ (k = 11 ∧ w = 0 ∧ (p = 0 ∨ p = 2 ∨ p = 4))) d (sl_up d' 11 0 4 (sl_i L)) := ⟨by rw [up_2, s8.1, hd1]; rfl, fun k w p h => by rw [up_ne (by omega), s8.2 _ _ _ (by omega), hd1, up_ne (by omega), up_ne (by omega)]⟩
  refine y_QT (a := sl_i L) (c' := sl_up c' 6 0 1 (sl_i 0)) (d' := sl_up d' 11 0 4 (sl_i L)) hR (y_sm_mono hcs (fun k w p q => by unfold y_zT; omega)) (y_sm_mono hds (fun k w p q => by unfold y_zTm; omega)) ⟨0, L, ⟨?_, ?_, by omega, fun j hj => by omega⟩, ⟨?_, ?_, by omega, ?_⟩, ?_, ?_⟩ ?_ ?_ ?_
  · rw [up_eq rfl rfl rfl]
  · rw [up_ne (by omega), s8.2 _ _ _ (by omega), hd1, up_eq rfl rfl rfl]
  · rw [up_ne (by omega)]; exact s3
  · rw [up_eq rfl rfl rfl]
  · intro j hj
    have := s6.1 j hj
    rw [Nat.zero_add] at this
    rw [y_rb_ne (by omega), y_mb_ne (by omega)]; exact this
  · rw [hcs.2 _ _ _ (by omega), hds.2 _ _ _ (by omega)]; exact t3.1
  · rw [hcs.2 _ _ _ (by omega), hds.2 _ _ _ (by omega)]; exact t3.2
  · rw [e_X10_stuff, s1, ob_some, y_clear, ob_some, up_ne (by omega), s3]
  · rw [e_X11_stuff, t1.2.1]
    simp only [i_litN]
    rw [← hd1, s2, ob_some]
  · rw [up_ne (by omega), s8.2 _ _ _ (by omega), hd1, up_ne (by omega), up_eq rfl rfl rfl]
theorem y_unst47 (n : Nat) (hn : n ≤ 1200) : ∀ r i fuel (d : sl_M), i + r = n →
    ∃ d', b_X11_unstuff_47 (fuel + r + 1) (sl_i n) (sl_i i) d = some ((sl_i n, 0, 0), sl_up d' 11 0 4 (sl_i n)) ∧ (∀ j, i ≤ j → j < n → y_mb d' 1 j = y_mb d 2 j) ∧ y_sm (fun k w p => k = 30 ∧ w = 1 ∧ i ≤ p) d d' := by
  intro r
  induction r with
  | zero =>
    intro i fuel d hi
    have : i = n := by omega
    subst this
    refine ⟨d, ?_, fun j _ _ => by omega, y_sm_refl _ _⟩
    rw [e_X11_unstuff_47]
    simp (disch := omega) only [i_lit, i_ofNat, i_add, i_mul, i_sub, i_addn, i_subm, y_nsm, i_le, i_lt, i_nat, i_eq, i_div, i_nle, i_nlt, i_len, i_ltn, i_neq, i_eqn, i_and1, i_and63, i_and255, b8_sx, ob_some, if_true, if_false, and_self, true_and, if_pos, if_neg]
  | succ r ih =>
    intro i fuel d hi
    obtain ⟨d', g1, g2, g3⟩ := ih (i + 1) fuel (sl_up d 30 1 i (sl_sx (d.1 30 2 i))) (by omega)
    refine ⟨d', ?_, ?_, ?_⟩
    · rw [show fuel + (r + 1) + 1 = fuel + r + 1 + 1 from rfl, e_X11_unstuff_47]
      simp (disch := omega) only [i_lit, i_ofNat, i_add, i_mul, i_sub, i_addn, i_subm, y_nsm, i_le, i_lt, i_nat, i_eq, i_div, i_nle, i_nlt, i_len, i_ltn, i_neq, i_eqn, i_and1, i_and63, i_and255, b8_sx, ob_some, if_true, if_false, and_self, true_and, if_pos, if_neg]
      exact g1
    · intro j hj hj2
      by_cases hji : j = i
      · subst hji; rw [y_sm_mb g3 (by omega), y_mb_up rfl rfl]; rfl
      · rw [g2 j (by omega) hj2, y_mb_ne (by omega)]
    · exact ⟨g3.1, fun k w p h => by rw [g3.2 k w p (by omega), up_ne (by omega)]⟩
theorem q_unstuff (K : Nat) (c d : sl_M) (h : y_R K c d) : y_Q K c d (f_X10_unstuff c) (f_X11_unstuff d) := by
  have hR := h
  obtain ⟨mo, sp, wi, si, ti, _, ⟨n, m, t1, t2, t3⟩, _⟩ := h
  obtain ⟨d1, hd1⟩ : ∃ d1, d1 = sl_up (sl_up (sl_up (sl_up d 11 0 0 (sl_i 0)) 11 0 2 (sl_i 0)) 11 0 6 (sl_i 0)) 11 0 7 (-(sl_i 1)) := ⟨_, rfl⟩
  have hd1s : y_sm (fun k w p => k = 11 ∧ w = 0 ∧ (p = 0 ∨ p = 2 ∨ p = 6 ∨ p = 7)) d d1 := by
    rw [hd1]; exact ⟨rfl, fun k w p h => by rw [up_ne (by omega), up_ne (by omega), up_ne (by omega), up_ne (by omega)]⟩
  have hd0 : d1.1 11 0 0 = sl_i 0 := by rw [hd1, up_ne (by omega), up_ne (by omega), up_ne (by omega), up_eq rfl rfl rfl]
  have hd2 : d1.1 11 0 2 = sl_i 0 := by rw [hd1, up_ne (by omega), up_ne (by omega), up_eq rfl rfl rfl]
  have hd6 : d1.1 11 0 6 = sl_i 0 := by rw [hd1, up_ne (by omega), up_eq rfl rfl rfl]
  have hd7 : d1.1 11 0 7 = -(sl_i 1) := by rw [hd1, up_eq rfl rfl rfl]
  have heq : f_X11_unstuff d = (f_X11_unstuffed 0 (sl_i n) 2 d1).bind (fun q1 => if sl_i 0 ≤ q1.1.1 then b_X11_unstuff_47 99999 q1.1.1 (sl_i 0) q1.2 else some ((-(sl_i 1), 0, 0), q1.2)) := by
    rw [e_X11_unstuff, t1.2.1]
    simp only [i_litN]
    rw [← hd1]
  rcases y_unst 0 0 1 0 2 n c d1 (by omega) (by omega) (by omega) (by show n ≤ 1200; omega) (by show n ≤ 1205; omega) (by show n ≤ 1200; omega) (by show n ≤ 1300; omega) t1.1
    (fun j hj => by rw [y_sm_mb hd1s (by omega)]; exact t1.2.2.2 j hj) with ⟨kind, place, c', d', r1, r2, r3, r4, r5, r6, r7, r8⟩ | ⟨M, c', u', d', r1, r2, r3, r4, r5, r6, r7, r8, r9, r10, r11⟩
  · have hcs : y_sm (fun k w p => (k = 6 ∧ w = 0 ∧ p = 1) ∨ (k = 3 ∧ w = 0 ∧ p ≤ 1)) c (sl_up c' 6 0 1 (sl_i 0)) := ⟨by rw [up_2, r7.1], fun k w p h => by rw [up_ne (by omega), r7.2 _ _ _ (by omega)]⟩
    have hds : y_sm (fun k w p => (k = 30 ∧ w = 2) ∨ (k = 11 ∧ w = 0 ∧ (p = 0 ∨ p = 2 ∨ p = 6 ∨ p = 7))) d (sl_up (sl_up d' 11 0 6 (sl_i kind)) 11 0 7 (sl_i place)) :=
      ⟨by rw [up_2, up_2, r8.1, hd1s.1], fun k w p h => by rw [up_ne (by omega), up_ne (by omega), r8.2 _ _ _ (by omega), hd1s.2 _ _ _ (by omega)]⟩
    refine y_QT (a := -(sl_i 1)) hR (y_sm_mono hcs (fun k w p q => by unfold y_zT; omega)) (y_sm_mono hds (fun k w p q => by unfold y_zTm; omega)) ⟨0, m, ⟨?_, ?_, by omega, fun j hj => by omega⟩, ⟨?_, ?_, t2.2.2.1, ?_⟩, ?_, ?_⟩ ?_ ?_ ?_
    · rw [up_eq rfl rfl rfl]
    · rw [up_ne (by omega), up_ne (by omega), r8.2 _ _ _ (by omega)]; exact hd2
    · rw [hcs.2 _ _ _ (by omega)]; exact t2.1
    · rw [hds.2 _ _ _ (by omega)]; exact t2.2.1
    · intro j hj; rw [y_sm_rb hcs (by omega), y_sm_mb hds (by omega)]; exact t2.2.2.2 j hj
    · rw [up_ne (by omega), up_ne (by omega), up_eq rfl rfl rfl]; exact r5
    · rw [up_ne (by omega), up_eq rfl rfl rfl]; exact r6
    · rw [e_X10_unstuff, r1, ob_some, y_clear]
      simp (disch := omega) only [i_lit, i_ofNat, i_add, i_mul, i_sub, i_addn, i_subm, y_nsm, i_le, i_lt, i_nat, i_eq, i_div, i_nle, i_nlt, i_len, i_ltn, i_neq, i_eqn, i_and1, i_and63, i_and255, b8_sx, ob_some, if_true, if_false, and_self, true_and, if_pos, if_neg]
    · rw [heq, r2, ob_some]
      simp (disch := omega) only [i_lit, i_ofNat, i_add, i_mul, i_sub, i_addn, i_subm, y_nsm, i_le, i_lt, i_nat, i_eq, i_div, i_nle, i_nlt, i_len, i_ltn, i_neq, i_eqn, i_and1, i_and63, i_and255, b8_sx, ob_some, if_true, if_false, and_self, true_and, if_pos, if_neg]
    · rw [up_ne (by omega), up_ne (by omega), r8.2 _ _ _ (by omega)]; exact hd0
  · obtain ⟨d2, k1, k2, k3⟩ := y_unst47 M (by omega) M 0 (99998 - M) d' (by omega)
    rw [show 99998 - M + M + 1 = 99999 by omega] at k1
    have hcs : y_sm (fun k w p => (k = 6 ∧ w ≤ 1) ∨ (k = 3 ∧ w = 0 ∧ p ≤ 1) ∨ (k = 20 ∧ w = 1)) c (sl_up u' 6 0 1 (sl_i 0)) := ⟨by rw [up_2, r10.1], fun k w p h => by rw [up_ne (by omega), r10.2 _ _ _ (by omega)]⟩
    have hds : y_sm (fun k w p => (k = 30 ∧ (w = 1 ∨ w = 2)) ∨ (k = 11 ∧ w = 0 ∧ (p = 0 ∨ p = 2 ∨ p = 4 ∨ p = 6 ∨ p = 7))) d (sl_up d2 11 0 4 (sl_i M)) :=
      ⟨by rw [up_2, k3.1, r11.1, hd1s.1], fun k w p h => by rw [up_ne (by omega), k3.2 _ _ _ (by omega), r11.2 _ _ _ (by omega), hd1s.2 _ _ _ (by omega)]⟩
    refine y_QT (a := sl_i M) hR (y_sm_mono hcs (fun k w p q => by unfold y_zT; omega)) (y_sm_mono hds (fun k w p q => by unfold y_zTm; omega)) ⟨0, M, ⟨?_, ?_, by omega, fun j hj => by omega⟩, ⟨?_, ?_, by omega, ?_⟩, ?_, ?_⟩ ?_ ?_ ?_
    · rw [up_eq rfl rfl rfl]
    · rw [up_ne (by omega), k3.2 _ _ _ (by omega), r11.2 _ _ _ (by omega)]; exact hd2
    · rw [up_ne (by omega)]; exact r6
    · rw [up_eq rfl rfl rfl]
    · intro j hj; rw [y_rb_ne (by omega), y_mb_ne (by omega), k2 j (by omega) hj]; exact r8 j hj
    · rw [up_ne (by omega), up_ne (by omega), k3.2 _ _ _ (by omega), r11.2 _ _ _ (by omega), hd6]; exact r4
    · rw [up_ne (by omega), up_ne (by omega), k3.2 _ _ _ (by omega), r11.2 _ _ _ (by omega), hd7]; exact r5
    · rw [e_X10_unstuff, r1, ob_some]
      simp (disch := omega) only [i_lit, i_ofNat, i_add, i_mul, i_sub, i_addn, i_subm, y_nsm, i_le, i_lt, i_nat, i_eq, i_div, i_nle, i_nlt, i_len, i_ltn, i_neq, i_eqn, i_and1, i_and63, i_and255, b8_sx, ob_some, if_true, if_false, and_self, true_and, if_pos, if_neg, r2, y_clear, up_eq, up_ne]
      rw [r6]
    · rw [heq, r3, ob_some]
      simp (disch := omega) only [i_lit, i_ofNat, i_add, i_mul, i_sub, i_addn, i_subm, y_nsm, i_le, i_lt, i_nat, i_eq, i_div, i_nle, i_nlt, i_len, i_ltn, i_neq, i_eqn, i_and1, i_and63, i_and255, b8_sx, ob_some, if_true, if_false, and_self, true_and, if_pos, if_neg]
      exact k1
    · rw [up_ne (by omega), k3.2 _ _ _ (by omega), r11.2 _ _ _ (by omega)]; exact hd0
theorem q_fault (K : Nat) (a : Int32) (c d : sl_M) (h : y_R K c d) : y_Q K c d (f_X10_fault a c) (f_X11_fault a d) := by
  have hR := h
  obtain ⟨mo, sp, wi, si, ti, _, ⟨n, m, t1, t2, t3⟩, _⟩ := h
  rw [e_X10_fault, e_X11_fault, t3.1, t3.2]
  simp only [i_litN]
  by_cases h0 : a = sl_i 0
  · rw [if_pos h0, if_pos h0]; exact y_Qr hR rfl rfl
  · rw [if_neg h0, if_neg h0]
    by_cases h1 : a = sl_i 1
    · rw [if_pos h1, if_pos h1]; exact y_Qr hR rfl rfl
    · rw [if_neg h1, if_neg h1]; exact y_Qr hR rfl rfl
theorem q_check (K : Nat) (c d : sl_M) (h : y_R K c d) : y_Q K c d (f_X10_check c) (f_X11_check d) := by
  have hR := h
  obtain ⟨mo, sp, wi, si, ti, _, ⟨n, m, t1, t2, t3⟩, hE⟩ := h
  obtain ⟨⟨fi, nn, hE0⟩, _⟩ := hE 0 (by omega)
  obtain ⟨d1, hd1⟩ : ∃ d1, d1 = sl_up (sl_up d 11 0 0 (sl_i 0)) 11 0 2 (sl_i 0) := ⟨_, rfl⟩
  have hd1s : y_sm (fun k w p => k = 11 ∧ w = 0 ∧ (p = 0 ∨ p = 2)) d d1 := by rw [hd1]; exact ⟨rfl, fun k w p h => by rw [up_ne (by omega), up_ne (by omega)]⟩
  have h1 := y_ckX0 0 n n c t1.1 (by omega) (by show n ≤ 1200; omega) (by omega)
  have h2 := y_ckX11 0 0 n d1 (fun k hk => by rw [hd1s.2 _ _ _ (by omega)]; exact hE0.2.2.1 k hk) (by show 0 + n ≤ 1200; omega) (by omega)
  have h3 : y_crc (fun j => sl_b8 (d1.1 30 0 (0 + j))) n = y_crc (fun j => sl_b8 (c.1 20 0 j)) n := by
    apply y_crc_ext
    intro i hi
    rw [Nat.zero_add, hd1s.2 _ _ _ (by omega)]
    exact (t1.2.2.2 i hi).symm
  rw [h3] at h2
  have hcs : y_sm (fun k w p => k = 6 ∧ w = 0 ∧ p = 1) c (sl_up c 6 0 1 (sl_i 0)) := y_sm_up (y_sm_refl _ _) (fun _ _ _ h => h) (by omega)
  refine y_QT (a := y_crc (fun j => sl_b8 (c.1 20 0 j)) n ^^^ -sl_i 1) (c' := sl_up c 6 0 1 (sl_i 0)) (d' := d1) hR (y_sm_mono hcs (fun k w p q => by unfold y_zT; omega)) (y_sm_mono hd1s (fun k w p q => by unfold y_zTm; omega)) ⟨0, m, ⟨?_, ?_, by omega, fun j hj => by omega⟩, ⟨?_, ?_, t2.2.2.1, ?_⟩, ?_, ?_⟩ ?_ ?_ ?_
  · rw [up_eq rfl rfl rfl]
  · rw [hd1, up_eq rfl rfl rfl]
  · rw [hcs.2 _ _ _ (by omega)]; exact t2.1
  · rw [hd1s.2 _ _ _ (by omega)]; exact t2.2.1
  · intro j hj; rw [y_sm_rb hcs (by omega), y_sm_mb hd1s (by omega)]; exact t2.2.2.2 j hj
  · rw [hcs.2 _ _ _ (by omega), hd1s.2 _ _ _ (by omega)]; exact t3.1
  · rw [hcs.2 _ _ _ (by omega), hd1s.2 _ _ _ (by omega)]; exact t3.2
  · rw [e_X10_check, t1.1, h1, ob_some, y_clear, ob_some]
  · rw [e_X11_check, t1.2.1]
    simp only [i_litN]
    rw [← hd1, h2, ob_some]
  · rw [hd1, up_ne (by omega), up_eq rfl rfl rfl]
theorem y_atAny (m : sl_M) {r L : Nat} (a : Int32) (hl : m.1 6 r 1 = sl_i L) (hc : L ≤ sl_lr r) :
    f_X6_at r a m = some ((if a < sl_i 0 then -(sl_i 1) else if a < sl_i L then sl_i (y_rb m r a.toNatClampNeg) else -(sl_i 1), 0, 0), m) := by
  have hb := y_lr_lt r
  by_cases h0 : a < sl_i 0
  · rw [if_pos h0, y_at_neg h0]
  · rw [if_neg h0]
    obtain ⟨k, hk, rfl⟩ := y_nn a h0
    simp (disch := omega) only [i_lt, i_nat]
    by_cases hkL : k < L
    · rw [if_pos hkL, y_at m hl hkL hc]
    · rw [if_neg hkL, y_at_out hl (by omega) hc hb hk]
theorem q_out (K : Nat) (a : Int32) (c d : sl_M) (h : y_R K c d) : y_Q K c d (f_X10_out a c) (f_X11_out a d) := by
  have hR := h
  obtain ⟨mo, sp, wi, si, ti, _, ⟨n, m, t1, t2, t3⟩, _⟩ := h
  rw [e_X10_out, e_X11_out, y_atAny c a t2.1 (by show m ≤ 1205; omega), ob_some, t2.2.1]
  simp only [i_litN]
  by_cases h0 : a < sl_i 0
  · rw [if_pos h0, if_pos h0]; exact y_Qr hR rfl rfl
  · rw [if_neg h0, if_neg h0]
    obtain ⟨k, hk, rfl⟩ := y_nn a h0
    simp (disch := omega) only [i_lit, i_ofNat, i_add, i_mul, i_sub, i_addn, i_subm, y_nsm, i_le, i_lt, i_nat, i_eq, i_div, i_nle, i_nlt, i_len, i_ltn, i_neq, i_eqn, i_and1, i_and63, i_and255, b8_sx, ob_some, if_true, if_false, and_self, true_and, if_pos, if_neg]
    by_cases hk2 : k < m
    · rw [if_pos hk2, if_pos hk2]
      refine y_Qr (a := sl_i (y_rb c 1 k)) hR rfl ?_
      rw [t2.2.2.2 k hk2]; rfl
    · rw [if_neg hk2, if_neg hk2]; exact y_Qr hR rfl rfl
