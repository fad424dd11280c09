/-! a tick of one end -/
def y_zP (e k w p : Nat) : Prop := (k = 7 ∧ w = e) ∨ (((k = 6 ∧ p = 1) ∨ k = 20) ∧ w = 4 + e) ∨ (23 ≤ k ∧ k ≤ 26 ∧ w = e)
def y_zPd (e k w p : Nat) : Prop := ((k = 51 ∨ k = 53 ∨ k = 54 ∨ k = 55 ∨ k = 56) ∧ w = 0 ∧ p = e) ∨ ((k = 58 ∨ k = 59 ∨ k = 70) ∧ w = 0 ∧ 3002 * e ≤ p ∧ p < 3002 * e + 3002) ∨ (k = 30 ∧ w = 3 ∧ 3000 * e ≤ p ∧ p < 3000 * e + 3000)
/-- a piece from base to next -/
def y_pc (e si P ck p : Nat) (c d : sl_M) : Prop := ∃ st sz ti ke : Nat,
  (c.1 23 e (p % 64) = sl_i st ∧ d.1 58 0 (3002 * e + p) = sl_i st) ∧ (c.1 24 e (p % 64) = sl_i sz ∧ d.1 58 0 (3002 * e + p + 1) = sl_i (st + sz) ∧ 1 ≤ sz ∧ sz ≤ si ∧ st + sz ≤ P) ∧
  (c.1 25 e (p % 64) = sl_i ti ∧ d.1 59 0 (3002 * e + p) = sl_i ti ∧ ti ≤ ck) ∧ (c.1 26 e (p % 64) = sl_i ke ∧ d.1 70 0 (3002 * e + p) = sl_i ke ∧ ke ≤ 1)
def y_gPx (e wi si G P ck tm ba ne : Nat) (c d : sl_M) : Prop :=
  (c.1 6 (4 + e) 1 = sl_i G ∧ d.1 51 0 e = sl_i G ∧ G ≤ 3000 ∧ ∀ j, j < G → y_rb c (4 + e) j = y_mb d 3 (3000 * e + j)) ∧
  (c.1 7 e 4 = sl_i P ∧ d.1 58 0 (3002 * e + ne) = sl_i P ∧ P ≤ G) ∧ (c.1 7 e 5 = sl_i ck ∧ d.1 53 0 e = sl_i ck) ∧
  (c.1 7 e 6 = sl_i tm ∧ d.1 54 0 e = sl_i tm ∧ tm ≤ ck) ∧ (c.1 7 e 7 = sl_i ba ∧ d.1 55 0 e = sl_i ba) ∧ (c.1 7 e 8 = sl_i ne ∧ d.1 56 0 e = sl_i ne) ∧
  (ba ≤ ne ∧ ne ≤ ba + wi ∧ ne ≤ P) ∧ ∀ p, ba ≤ p → p < ne → y_pc e si P ck p c d
theorem y_pc_cong {e si P ck p : Nat} {c d c' d' : sl_M} (h : y_pc e si P ck p c d) (q : ∀ k, 23 ≤ k → k ≤ 26 → c'.1 k e (p % 64) = c.1 k e (p % 64))
    (r : ∀ k, k = 58 ∨ k = 59 ∨ k = 70 → d'.1 k 0 (3002 * e + p) = d.1 k 0 (3002 * e + p)) (r1 : d'.1 58 0 (3002 * e + p + 1) = d.1 58 0 (3002 * e + p + 1)) : y_pc e si P ck p c' d' := by
  obtain ⟨st, sz, ti, ke, a1, a2, a3, a4⟩ := h
  refine ⟨st, sz, ti, ke, ⟨?_, ?_⟩, ⟨?_, ?_, a2.2.2⟩, ⟨?_, ?_, a3.2.2⟩, ⟨?_, ?_, a4.2.2⟩⟩
  · rw [q _ (by omega) (by omega)]; exact a1.1
  · rw [r _ (by omega)]; exact a1.2
  · rw [q _ (by omega) (by omega)]; exact a2.1
  · rw [r1]; exact a2.2.1
  · rw [q _ (by omega) (by omega)]; exact a3.1
  · rw [r _ (by omega)]; exact a3.2.1
  · rw [q _ (by omega) (by omega)]; exact a4.1
  · rw [r _ (by omega)]; exact a4.2.1
theorem y_gPx_cong {e wi si G P ck tm ba ne : Nat} {c d c' d' : sl_M} {S T : Nat → Nat → Nat → Prop} (h : y_gPx e wi si G P ck tm ba ne c d) (he : e < 2) (hc : y_sm S c c') (hd : y_sm T d d')
    (hS : ∀ k w p, y_zP e k w p → ¬ S k w p) (hT : ∀ k w p, y_zPd e k w p → ¬ T k w p) : y_gPx e wi si G P ck tm ba ne c' d' := by
  obtain ⟨a1, a2, a3, a4, a5, a6, a7, a8⟩ := h
  have q : ∀ k w p, y_zP e k w p → c'.1 k w p = c.1 k w p := fun k w p h => hc.2 k w p (hS k w p h)
  have r : ∀ k w p, y_zPd e k w p → d'.1 k w p = d.1 k w p := fun k w p h => hd.2 k w p (hT k w p h)
  refine ⟨⟨?_, ?_, a1.2.2.1, ?_⟩, ⟨?_, ?_, a2.2.2⟩, ⟨?_, ?_⟩, ⟨?_, ?_, a4.2.2⟩, ⟨?_, ?_⟩, ⟨?_, ?_⟩, a7, ?_⟩
  · rw [q _ _ _ (by unfold y_zP; omega)]; exact a1.1
  · rw [r _ _ _ (by unfold y_zPd; omega)]; exact a1.2.1
  · intro j hj
    have e1 : y_rb c' (4 + e) j = y_rb c (4 + e) j := by unfold y_rb; rw [q _ _ _ (by unfold y_zP; omega)]
    have e2 : y_mb d' 3 (3000 * e + j) = y_mb d 3 (3000 * e + j) := by unfold y_mb; rw [r _ _ _ (by unfold y_zPd; omega)]
    rw [e1, e2]; exact a1.2.2.2 j hj
  · rw [q _ _ _ (by unfold y_zP; omega)]; exact a2.1
  · rw [r _ _ _ (by unfold y_zPd; omega)]; exact a2.2.1
  · rw [q _ _ _ (by unfold y_zP; omega)]; exact a3.1
  · rw [r _ _ _ (by unfold y_zPd; omega)]; exact a3.2
  · rw [q _ _ _ (by unfold y_zP; omega)]; exact a4.1
  · rw [r _ _ _ (by unfold y_zPd; omega)]; exact a4.2.1
  · rw [q _ _ _ (by unfold y_zP; omega)]; exact a5.1
  · rw [r _ _ _ (by unfold y_zPd; omega)]; exact a5.2
  · rw [q _ _ _ (by unfold y_zP; omega)]; exact a6.1
  · rw [r _ _ _ (by unfold y_zPd; omega)]; exact a6.2
  · intro p h1 h2
    exact y_pc_cong (a8 p h1 h2) (fun k _ _ => q _ _ _ (by unfold y_zP; omega)) (fun k _ => r _ _ _ (by unfold y_zPd; omega)) (r _ _ _ (by unfold y_zPd; omega))
theorem y_zP_L {e k w p : Nat} (he : e < 2) (h : y_zP e k w p) : ¬ y_zLc e k w p := fun q => by have := y_zLc0 q he; unfold y_zP at h; omega
theorem y_zPd_L {e k w p : Nat} (he : e < 2) (h : y_zPd e k w p) : ¬ y_zLd e k w p := fun q => by have := y_zLd0 q he; unfold y_zPd at h; omega
theorem y_gS_cong {mo sp wi si ti : Nat} {c d c' d' : sl_M} (h : y_gS mo sp wi si ti c d) (q : ∀ p, c'.1 8 0 p = c.1 8 0 p) (r : ∀ p, 9 ≤ p → p ≤ 13 → d'.1 11 0 p = d.1 11 0 p) : y_gS mo sp wi si ti c' d' := by
  obtain ⟨⟨a0, a1, a2, a3, a4⟩, ⟨b0, b1, b2, b3, b4⟩, h3⟩ := h
  refine ⟨⟨?_, ?_, ?_, ?_, ?_⟩, ⟨?_, ?_, ?_, ?_, ?_⟩, h3⟩
  · rw [q]; exact a0
  · rw [q]; exact a1
  · rw [q]; exact a2
  · rw [q]; exact a3
  · rw [q]; exact a4
  · rw [r _ (by omega) (by omega)]; exact b0
  · rw [r _ (by omega) (by omega)]; exact b1
  · rw [r _ (by omega) (by omega)]; exact b2
  · rw [r _ (by omega) (by omega)]; exact b3
  · rw [r _ (by omega) (by omega)]; exact b4
theorem y_gS_L {mo sp wi si ti e : Nat} {c d c' d' : sl_M} (h : y_gS mo sp wi si ti c d) (he : e < 2) (hc : y_sm (y_zLc e) c c') (hd : y_sm (y_zLd e) d d') : y_gS mo sp wi si ti c' d' :=
  y_gS_cong h (fun p => hc.2 _ _ _ (fun q => by have := y_zLc0 q he; omega)) (fun p _ _ => hd.2 _ _ _ (fun q => by have := y_zLd0 q he; omega))
theorem y_hv_L {e : Nat} {d d' : sl_M} (h : y_hv d) (he : e < 2) (hd : y_sm (y_zLd e) d d') : y_hv d' :=
  fun k hk => by rw [hd.2 _ _ _ (fun q => by have := y_zLd0 q he; omega)]; exact h k hk
/-- one piece from base to next is laid again -/
theorem y_again (mo sp wi si ti e fi n G P ck tm ba ne p : Nat) (c d : sl_M) (he : e < 2) (hS : y_gS mo sp wi si ti c d) (hL : y_gL e fi n c d) (hv : y_hv d) (hC : y_g3 c d)
    (hP : y_gPx e wi si G P ck tm ba ne c d) (h1 : ba ≤ p) (h2 : p < ne) :
    ∃ c' d' n', f_X7_layPiece e (sl_i p) (sl_i 1) c = some ((sl_i 0, 0, 0), c') ∧ f_X11_layPiece (sl_i e) (sl_i p) (sl_i 1) d = some ((sl_i 0, 0, 0), d') ∧
      y_gL e fi n' c' d' ∧ y_g3 c' d' ∧ d'.1 68 0 0 = d.1 68 0 0 + sl_i 1 ∧ y_sm (y_zLc e) c c' ∧ y_sm (y_zLd e) d d' := by
  obtain ⟨a1, a2, a3, a4, a5, a6, a7, a8⟩ := hP
  obtain ⟨st, sz, t, ke, b1, b2, b3, b4⟩ := a8 p h1 h2
  have hsi : si ≤ 60 := hS.2.2.2.2.2.2.2.2.2.1
  obtain ⟨c', d', r1, r2, r3, r4, r5, r6, r7⟩ := y_layPiece mo sp wi si ti e fi n p st sz 1 c d he hS hL hv hC G a1.1 a1.2.2.1 a1.2.2.2 (by omega) b1.1 b2.1 b1.2 b2.2.1 (by omega) (by omega) (by omega)
  exact ⟨c', d', _, r1, r2, r3, r4, r5, r6, r7⟩
theorem y_all26 (mo sp wi si ti e fi G P ck tm ba ne : Nat) (he : e < 2) : ∀ k p n fuel fuel' (c d : sl_M), p + k = ne → ba ≤ p → y_gS mo sp wi si ti c d → y_gL e fi n c d → y_hv d → y_g3 c d →
    y_gPx e wi si G P ck tm ba ne c d →
    ∃ c' d' n', b_X7_layAllIfLate_26 (fuel + k) e (sl_i p) c = b_X7_layAllIfLate_26 fuel e (sl_i ne) c' ∧ b_X11_tickOf_60 (fuel' + k) (sl_i e) (sl_i p) d = b_X11_tickOf_60 fuel' (sl_i e) (sl_i ne) d' ∧
      y_gL e fi n' c' d' ∧ y_g3 c' d' ∧ d'.1 68 0 0 = d.1 68 0 0 + sl_i k ∧ y_sm (y_zLc e) c c' ∧ y_sm (y_zLd e) d d' := by
  intro k
  induction k with
  | zero =>
    intro p n fuel fuel' c d hp hb hS hL hv hC hP
    have : p = ne := by omega
    subst this
    exact ⟨c, d, n, rfl, rfl, hL, hC, (Int32.add_zero _).symm, y_sm_refl _ _, y_sm_refl _ _⟩
  | succ k ih =>
    intro p n fuel fuel' c d hp hb hS hL hv hC hP
    obtain ⟨c1, d1, n1, r1, r2, r3, r4, r5, r6, r7⟩ := y_again mo sp wi si ti e fi n G P ck tm ba ne p c d he hS hL hv hC hP hb (by omega)
    obtain ⟨c2, d2, n2, s1, s2, s3, s4, s5, s6, s7⟩ := ih (p + 1) n1 fuel fuel' c1 d1 (by omega) (by omega) (y_gS_L hS he r6 r7) r3 (y_hv_L hv he r7) r4
      (y_gPx_cong hP he r6 r7 (fun _ _ _ h => y_zP_L he h) (fun _ _ _ h => y_zPd_L he h))
    obtain ⟨a1, a2, a3, a4, a5, a6, a7, a8⟩ := hP
    refine ⟨c2, d2, n2, ?_, ?_, s3, s4, ?_, y_sm_tr r6 s6 (fun _ _ _ h => h) (fun _ _ _ h => h), y_sm_tr r7 s7 (fun _ _ _ h => h) (fun _ _ _ h => h)⟩
    · rw [show fuel + (k + 1) = fuel + k + 1 from rfl, e_X7_layAllIfLate_26, a6.1]
      simp (disch := omega) only [i_lit, i_ofNat, i_add, i_mul, i_sub, i_addn, i_subm, y_nsm, i_le, i_lt, i_nat, i_eq, i_div, i_nle, i_nlt, i_len, i_ltn, i_neq, i_eqn, i_and1, i_and63, i_and255, b8_sx, ob_some, if_true, if_false, and_self, true_and, if_pos, if_neg]
      rw [r1, ob_some]; exact s1
    · rw [show fuel' + (k + 1) = fuel' + k + 1 from rfl, e_X11_tickOf_60]
      simp (disch := omega) only [i_lit, i_ofNat, i_add, i_mul, i_sub, i_addn, i_subm, y_nsm, i_le, i_lt, i_nat, i_eq, i_div, i_nle, i_nlt, i_len, i_ltn, i_neq, i_eqn, i_and1, i_and63, i_and255, b8_sx, ob_some, if_true, if_false, and_self, true_and, if_pos, if_neg, a6.2]
      rw [r2, ob_some]; exact s2
    · rw [s5, r5, Int32.add_assoc, i_add, Nat.add_comm 1 k]
/-- mode 2: those that are late, one by one -/
theorem y_late7 (mo sp wi si ti e fi G P ck tm ba ne : Nat) (he : e < 2) (hck : ck < 100000) : ∀ k p n v fuel fuel' (c d : sl_M), p + k = ne → ba ≤ p → v + k < 100000 → y_gS mo sp wi si ti c d → y_gL e fi n c d → y_hv d → y_g3 c d →
    y_gPx e wi si G P ck tm ba ne c d →
    ∃ c' d' n' a, a ≤ k ∧ b_X7_layLateOnes_7 (fuel + k + 1) e (sl_i v) (sl_i p) c = some ((sl_i (v + a), 0, 0), c') ∧ b_X11_tickOf_105 (fuel' + k + 1) (sl_i e) (sl_i p) d = b_X11_tickOf_180 fuel' (sl_i e) d' ∧
      y_gL e fi n' c' d' ∧ y_g3 c' d' ∧ d'.1 68 0 0 = d.1 68 0 0 + sl_i a ∧ y_gPx e wi si G P ck tm ba ne c' d' ∧
      y_sm (fun k w p => y_zLc e k w p ∨ y_zP e k w p) c c' ∧ y_sm (fun k w p => y_zLd e k w p ∨ y_zPd e k w p) d d' := by
  intro k
  induction k with
  | zero =>
    intro p n v fuel fuel' c d hp hb hvv hS hL hv hC hP
    have : p = ne := by omega
    subst this
    have hP' := hP
    obtain ⟨a1, a2, a3, a4, a5, a6, a7, a8⟩ := hP
    refine ⟨c, d, n, 0, by omega, ?_, ?_, hL, hC, (Int32.add_zero _).symm, hP', y_sm_refl _ _, y_sm_refl _ _⟩
    · rw [e_X7_layLateOnes_7, a6.1]
      simp (disch := omega) only [i_lit, i_ofNat, i_add, i_mul, i_sub, i_addn, i_subm, y_nsm, i_le, i_lt, i_nat, i_eq, i_div, i_nle, i_nlt, i_len, i_ltn, i_neq, i_eqn, i_and1, i_and63, i_and255, b8_sx, ob_some, if_true, if_false, and_self, true_and, if_pos, if_neg, Nat.add_zero]
    · rw [e_X11_tickOf_105]
      simp (disch := omega) only [i_lit, i_ofNat, i_add, i_mul, i_sub, i_addn, i_subm, y_nsm, i_le, i_lt, i_nat, i_eq, i_div, i_nle, i_nlt, i_len, i_ltn, i_neq, i_eqn, i_and1, i_and63, i_and255, b8_sx, ob_some, if_true, if_false, and_self, true_and, if_pos, if_neg, a6.2, Nat.add_zero]
  | succ k ih =>
    intro p n v fuel fuel' c d hp hb hvv hS hL hv hC hP
    have hP' := hP
    obtain ⟨a1, a2, a3, a4, a5, a6, a7, a8⟩ := hP
    obtain ⟨st, sz, t, ke, b1, b2, b3, b4⟩ := a8 p hb (by omega)
    have hS2 := hS
    obtain ⟨⟨c0, c1, c2, c3, c4⟩, ⟨d0, d1, d2, d3, d4⟩, hmo, hsp2, hsp64, hw1, hwA, hwB, hsi1, hsi60, hti1, hti50⟩ := hS
    have hwi : wi ≤ 63 := by omega
    by_cases hke : ke = 0
    · by_cases hlate : ck - t < ti
      · obtain ⟨c', d', n', a, s0, s1, s2, s3⟩ := ih (p + 1) n v fuel fuel' c d (by omega) (by omega) (by omega) hS2 hL hv hC hP'
        refine ⟨c', d', n', a, by omega, ?_, ?_, s3⟩
        · rw [show fuel + (k + 1) + 1 = fuel + k + 1 + 1 from rfl, e_X7_layLateOnes_7, a6.1]
          simp (disch := omega) only [i_lit, i_ofNat, i_add, i_mul, i_sub, i_addn, i_subm, y_nsm, i_le, i_lt, i_nat, i_eq, i_div, i_nle, i_nlt, i_len, i_ltn, i_neq, i_eqn, i_and1, i_and63, i_and255, b8_sx, ob_some, if_true, if_false, and_self, true_and, if_pos, if_neg, b4.1, b3.1, a3.1, c4]
          exact s1
        · rw [show fuel' + (k + 1) + 1 = fuel' + k + 1 + 1 from rfl, e_X11_tickOf_105]
          simp (disch := omega) only [i_lit, i_ofNat, i_add, i_mul, i_sub, i_addn, i_subm, y_nsm, i_le, i_lt, i_nat, i_eq, i_div, i_nle, i_nlt, i_len, i_ltn, i_neq, i_eqn, i_and1, i_and63, i_and255, b8_sx, ob_some, if_true, if_false, and_self, true_and, if_pos, if_neg, a6.2, b4.2.1, b3.2.1, a3.2, d4]
          exact s2
      · obtain ⟨e1, f1, n1, r1, r2, r3, r4, r5, r6, r7⟩ := y_again mo sp wi si ti e fi n G P ck tm ba ne p c d he hS2 hL hv hC hP' hb (by omega)
        have hPr := y_gPx_cong hP' he r6 r7 (fun _ _ _ h => y_zP_L he h) (fun _ _ _ h => y_zPd_L he h)
        have hcs : y_sm (fun k w p => y_zP e k w p) e1 (sl_up e1 25 e (p % 64) (sl_i ck)) := y_sm_up (y_sm_refl _ _) (fun _ _ _ h => h) (by unfold y_zP; omega)
        have hds : y_sm (fun k w p => y_zPd e k w p) f1 (sl_up f1 59 0 (3002 * e + p) (sl_i ck)) := y_sm_up (y_sm_refl _ _) (fun _ _ _ h => h) (by unfold y_zPd; omega)
        have hP3 : y_gPx e wi si G P ck tm ba ne (sl_up e1 25 e (p % 64) (sl_i ck)) (sl_up f1 59 0 (3002 * e + p) (sl_i ck)) := by
          obtain ⟨a1, a2, a3, a4, a5, a6, a7, a8⟩ := hPr
          refine ⟨⟨?_, ?_, a1.2.2.1, ?_⟩, ⟨?_, ?_, a2.2.2⟩, ⟨?_, ?_⟩, ⟨?_, ?_, a4.2.2⟩, ⟨?_, ?_⟩, ⟨?_, ?_⟩, a7, ?_⟩
          · rw [up_ne (by omega)]; exact a1.1
          · rw [up_ne (by omega)]; exact a1.2.1
          · intro j hj; rw [y_rb_ne (by omega), y_mb_ne (by omega)]; exact a1.2.2.2 j hj
          · rw [up_ne (by omega)]; exact a2.1
          · rw [up_ne (by omega)]; exact a2.2.1
          · rw [up_ne (by omega)]; exact a3.1
          · rw [up_ne (by omega)]; exact a3.2
          · rw [up_ne (by omega)]; exact a4.1
          · rw [up_ne (by omega)]; exact a4.2.1
          · rw [up_ne (by omega)]; exact a5.1
          · rw [up_ne (by omega)]; exact a5.2
          · rw [up_ne (by omega)]; exact a6.1
          · rw [up_ne (by omega)]; exact a6.2
          · intro p2 h1 h2
            by_cases hpp : p2 = p
            · subst hpp
              obtain ⟨st, sz, t, ke, b1, b2, b3, b4⟩ := a8 p2 h1 h2
              refine ⟨st, sz, ck, ke, ⟨?_, ?_⟩, ⟨?_, ?_, b2.2.2⟩, ⟨?_, ?_, by omega⟩, ⟨?_, ?_, b4.2.2⟩⟩
              · rw [up_ne (by omega)]; exact b1.1
              · rw [up_ne (by omega)]; exact b1.2
              · rw [up_ne (by omega)]; exact b2.1
              · rw [up_ne (by omega)]; exact b2.2.1
              · rw [up_eq rfl rfl rfl]
              · rw [up_eq rfl rfl rfl]
              · rw [up_ne (by omega)]; exact b4.1
              · rw [up_ne (by omega)]; exact b4.2.1
            · refine y_pc_cong (a8 p2 h1 h2) ?_ ?_ ?_
              · intro k _ _; rw [up_ne (by omega)]
              · intro k _; rw [up_ne (by omega)]
              · rw [up_ne (by omega)]
        obtain ⟨c', d', n', a, s0, s1, s2, s3, s4, s5, s6, s7, s8⟩ := ih (p + 1) n1 (v + 1) fuel fuel' _ _ (by omega) (by omega) (by omega)
          (y_gS_cong (y_gS_L hS2 he r6 r7) (fun p => by rw [up_ne (by omega)]) (fun p _ _ => by rw [up_ne (by omega)]))
          (y_gL_cong r3 he hcs hds (fun k w p h => by unfold y_zF at h; unfold y_zP; omega) (fun k w p h => by unfold y_zFd at h; unfold y_zPd; omega))
          (fun k hk => by rw [up_ne (by omega)]; exact y_hv_L hv he r7 k hk)
          (fun k hk => by rw [up_ne (by omega), up_ne (by omega)]; exact r4 k hk) hP3
        refine ⟨c', d', n', 1 + a, by omega, ?_, ?_, s3, s4, ?_, s6, ?_, ?_⟩
        · rw [show fuel + (k + 1) + 1 = fuel + k + 1 + 1 from rfl, e_X7_layLateOnes_7, a6.1]
          simp (disch := omega) only [i_lit, i_ofNat, i_add, i_mul, i_sub, i_addn, i_subm, y_nsm, i_le, i_lt, i_nat, i_eq, i_div, i_nle, i_nlt, i_len, i_ltn, i_neq, i_eqn, i_and1, i_and63, i_and255, b8_sx, ob_some, if_true, if_false, and_self, true_and, if_pos, if_neg, b4.1, b3.1, a3.1, c4]
          rw [r1, ob_some, hPr.2.2.1.1, s1, Nat.add_assoc]
        · rw [show fuel' + (k + 1) + 1 = fuel' + k + 1 + 1 from rfl, e_X11_tickOf_105]
          simp (disch := omega) only [i_lit, i_ofNat, i_add, i_mul, i_sub, i_addn, i_subm, y_nsm, i_le, i_lt, i_nat, i_eq, i_div, i_nle, i_nlt, i_len, i_ltn, i_neq, i_eqn, i_and1, i_and63, i_and255, b8_sx, ob_some, if_true, if_false, and_self, true_and, if_pos, if_neg, a6.2, b4.2.1, b3.2.1, a3.2, d4]
          rw [r2, ob_some, hPr.2.2.1.2, s2]
        · rw [s5, up_ne (by omega), r5, Int32.add_assoc, i_add]
        · exact y_sm_tr (y_sm_tr (U := fun k w p => y_zLc e k w p ∨ y_zP e k w p) r6 hcs (fun _ _ _ h => .inl h) (fun _ _ _ h => .inr h)) s7 (fun _ _ _ h => h) (fun _ _ _ h => h)
        · exact y_sm_tr (y_sm_tr (U := fun k w p => y_zLd e k w p ∨ y_zPd e k w p) r7 hds (fun _ _ _ h => .inl h) (fun _ _ _ h => .inr h)) s8 (fun _ _ _ h => h) (fun _ _ _ h => h)
    · have hke1 : ke = 1 := by omega
      subst hke1
      obtain ⟨c', d', n', a, s0, s1, s2, s3⟩ := ih (p + 1) n v fuel fuel' c d (by omega) (by omega) (by omega) hS2 hL hv hC hP'
      refine ⟨c', d', n', a, by omega, ?_, ?_, s3⟩
      · rw [show fuel + (k + 1) + 1 = fuel + k + 1 + 1 from rfl, e_X7_layLateOnes_7, a6.1]
        simp (disch := omega) only [i_lit, i_ofNat, i_add, i_mul, i_sub, i_addn, i_subm, y_nsm, i_le, i_lt, i_nat, i_eq, i_div, i_nle, i_nlt, i_len, i_ltn, i_neq, i_eqn, i_and1, i_and63, i_and255, b8_sx, ob_some, if_true, if_false, and_self, true_and, if_pos, if_neg, b4.1]
        exact s1
      · rw [show fuel' + (k + 1) + 1 = fuel' + k + 1 + 1 from rfl, e_X11_tickOf_105]
        simp (disch := omega) only [i_lit, i_ofNat, i_add, i_mul, i_sub, i_addn, i_subm, y_nsm, i_le, i_lt, i_nat, i_eq, i_div, i_nle, i_nlt, i_len, i_ltn, i_neq, i_eqn, i_and1, i_and63, i_and255, b8_sx, ob_some, if_true, if_false, and_self, true_and, if_pos, if_neg, a6.2, b4.2.1]
        exact s2

theorem y_min (m : sl_M) (a b : Nat) (ha : a < 2147483648) (hb : b < 2147483648) : f_J9_min_7cf53 (sl_i a) (sl_i b) m = some ((sl_i (if b < a then b else a), 0, 0), m) := by
  rw [e_J9_min_7cf53]
  simp (disch := omega) only [i_lt]
  by_cases h : b < a
  · rw [if_pos h, if_pos h]
  · rw [if_neg h, if_neg h]
theorem y_zLP {e k w p : Nat} (he : e < 2) (h : y_zF e k w p) : ¬ y_zP e k w p := fun q => by unfold y_zP at q; unfold y_zF at h; omega
theorem y_zLPd {e k w p : Nat} (he : e < 2) (h : y_zFd e k w p) : ¬ y_zPd e k w p := fun q => by unfold y_zPd at q; unfold y_zFd at h; omega
/-- a piece is made, and laid -/
theorem y_make (mo sp wi si ti e fi n G P ck tm ba ne fuel : Nat) (c d : sl_M) (he : e < 2) (hck : ck < 100000) (hS : y_gS mo sp wi si ti c d) (hL : y_gL e fi n c d) (hv : y_hv d) (hC : y_g3 c d)
    (hP : y_gPx e wi si G P ck tm ba ne c d) (hw : ne < ba + wi) (hG : P < G) :
    ∃ c' d' n' P' tm', f_X7_makePiece e c = some ((sl_i 0, 0, 0), c') ∧ b_X11_tickOf_180 (fuel + 1) (sl_i e) d = b_X11_tickOf_180 fuel (sl_i e) d' ∧
      y_gL e fi n' c' d' ∧ y_g3 c' d' ∧ d'.1 68 0 0 = d.1 68 0 0 + sl_i 1 ∧ y_gPx e wi si G P' ck tm' ba (ne + 1) c' d' ∧
      y_sm (fun k w p => y_zLc e k w p ∨ y_zP e k w p) c c' ∧ y_sm (fun k w p => y_zLd e k w p ∨ y_zPd e k w p) d d' := by
  have hS2 := hS
  obtain ⟨⟨c0, c1, c2, c3, c4⟩, ⟨d0, d1, d2, d3, d4⟩, hmo, hsp2, hsp64, hw1, hwA, hwB, hsi1, hsi60, hti1, hti50⟩ := hS
  have hwi : wi ≤ 63 := by omega
  have hP0 := hP
  obtain ⟨a1, a2, a3, a4, a5, a6, a7, a8⟩ := hP
  obtain ⟨sz, hsz⟩ : ∃ sz, sz = (if G - P < si then G - P else si) := ⟨_, rfl⟩
  have hsz1 : 1 ≤ sz ∧ sz ≤ si ∧ P + sz ≤ G := by rw [hsz]; split <;> omega
  obtain ⟨tm', htm⟩ : ∃ tm', tm' = (if ne = ba then ck else tm) := ⟨_, rfl⟩
  obtain ⟨cA, hcA⟩ : ∃ cA, cA = sl_up (sl_up (sl_up (sl_up (sl_up c 23 e (ne % 64) (sl_i P)) 24 e (ne % 64) (sl_i sz)) 25 e (ne % 64) (sl_i ck)) 26 e (ne % 64) (sl_i 0)) 7 e 4 (sl_i (P + sz)) := ⟨_, rfl⟩
  obtain ⟨cB, hcB⟩ : ∃ cB, cB = (if ne = ba then sl_up cA 7 e 6 (sl_i ck) else cA) := ⟨_, rfl⟩
  obtain ⟨dA, hdA⟩ : ∃ dA, dA = sl_up (sl_up (sl_up d 58 0 (3002 * e + ne + 1) (sl_i (P + sz))) 70 0 (3002 * e + ne) (sl_i 0)) 59 0 (3002 * e + ne) (sl_i ck) := ⟨_, rfl⟩
  obtain ⟨dB, hdB⟩ : ∃ dB, dB = sl_up (if ne = ba then sl_up dA 54 0 e (sl_i ck) else dA) 56 0 e (sl_i (ne + 1)) := ⟨_, rfl⟩
  have hcBs : y_sm (fun k w p => (23 ≤ k ∧ k ≤ 26 ∧ w = e ∧ p = ne % 64) ∨ (k = 7 ∧ w = e ∧ p = 4) ∨ (k = 7 ∧ w = e ∧ p = 6)) c cB := by
    rw [hcB, hcA]; split
    · exact ⟨rfl, fun k w p h => by rw [up_ne (by omega), up_ne (by omega), up_ne (by omega), up_ne (by omega), up_ne (by omega), up_ne (by omega)]⟩
    · exact ⟨rfl, fun k w p h => by rw [up_ne (by omega), up_ne (by omega), up_ne (by omega), up_ne (by omega), up_ne (by omega)]⟩
  have hdBs : y_sm (fun k w p => (k = 58 ∧ w = 0 ∧ p = 3002 * e + ne + 1) ∨ ((k = 59 ∨ k = 70) ∧ w = 0 ∧ p = 3002 * e + ne) ∨ ((k = 54 ∨ k = 56) ∧ w = 0 ∧ p = e)) d dB := by
    rw [hdB, hdA]; split
    · exact ⟨rfl, fun k w p h => by rw [up_ne (by omega), up_ne (by omega), up_ne (by omega), up_ne (by omega), up_ne (by omega)]⟩
    · exact ⟨rfl, fun k w p h => by rw [up_ne (by omega), up_ne (by omega), up_ne (by omega), up_ne (by omega)]⟩
  have hB23 : cB.1 23 e (ne % 64) = sl_i P := by
    rw [hcB, hcA]; split
    · rw [up_ne (by omega), up_ne (by omega), up_ne (by omega), up_ne (by omega), up_ne (by omega), up_eq rfl rfl rfl]
    · rw [up_ne (by omega), up_ne (by omega), up_ne (by omega), up_ne (by omega), up_eq rfl rfl rfl]
  have hB24 : cB.1 24 e (ne % 64) = sl_i sz := by
    rw [hcB, hcA]; split
    · rw [up_ne (by omega), up_ne (by omega), up_ne (by omega), up_ne (by omega), up_eq rfl rfl rfl]
    · rw [up_ne (by omega), up_ne (by omega), up_ne (by omega), up_eq rfl rfl rfl]
  have hB25 : cB.1 25 e (ne % 64) = sl_i ck := by
    rw [hcB, hcA]; split
    · rw [up_ne (by omega), up_ne (by omega), up_ne (by omega), up_eq rfl rfl rfl]
    · rw [up_ne (by omega), up_ne (by omega), up_eq rfl rfl rfl]
  have hB26 : cB.1 26 e (ne % 64) = sl_i 0 := by
    rw [hcB, hcA]; split
    · rw [up_ne (by omega), up_ne (by omega), up_eq rfl rfl rfl]
    · rw [up_ne (by omega), up_eq rfl rfl rfl]
  have hB4 : cB.1 7 e 4 = sl_i (P + sz) := by
    rw [hcB, hcA]; split
    · rw [up_ne (by omega), up_eq rfl rfl rfl]
    · rw [up_eq rfl rfl rfl]
  have hB6 : cB.1 7 e 6 = sl_i tm' := by
    rw [hcB, htm]; split
    · rw [up_eq rfl rfl rfl]
    · rw [hcA, up_ne (by omega), up_ne (by omega), up_ne (by omega), up_ne (by omega), up_ne (by omega)]; exact a4.1
  have hD54 : dB.1 54 0 e = sl_i tm' := by
    rw [hdB, htm, up_ne (by omega)]; split
    · rw [up_eq rfl rfl rfl]
    · rw [hdA, up_ne (by omega), up_ne (by omega), up_ne (by omega)]; exact a4.2.1
  have hD56 : dB.1 56 0 e = sl_i (ne + 1) := by rw [hdB, up_eq rfl rfl rfl]
  have hD58 : dB.1 58 0 (3002 * e + ne + 1) = sl_i (P + sz) := by
    rw [hdB, up_ne (by omega)]; split
    · rw [hdA, up_ne (by omega), up_ne (by omega), up_ne (by omega), up_eq rfl rfl rfl]
    · rw [hdA, up_ne (by omega), up_ne (by omega), up_eq rfl rfl rfl]
  have hD59 : dB.1 59 0 (3002 * e + ne) = sl_i ck := by
    rw [hdB, up_ne (by omega)]; split
    · rw [hdA, up_ne (by omega), up_eq rfl rfl rfl]
    · rw [hdA, up_eq rfl rfl rfl]
  have hD70 : dB.1 70 0 (3002 * e + ne) = sl_i 0 := by
    rw [hdB, up_ne (by omega)]; split
    · rw [hdA, up_ne (by omega), up_ne (by omega), up_eq rfl rfl rfl]
    · rw [hdA, up_ne (by omega), up_eq rfl rfl rfl]
  have hB58 : dB.1 58 0 (3002 * e + ne) = sl_i P := by rw [hdBs.2 _ _ _ (by omega)]; exact a2.2.1
  obtain ⟨c', d', r1, r2, r3, r4, r5, r6, r7⟩ := y_layPiece mo sp wi si ti e fi n ne P sz 0 cB dB he
    (y_gS_cong hS2 (fun p => hcBs.2 _ _ _ (by omega)) (fun p _ _ => hdBs.2 _ _ _ (by omega)))
    (y_gL_cong hL he hcBs hdBs (fun k w p h => by unfold y_zF at h; omega) (fun k w p h => by unfold y_zFd at h; omega))
    (fun k hk => by rw [hdBs.2 _ _ _ (by omega)]; exact hv k hk)
    (fun k hk => by rw [hcBs.2 _ _ _ (by omega), hdBs.2 _ _ _ (by omega)]; exact hC k hk)
    G (by rw [hcBs.2 _ _ _ (by omega)]; exact a1.1) a1.2.2.1 (fun j hj => by rw [y_sm_rb hcBs (by omega), y_sm_mb hdBs (by omega)]; exact a1.2.2.2 j hj)
    (by omega) hB23 hB24 hB58 hD58 hsz1.2.2 (by omega) (by omega)
  have hq : ∀ k w p, y_zP e k w p → c'.1 k w p = cB.1 k w p := fun k w p h => r6.2 k w p (y_zP_L he h)
  have hr : ∀ k w p, y_zPd e k w p → d'.1 k w p = dB.1 k w p := fun k w p h => r7.2 k w p (y_zPd_L he h)
  have hcBz : y_sm (fun k w p => y_zLc e k w p ∨ y_zP e k w p) c cB := y_sm_mono hcBs (fun k w p h => .inr (by unfold y_zP; omega))
  have hdBz : y_sm (fun k w p => y_zLd e k w p ∨ y_zPd e k w p) d dB := y_sm_mono hdBs (fun k w p h => .inr (by unfold y_zPd; omega))
  refine ⟨sl_up c' 7 e 8 (sl_i (ne + 1)), d', (if n < 40 then n + 1 else n), P + sz, tm', ?_, ?_, ?_, ?_, ?_, ?_, ?_, ?_⟩
  · rw [e_X7_makePiece]
    simp (disch := omega) only [i_lit, i_ofNat, i_add, i_mul, i_sub, i_addn, i_subm, y_nsm, i_le, i_lt, i_nat, i_eq, i_div, i_nle, i_nlt, i_len, i_ltn, i_neq, i_eqn, i_and1, i_and63, i_and255, b8_sx, ob_some, if_true, if_false, and_self, true_and, if_pos, if_neg, a6.1, c3, a1.1, a2.1, y_min, a3.1, a5.1, up_eq, up_ne, ← hsz]
    by_cases h : ne = ba
    · rw [if_pos h] at hcB
      rw [if_pos h, ← hcA, ← hcB, r1, ob_some, hq _ _ _ (by unfold y_zP; omega), hcBs.2 _ _ _ (by omega), a6.1, i_add]
    · rw [if_neg h] at hcB
      rw [if_neg h, ← hcA, ← hcB, r1, ob_some, hq _ _ _ (by unfold y_zP; omega), hcBs.2 _ _ _ (by omega), a6.1, i_add]
  · rw [e_X11_tickOf_180]
    simp (disch := omega) only [i_lit, i_ofNat, i_add, i_mul, i_sub, i_addn, i_subm, y_nsm, i_le, i_lt, i_nat, i_eq, i_div, i_nle, i_nlt, i_len, i_ltn, i_neq, i_eqn, i_and1, i_and63, i_and255, b8_sx, ob_some, if_true, if_false, and_self, true_and, if_pos, if_neg, a6.2, a5.2, d2, d3, a1.2.1, a2.2.1, a3.2]
    by_cases hs : si ≤ G - P
    · have hsz2 : sz = si := by rw [hsz, if_neg (by omega)]
      rw [if_pos hs]
      rw [hsz2] at hdA
      by_cases h : ne = ba
      · rw [if_pos h] at hdB
        rw [if_pos h, ← hdA, ← hdB, r2, ob_some]
      · rw [if_neg h] at hdB
        rw [if_neg h, ← hdA, ← hdB, r2, ob_some]
    · have hsz2 : sz = G - P := by rw [hsz, if_pos (by omega)]
      rw [if_neg hs]
      rw [hsz2] at hdA
      by_cases h : ne = ba
      · rw [if_pos h] at hdB
        rw [if_pos h, ← hdA, ← hdB, r2, ob_some]
      · rw [if_neg h] at hdB
        rw [if_neg h, ← hdA, ← hdB, r2, ob_some]
  · exact y_gL_cong r3 he (y_sm_up (U := y_zP e) (y_sm_refl _ _) (fun _ _ _ h => h) (by unfold y_zP; omega)) (y_sm_refl (y_zPd e) _) (fun _ _ _ h => y_zLP he h) (fun _ _ _ h => y_zLPd he h)
  · intro k hk; rw [up_ne (by omega)]; exact r4 k hk
  · rw [r5, hdBs.2 _ _ _ (by omega)]
  · refine ⟨⟨?_, ?_, a1.2.2.1, ?_⟩, ⟨?_, ?_, hsz1.2.2⟩, ⟨?_, ?_⟩, ⟨?_, ?_, by rw [htm]; split <;> omega⟩, ⟨?_, ?_⟩, ⟨?_, ?_⟩, by omega, ?_⟩
    · rw [up_ne (by omega), hq _ _ _ (by unfold y_zP; omega), hcBs.2 _ _ _ (by omega)]; exact a1.1
    · rw [hr _ _ _ (by unfold y_zPd; omega), hdBs.2 _ _ _ (by omega)]; exact a1.2.1
    · intro j hj
      have e1 : y_rb c' (4 + e) j = y_rb cB (4 + e) j := by unfold y_rb; rw [hq _ _ _ (by unfold y_zP; omega)]
      have e2 : y_mb d' 3 (3000 * e + j) = y_mb dB 3 (3000 * e + j) := by unfold y_mb; rw [hr _ _ _ (by unfold y_zPd; omega)]
      rw [y_rb_ne (by omega), e1, e2, y_sm_rb hcBs (by omega), y_sm_mb hdBs (by omega)]; exact a1.2.2.2 j hj
    · rw [up_ne (by omega), hq _ _ _ (by unfold y_zP; omega)]; exact hB4
    · rw [hr _ _ _ (by unfold y_zPd; omega)]; exact hD58
    · rw [up_ne (by omega), hq _ _ _ (by unfold y_zP; omega), hcBs.2 _ _ _ (by omega)]; exact a3.1
    · rw [hr _ _ _ (by unfold y_zPd; omega), hdBs.2 _ _ _ (by omega)]; exact a3.2
    · rw [up_ne (by omega), hq _ _ _ (by unfold y_zP; omega)]; exact hB6
    · rw [hr _ _ _ (by unfold y_zPd; omega)]; exact hD54
    · rw [up_ne (by omega), hq _ _ _ (by unfold y_zP; omega), hcBs.2 _ _ _ (by omega)]; exact a5.1
    · rw [hr _ _ _ (by unfold y_zPd; omega), hdBs.2 _ _ _ (by omega)]; exact a5.2
    · rw [up_eq rfl rfl rfl]
    · rw [hr _ _ _ (by unfold y_zPd; omega)]; exact hD56
    · intro p h1 h2
      by_cases hp : p = ne
      · subst hp
        refine ⟨P, sz, ck, 0, ⟨?_, ?_⟩, ⟨?_, ?_, by omega, by omega, by omega⟩, ⟨?_, ?_, by omega⟩, ⟨?_, ?_, by omega⟩⟩
        · rw [up_ne (by omega), hq _ _ _ (by unfold y_zP; omega)]; exact hB23
        · rw [hr _ _ _ (by unfold y_zPd; omega)]; exact hB58
        · rw [up_ne (by omega), hq _ _ _ (by unfold y_zP; omega)]; exact hB24
        · rw [hr _ _ _ (by unfold y_zPd; omega)]; exact hD58
        · rw [up_ne (by omega), hq _ _ _ (by unfold y_zP; omega)]; exact hB25
        · rw [hr _ _ _ (by unfold y_zPd; omega)]; exact hD59
        · rw [up_ne (by omega), hq _ _ _ (by unfold y_zP; omega)]; exact hB26
        · rw [hr _ _ _ (by unfold y_zPd; omega)]; exact hD70
      · obtain ⟨st, sz2, t, ke, b1, b2, b3, b4⟩ := y_pc_cong (c' := sl_up c' 7 e 8 (sl_i (ne + 1))) (d' := d') (a8 p h1 (by omega))
          (fun k _ _ => by rw [up_ne (by omega), hq _ _ _ (by unfold y_zP; omega), hcBs.2 _ _ _ (by omega)])
          (fun k hk => by rw [hr _ _ _ (by unfold y_zPd; omega), hdBs.2 _ _ _ (by omega)])
          (by rw [hr _ _ _ (by unfold y_zPd; omega), hdBs.2 _ _ _ (by omega)])
        exact ⟨st, sz2, t, ke, b1, ⟨b2.1, b2.2.1, by omega, by omega, by omega⟩, b3, b4⟩
  · exact y_sm_up (y_sm_tr hcBz r6 (fun _ _ _ h => h) (fun _ _ _ h => .inl h)) (fun _ _ _ h => h) (.inr (by unfold y_zP; omega))
  · exact y_sm_tr hdBz r7 (fun _ _ _ h => h) (fun _ _ _ h => .inl h)
