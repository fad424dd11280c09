/-! carry, as a whole -/
theorem y_drop (c : sl_M) {l fi n : Nat} (h3 : c.1 4 l 3 = sl_i fi) (h4 : c.1 4 l 4 = sl_i n) (hn1 : 1 ≤ n) (hn : n ≤ 40) (hfi : fi < 40) :
    f_X4_dropFirst l c = some ((sl_i 0, 0, 0), sl_up (sl_up c 4 l 3 (sl_i ((fi + 1) % 40))) 4 l 4 (sl_i (n - 1))) := by
  rw [e_X4_dropFirst, h3, h4]
  simp (disch := omega) only [i_litN, i_ofNat, i_add, i_mul, i_sub, i_addn, i_subm, y_nsm, i_le, i_lt, i_nat, i_eq, i_div, i_nle, i_nlt, i_len, i_ltn, i_neq, i_eqn, i_and1, i_and63, i_and255, b8_sx, ob_some, if_true, if_false, and_self, true_and, if_pos, if_neg]
theorem y_R_mv {K : Nat} {c d d' : sl_M} (h : y_R K c d) (hd : y_sm (fun k w p => k = 30 ∧ w = 10) d d') : y_R K c d' := by
  obtain ⟨mo, sp, wi, si, ti, h1, h2, h3⟩ := h
  refine ⟨mo, sp, wi, si, ti, y_gC_cong (S := fun _ _ _ => False) h1 (y_sm_refl _ _) hd (fun p h => h) (fun p h => by omega), ?_, fun e he => ?_⟩
  · exact y_gT_cong (S := fun _ _ _ => False) h2 (y_sm_refl _ _) hd (fun k w p q r => r) (fun k w p q r => by omega)
  · obtain ⟨⟨fi, n, h4⟩, h5⟩ := h3 e he
    exact ⟨⟨fi, n, y_E_cong (S := fun _ _ _ => False) h4 he (y_sm_refl _ _) hd (fun k w p q r => r) (fun k w p q r => by have := y_zSd0 q he; omega)⟩, y_H_cong (S := fun _ _ _ => False) h5 (by omega) (y_sm_refl _ _) hd (fun k w p q r => r) (fun k w p q r => by omega)⟩
theorem y_cfin {mo sp wi si ti l e fi n fe ne K : Nat} {c d1 c2 d2 : sl_M} (hl : l < 2) (hle : e = 1 - l) (hT : y_gT c d1) (hE : ∀ o, o < 2 → (∃ fi n, y_E mo sp wi si ti o fi n K c d1) ∧ y_H o (100 * K) c d1) (hEl : y_E mo sp wi si ti l fi n K c d1) (hn1 : 1 ≤ n)
    (hc : y_sm (y_zIc e) c c2) (hd : y_sm (y_zId e) (sl_up (sl_up d1 62 0 l (sl_i ((fi + 1) % 40))) 63 0 l (sl_i (n - 1))) d2) (hEe : y_E mo sp wi si ti e fe ne K c2 d2) (hC : y_gC c2 d2) (hHe : y_H e (100 * (K + 1)) c2 d2) :
    (y_E mo sp wi si ti l ((fi + 1) % 40) (n - 1) K (sl_up (sl_up c2 4 l 3 (sl_i ((fi + 1) % 40))) 4 l 4 (sl_i (n - 1))) d2 ∧
      y_E mo sp wi si ti e fe ne K (sl_up (sl_up c2 4 l 3 (sl_i ((fi + 1) % 40))) 4 l 4 (sl_i (n - 1))) d2) ∧
    y_R (K + 1) (sl_up (sl_up c2 4 l 3 (sl_i ((fi + 1) % 40))) 4 l 4 (sl_i (n - 1))) d2 := by
  have he : e < 2 := by omega
  have hel : l ≠ e := by omega
  have hcu : y_sm (fun k w p => k = 4 ∧ w = l) c2 (sl_up (sl_up c2 4 l 3 (sl_i ((fi + 1) % 40))) 4 l 4 (sl_i (n - 1))) := ⟨rfl, fun k w p h => by rw [up_ne (by omega), up_ne (by omega)]⟩
  have hdu : y_sm (fun k w p => (k = 62 ∨ k = 63) ∧ w = 0 ∧ p = l) d1 (sl_up (sl_up d1 62 0 l (sl_i ((fi + 1) % 40))) 63 0 l (sl_i (n - 1))) := ⟨rfl, fun k w p h => by rw [up_ne (by omega), up_ne (by omega)]⟩
  have hcs := y_sm_tr (U := fun k w p => y_zIc e k w p ∨ (k = 4 ∧ w = l)) hc hcu (fun k w p h => .inl h) (fun k w p h => .inr h)
  have hds := y_sm_tr (U := fun k w p => y_zId e k w p ∨ ((k = 62 ∨ k = 63) ∧ w = 0 ∧ p = l)) hdu hd (fun k w p h => .inr h) (fun k w p h => .inl h)
  have hl62 : ∀ k, k = 62 ∨ k = 63 → ¬ y_zId e k 0 l := by
    intro k hk q
    unfold y_zId y_zBd y_zTd y_zLd y_zFd y_zPd y_zRd at q; omega
  have hEl' := y_dropE hl hEl hn1 hcs hds
    (fun k w p a b q => by rcases q with q | q; exact y_zI_S he hl hel a q; omega)
    (fun k w p a b b2 q => by rcases q with q | q; exact y_zI_Sd he hl hel a q; omega)
    (by rw [up_ne (by omega), up_eq rfl rfl rfl]) (by rw [up_eq rfl rfl rfl]) (by rw [hd.2 _ _ _ (hl62 62 (.inl rfl)), up_ne (by omega), up_eq rfl rfl rfl]) (by rw [hd.2 _ _ _ (hl62 63 (.inr rfl)), up_eq rfl rfl rfl])
  have hEe' : y_E mo sp wi si ti e fe ne K (sl_up (sl_up c2 4 l 3 (sl_i ((fi + 1) % 40))) 4 l 4 (sl_i (n - 1))) d2 :=
    y_E_cong (T := fun _ _ _ => False) hEe he hcu (y_sm_refl _ _) (fun k w p q r => by unfold y_zS y_zF y_zP y_zR at q; omega) (fun k w p q r => r)
  refine ⟨⟨hEl', hEe'⟩, mo, sp, wi, si, ti, ?_, ?_, fun o hoo => ?_⟩
  · exact y_gC_cong (T := fun _ _ _ => False) hC hcu (y_sm_refl _ _) (fun p q => by omega) (fun p q => q)
  · exact y_gT_cong hT hcs hds (fun k w p q r => by rcases r with r | r; exact (y_zIc0 he r).2.1 q; unfold y_zT at q; omega) (fun k w p q r => by rcases r with r | r; have := y_zId0 he r; omega; omega)
  · by_cases hoe : o = e
    · subst hoe
      exact ⟨⟨fe, ne, y_E_K hEe' (by omega)⟩, y_H_cong (T := fun _ _ _ => False) hHe (Nat.le_refl _) hcu (y_sm_refl _ _) (fun k w p q r => by omega) (fun k w p q r => r)⟩
    · have hol : o = l := by omega
      subst hol
      refine ⟨⟨_, _, y_E_K hEl' (by omega)⟩, y_H_cong (hE o hoo).2 (by omega) hcs hds ?_ ?_⟩
      · intro k w p q r
        rcases r with r | r
        · unfold y_zIc y_zBc y_zTc y_zLc y_zF y_zP y_zR at r; omega
        · omega
      · intro k w p q r
        rcases r with r | r
        · unfold y_zId y_zBd y_zTd y_zLd y_zFd y_zPd y_zRd at r; omega
        · omega
/-- a frame that can be carried -/
theorem y_carryGo (K l h : Nat) (v : Int32) (mo sp wi si ti fi n len : Nat) (c d : sl_M) (hK : K < 9000) (hl : l < 2) (hh : h ≤ 5) (hC : y_gC c d) (hT : y_gT c d) (hE : ∀ o, o < 2 → (∃ fi n, y_E mo sp wi si ti o fi n K c d) ∧ y_H o (100 * K) c d)
    (hEl : y_E mo sp wi si ti l fi n K c d) (hn1 : 1 ≤ n) (hlen : c.1 6 (14 + (40 * l + fi)) 1 = sl_i len) (hlen67 : len ≤ 67) (hd0 : d.1 11 0 0 = sl_i 0)
    (k0 : Nat) (hk0 : k0 < 2147483648) (hv0 : h = 3 ∨ h = 4 → v = sl_i k0) (h3 : h = 3 → k0 / 256 < len) (h4 : h = 4 → k0 < len) :
    y_Q K c d ((f_X10_hearerOf (sl_i l) c).bind (fun q4 =>
      if sl_i h = (1 : Int32) then
        (f_X9_add (3 : Int32) q4.2).bind (fun q5 =>
        if sl_i h = (2 : Int32) then
          some (((q5.2.1 4 l 4), 0, 0), q5.2)
        else
          (f_X4_dropFirst l q5.2).bind (fun q6 =>
          some (((q6.2.1 4 l 4), 0, 0), q6.2)))
      else
        if sl_i h = (3 : Int32) then
          (f_X10_bring (40 * l + fi) q4.1.2.1 (v / (256 : Int32)) (v - v / (256 : Int32) * (256 : Int32)) (q4.2.1 6 (14 + (40 * l + fi)) 1) q4.2).bind (fun q7 =>
          if sl_i h = (2 : Int32) then
            some (((q7.2.1 4 l 4), 0, 0), q7.2)
          else
            (f_X4_dropFirst l q7.2).bind (fun q8 =>
            some (((q8.2.1 4 l 4), 0, 0), q8.2)))
        else
          if sl_i h = (4 : Int32) then
            (f_X10_bring (40 * l + fi) q4.1.2.1 (-1 : Int32) (0 : Int32) v q4.2).bind (fun q9 =>
            if sl_i h = (2 : Int32) then
              some (((q9.2.1 4 l 4), 0, 0), q9.2)
            else
              (f_X4_dropFirst l q9.2).bind (fun q10 =>
              some (((q10.2.1 4 l 4), 0, 0), q10.2)))
          else
            if sl_i h = (5 : Int32) then
              (f_X1_hear q4.1.2.1 (v &&& (255 : Int32)) (0 : Int32) q4.2).bind (fun q11 =>
              (f_X10_bring (40 * l + fi) q4.1.2.1 (-1 : Int32) (0 : Int32) (q11.2.1 6 (14 + (40 * l + fi)) 1) q11.2).bind (fun q12 =>
              if sl_i h = (2 : Int32) then
                some (((q12.2.1 4 l 4), 0, 0), q12.2)
              else
                (f_X4_dropFirst l q12.2).bind (fun q13 =>
                some (((q13.2.1 4 l 4), 0, 0), q13.2))))
            else
              (f_X10_bring (40 * l + fi) q4.1.2.1 (-1 : Int32) (0 : Int32) (q4.2.1 6 (14 + (40 * l + fi)) 1) q4.2).bind (fun q14 =>
              if sl_i h = (2 : Int32) then
                some (((q14.2.1 4 l 4), 0, 0), q14.2)
              else
                (f_X4_dropFirst l q14.2).bind (fun q15 =>
                some (((q15.2.1 4 l 4), 0, 0), q15.2))))) (b_X11_carry_83 99999 (sl_i l) (sl_i h) v (sl_i len) d) := by
  obtain ⟨e, hle⟩ : ∃ e, e = 1 - l := ⟨_, rfl⟩
  obtain ⟨f, hf⟩ : ∃ f, f = 40 * l + fi := ⟨_, rfl⟩
  have he : e < 2 := by omega
  have hle2 : 1 - e = l := by omega
  rw [← hf] at hlen ⊢
  obtain ⟨l1, l2, l3, l4⟩ := hEl.2.1
  obtain ⟨len2, so, nu, lo, ag, f1, f2, f3, f4, f5, f6, f7, f8, _⟩ := l4 fi l1.2.2
  rw [← hf] at f1 f2 f3 f4 f5 f6 f7 f8
  have hll : len2 = len := (y_isz (by rw [← f1.1, hlen]) (by omega) (by omega))
  subst hll
  have hl0 : len2 ≠ 0 := by
    have h1 := l3 0 (by omega)
    rw [show (fi + 0) % 40 = fi by omega, ← hf, f1.1] at h1
    intro h; exact h1 (by rw [h])
  obtain ⟨f71, f72, f73⟩ := f7 hl0
  obtain ⟨s, hs⟩ : ∃ s, s = (if h = 2 then 1 else 0) := ⟨_, rfl⟩
  have hs1 : s ≤ 1 := by rw [hs]; split <;> omega
  obtain ⟨d1, dl, g1, g2, g3, g4, g5⟩ := y_leave l s fi n len2 f d hl hs1 hf l1.2.2 l2.2.2 hn1 hlen67 l1.2.1 l2.2.1 f1.2.1
  have hdl0 : dl.1 11 0 0 = sl_i 0 := by rw [g5.2 _ _ _ (by omega)]; exact hd0
  have hEo : ∀ o, o < 2 → (∃ fi n, y_E mo sp wi si ti o fi n K c d1) ∧ y_H o (100 * K) c d1 := by
    intro o hoo
    obtain ⟨⟨fo, no, q1⟩, q2⟩ := hE o hoo
    exact ⟨⟨fo, no, y_E_cong (S := fun _ _ _ => False) q1 hoo (y_sm_refl _ _) g4 (fun k w p q r => r) (fun k w p q r => by have := y_zSd0 q hoo; omega)⟩, y_H_cong (S := fun _ _ _ => False) q2 (by omega) (y_sm_refl _ _) g4 (fun k w p q r => r) (fun k w p q r => by omega)⟩
  have hEl1 : y_E mo sp wi si ti l fi n K c d1 := y_E_cong (S := fun _ _ _ => False) hEl hl (y_sm_refl _ _) g4 (fun k w p q r => r) (fun k w p q r => by have := y_zSd0 q hl; omega)
  have hT1 : y_gT c d1 := y_gT_cong (S := fun _ _ _ => False) hT (y_sm_refl _ _) g4 (fun k w p q r => r) (fun k w p q r => by omega)
  obtain ⟨⟨fe, ne, hEe⟩, hHe⟩ := hE e he
  have hEe0 : y_E mo sp wi si ti e fe ne K c dl := y_E_cong (S := fun _ _ _ => False) hEe he (y_sm_refl _ _) g5 (fun k w p q r => r) (fun k w p q r => by unfold y_zSd y_zFd y_zPd y_zRd at q; omega)
  have hHe0 : y_H e (100 * K) c dl := y_H_cong (S := fun _ _ _ => False) hHe (by omega) (y_sm_refl _ _) g5 (fun k w p q r => r) (fun k w p q r => by omega)
  have hC0 : y_gC c dl := y_gC_cong (S := fun _ _ _ => False) hC (y_sm_refl _ _) g5 (fun p q => q) (fun p q => by omega)
  have hhe : f_X10_hearerOf (sl_i l) c = some ((sl_i 0, e, 0), c) := by
    rw [e_X10_hearerOf]
    rcases y_e01 hl with q | q
    · subst q; simp (disch := omega) only [i_litN, i_ofNat, i_add, i_mul, i_sub, i_addn, i_subm, y_nsm, i_le, i_lt, i_nat, i_eq, i_div, i_nle, i_nlt, i_len, i_ltn, i_neq, i_eqn, i_and1, i_and63, i_and255, b8_sx, ob_some, if_true, if_false, and_self, true_and, if_pos, if_neg]; rw [hle]
    · subst q; simp (disch := omega) only [i_litN, i_ofNat, i_add, i_mul, i_sub, i_addn, i_subm, y_nsm, i_le, i_lt, i_nat, i_eq, i_div, i_nle, i_nlt, i_len, i_ltn, i_neq, i_eqn, i_and1, i_and63, i_and255, b8_sx, ob_some, if_true, if_false, and_self, true_and, if_pos, if_neg]; rw [hle]
  have hrow : ∀ k p, (k = 20 ∨ (k = 6 ∧ p = 1)) → ¬ y_zIc e k (14 + f) p := by
    intro k p hk q
    unfold y_zIc y_zBc y_zTc y_zLc y_zF y_zP y_zR at q; omega
  have hlan : ∀ p, ¬ y_zIc e 4 l p := by
    intro p q
    unfold y_zIc y_zBc y_zTc y_zLc y_zF y_zP y_zR at q; omega
  have hlan2 : ∀ k, k = 62 ∨ k = 63 → ¬ y_zId e k 0 l := by
    intro k hk q
    unfold y_zId y_zBd y_zTd y_zLd y_zFd y_zPd y_zRd at q; omega
  have core : ∀ (c0 d0 : sl_M) fe ne B0 va ch nb at', y_E mo sp wi si ti e fe ne K c0 d0 → y_gC c0 d0 → y_H e B0 c0 d0 → B0 ≤ 100 * K + 1 → y_sm (y_zIc e) c c0 → y_sm (y_zId e) dl d0 → nb ≤ len2 → ch < 256 →
      (∀ i, i < nb → (sl_i i = va) = (i = at')) → (ch ≠ 0 → at' < nb) →
      ∃ c2 d2 ne2, f_X10_bring f e va (sl_i ch) (sl_i nb) c0 = some ((sl_i 0, 0, 0), c2) ∧ f_X11_moves (sl_i l) (sl_i nb) va (sl_i ch) d0 = some ((sl_i 0, 0, 0), d2) ∧ y_E mo sp wi si ti e fe ne2 K c2 d2 ∧ y_gC c2 d2 ∧ y_H e (100 * (K + 1)) c2 d2 ∧
        y_sm (y_zIc e) c c2 ∧ y_sm (y_zId e) dl d2 := by
    intro c0 d0 fe ne B0 va ch nb at' q1 q2 ⟨nh, x, q3, q4, q5, _⟩ q6 q7 q8 q9 q10 q11 q12
    obtain ⟨c2, d2, n2, nh2, x2, r1, r2, r3, r4, r5, r6, r7, r8, r9, r10, _⟩ := y_bring mo sp wi si ti e fe ne K f len2 at' ch nb nh x va (y_rb c (14 + f)) c0 d0 he (by omega) (by omega) (by omega) f71 f1.2.2 q9
      (fun j => y_rb_lt _ _ _) f72 f73 q10 q11 q12 q1 q2 q3 (by omega) q5 (by rw [q7.2 _ _ _ (hrow 6 1 (.inr ⟨rfl, rfl⟩))]; exact f1.1) (fun j hj => y_sm_rb q7 (hrow 20 j (.inl rfl)))
      (fun j hj => by rw [y_sm_mb q8 (fun q => (y_zId0 he q).2.2.2.2 ⟨rfl, rfl⟩), g3 j (by omega)]; exact (f6 j (by omega)).symm)
    rw [hle2] at r2
    exact ⟨c2, d2, n2, r1, r2, r3, r4, ⟨nh2, x2, r5, by omega, r7, r8⟩, y_sm_tr q7 r9 (fun _ _ _ h => h) (fun _ _ _ h => h), y_sm_tr q8 r10 (fun _ _ _ h => h) (fun _ _ _ h => h)⟩
  have fin : ∀ (c2 d2 : sl_M) fe ne (A B : Option (sl_PL × sl_M)) fu, y_E mo sp wi si ti e fe ne K c2 d2 → y_gC c2 d2 → y_H e (100 * (K + 1)) c2 d2 → y_sm (y_zIc e) c c2 → y_sm (y_zId e) dl d2 →
      (h ≠ 2 → A = (f_X4_dropFirst l c2).bind (fun q6 => some ((q6.2.1 4 l 4, 0, 0), q6.2))) → (h = 2 → A = some ((c2.1 4 l 4, 0, 0), c2)) → B = b_X11_carry_187 (fu + 1) (sl_i l) d2 → y_Q K c d A B := by
    intro c2 d2 fe ne A B fu q1 q2 q3 q4 q5 q6 q7 q8
    have hd2 : d2.1 11 0 0 = sl_i 0 := by rw [q5.2 _ _ _ (fun q => (y_zId0 he q).2.1 rfl)]; exact hdl0
    have hB : B = some ((d2.1 63 0 l, 0, 0), d2) := by
      rw [q8, e_X11_carry_187]
      simp (disch := omega) only [i_litN, i_ofNat, i_add, i_mul, i_sub, i_addn, i_subm, y_nsm, i_le, i_lt, i_nat, i_eq, i_div, i_nle, i_nlt, i_len, i_ltn, i_neq, i_eqn, i_and1, i_and63, i_and255, b8_sx, ob_some, if_true, if_false, and_self, true_and, if_pos, if_neg]
    have hdz : y_sm y_zm d d2 := y_sm_tr (U := y_zm) g5 q5 (fun k w p q => by unfold y_zm; omega) (fun k w p q => (y_zId0 he q).1)
    have hcz : y_sm y_zc c c2 := y_sm_mono q4 (fun k w p q => (y_zIc0 he q).1)
    by_cases h2 : h = 2
    · rw [if_pos h2] at hs
      rw [hs, if_neg (by omega)] at g2
      subst g2
      refine y_Qok (a := sl_i n) (y_R_heard he hT1 hEo q2 q1 q3 q4 q5) hcz hdz ?_ ?_ hd2
      · rw [q7 h2, q4.2 _ _ _ (hlan 4)]; rw [l2.1]
      · rw [hB, q5.2 _ _ _ (hlan2 63 (.inr rfl)), g4.2 _ _ _ (by omega)]; rw [l2.2.1]
    · rw [if_neg h2] at hs
      rw [hs, if_pos rfl] at g2
      subst g2
      have hdr := y_drop c2 (l := l) (fi := fi) (n := n) (by rw [q4.2 _ _ _ (hlan 3)]; exact l1.1) (by rw [q4.2 _ _ _ (hlan 4)]; exact l2.1) hn1 l2.2.2 l1.2.2
      refine y_Qok (a := sl_i (n - 1)) (y_cfin hl hle hT1 hEo hEl1 hn1 q4 q5 q1 q2 q3).2 (y_sm_tr hcz (y_sm_up (y_sm_up (y_sm_refl (fun k w _ => k = 4 ∧ w = l) _) (fun _ _ _ h => h) (by omega)) (fun _ _ _ h => h) (by omega)) (fun _ _ _ h => h) (fun k w p q => by unfold y_zc; omega)) hdz ?_ ?_ hd2
      · rw [q6 h2, hdr, ob_some]
        show some ((_, 0, 0), _) = _
        rw [up_eq rfl rfl rfl]
      · rw [hB, q5.2 _ _ _ (hlan2 63 (.inr rfl)), up_eq rfl rfl rfl]
  rw [hhe, ob_some]
  rw [show (99999 : Nat) = 99998 + 1 from rfl, e_X11_carry_83, show (99998 : Nat) = 99997 + 1 from rfl]
  have hnone : ∀ nb, nb ≤ 67 → ∀ i, i < nb → (sl_i i = -(sl_i 1)) = (i = 1000) := fun nb hnb i hi => by
    rw [i_neq (by omega) (by omega) (by omega)]
    exact propext ⟨fun q => q.elim, fun q => by omega⟩
  rcases (show h = 0 ∨ h = 1 ∨ h = 2 ∨ h = 3 ∨ h = 4 ∨ h = 5 by omega) with hq | hq | hq | hq | hq | hq
  · subst hq
    rw [if_neg (by omega)] at hs
    subst hs
    obtain ⟨c2, d2, n2, r1, r2, r3, r4, r5, r6, r7⟩ := core c dl fe ne (100 * K) (-(sl_i 1)) 0 len2 1000 hEe0 hC0 hHe0 (by omega) (y_sm_refl _ _) (y_sm_refl _ _) (Nat.le_refl _) (by omega) (hnone len2 hlen67) (fun q => absurd rfl q)
    refine fin c2 d2 fe n2 _ _ 99996 r3 r4 r5 r6 r7 (fun _ => ?_) (fun q => by omega) ?_
    · simp (disch := omega) only [i_litN, i_ofNat, i_add, i_mul, i_sub, i_addn, i_subm, y_nsm, i_le, i_lt, i_nat, i_eq, i_div, i_nle, i_nlt, i_len, i_ltn, i_neq, i_eqn, i_and1, i_and63, i_and255, b8_sx, ob_some, if_true, if_false, and_self, true_and, if_pos, if_neg, hlen]
      rw [r1, ob_some]
    · simp (disch := omega) only [i_litN, i_ofNat, i_add, i_mul, i_sub, i_addn, i_subm, y_nsm, i_le, i_lt, i_nat, i_eq, i_div, i_nle, i_nlt, i_len, i_ltn, i_neq, i_eqn, i_and1, i_and63, i_and255, b8_sx, ob_some, if_true, if_false, and_self, true_and, if_pos, if_neg]
      rw [e_X11_carry_95, g1, ob_some]
      simp (disch := omega) only [i_litN, i_ofNat, i_add, i_mul, i_sub, i_addn, i_subm, y_nsm, i_le, i_lt, i_nat, i_eq, i_div, i_nle, i_nlt, i_len, i_ltn, i_neq, i_eqn, i_and1, i_and63, i_and255, b8_sx, ob_some, if_true, if_false, and_self, true_and, if_pos, if_neg]
      rw [r2, ob_some]
  · subst hq
    rw [if_neg (by omega)] at hs
    subst hs
    have hcs : y_sm (fun k w p => k = 27 ∧ w = 2) c (sl_up c 27 2 3 (c.1 27 2 3 + sl_i 1)) := y_sm_up (y_sm_refl _ _) (fun _ _ _ h => h) (by omega)
    have hds : y_sm (fun k w p => k = 68 ∧ w = 0) dl (sl_up dl 68 0 3 (dl.1 68 0 3 + sl_i 1)) := y_sm_up (y_sm_refl _ _) (fun _ _ _ h => h) (by omega)
    refine fin _ _ fe ne _ _ 99996 (y_E_tally hEe0 he hcs hds) ?_ (y_H_cong hHe0 (by omega) hcs hds (fun k w p q r => by omega) (fun k w p q r => by omega)) (y_sm_mono hcs (fun k w p q => .inl (.inl (.inl q)))) (y_sm_mono hds (fun k w p q => .inl (.inl (.inl q)))) (fun _ => ?_) (fun q => by omega) ?_
    · intro j hj
      by_cases j3 : j = 3
      · subst j3; rw [up_eq rfl rfl rfl, up_eq rfl rfl rfl, hC0 3 (by omega)]
      · rw [up_ne (by omega), up_ne (by omega)]; exact hC0 j hj
    · simp (disch := omega) only [i_litN, i_ofNat, i_add, i_mul, i_sub, i_addn, i_subm, y_nsm, i_le, i_lt, i_nat, i_eq, i_div, i_nle, i_nlt, i_len, i_ltn, i_neq, i_eqn, i_and1, i_and63, i_and255, b8_sx, ob_some, if_true, if_false, and_self, true_and, if_pos, if_neg, y_tally]
    · simp (disch := omega) only [i_litN, i_ofNat, i_add, i_mul, i_sub, i_addn, i_subm, y_nsm, i_le, i_lt, i_nat, i_eq, i_div, i_nle, i_nlt, i_len, i_ltn, i_neq, i_eqn, i_and1, i_and63, i_and255, b8_sx, ob_some, if_true, if_false, and_self, true_and, if_pos, if_neg]
      rw [e_X11_carry_95, g1, ob_some]
      simp (disch := omega) only [i_litN, i_ofNat, i_add, i_mul, i_sub, i_addn, i_subm, y_nsm, i_le, i_lt, i_nat, i_eq, i_div, i_nle, i_nlt, i_len, i_ltn, i_neq, i_eqn, i_and1, i_and63, i_and255, b8_sx, ob_some, if_true, if_false, and_self, true_and, if_pos, if_neg]
  · subst hq
    rw [if_pos (by omega)] at hs
    subst hs
    obtain ⟨c2, d2, n2, r1, r2, r3, r4, r5, r6, r7⟩ := core c dl fe ne (100 * K) (-(sl_i 1)) 0 len2 1000 hEe0 hC0 hHe0 (by omega) (y_sm_refl _ _) (y_sm_refl _ _) (Nat.le_refl _) (by omega) (hnone len2 hlen67) (fun q => absurd rfl q)
    refine fin c2 d2 fe n2 _ _ 99996 r3 r4 r5 r6 r7 (fun q => absurd rfl q) (fun _ => ?_) ?_
    · simp (disch := omega) only [i_litN, i_ofNat, i_add, i_mul, i_sub, i_addn, i_subm, y_nsm, i_le, i_lt, i_nat, i_eq, i_div, i_nle, i_nlt, i_len, i_ltn, i_neq, i_eqn, i_and1, i_and63, i_and255, b8_sx, ob_some, if_true, if_false, and_self, true_and, if_pos, if_neg, hlen]
      rw [r1, ob_some]
    · simp (disch := omega) only [i_litN, i_ofNat, i_add, i_mul, i_sub, i_addn, i_subm, y_nsm, i_le, i_lt, i_nat, i_eq, i_div, i_nle, i_nlt, i_len, i_ltn, i_neq, i_eqn, i_and1, i_and63, i_and255, b8_sx, ob_some, if_true, if_false, and_self, true_and, if_pos, if_neg]
      rw [e_X11_carry_95, g1, ob_some]
      simp (disch := omega) only [i_litN, i_ofNat, i_add, i_mul, i_sub, i_addn, i_subm, y_nsm, i_le, i_lt, i_nat, i_eq, i_div, i_nle, i_nlt, i_len, i_ltn, i_neq, i_eqn, i_and1, i_and63, i_and255, b8_sx, ob_some, if_true, if_false, and_self, true_and, if_pos, if_neg]
      rw [r2, ob_some]
  · subst hq
    rw [if_neg (by omega)] at hs
    subst hs
    have hv := hv0 (.inl rfl)
    subst hv
    have h3' := h3 rfl
    obtain ⟨c2, d2, n2, r1, r2, r3, r4, r5, r6, r7⟩ := core c dl fe ne (100 * K) (sl_i (k0 / 256)) (k0 % 256) len2 (k0 / 256) hEe0 hC0 hHe0 (by omega) (y_sm_refl _ _) (y_sm_refl _ _) (Nat.le_refl _) (by omega) (fun i hi => i_eq (by omega) (by omega)) (fun _ => h3')
    refine fin c2 d2 fe n2 _ _ 99996 r3 r4 r5 r6 r7 (fun _ => ?_) (fun q => by omega) ?_
    · simp (disch := omega) only [i_litN, i_ofNat, i_add, i_mul, i_sub, i_addn, i_subm, y_nsm, i_le, i_lt, i_nat, i_eq, i_div, i_nle, i_nlt, i_len, i_ltn, i_neq, i_eqn, i_and1, i_and63, i_and255, b8_sx, ob_some, if_true, if_false, and_self, true_and, if_pos, if_neg, hlen]
      rw [r1, ob_some]
    · simp (disch := omega) only [i_litN, i_ofNat, i_add, i_mul, i_sub, i_addn, i_subm, y_nsm, i_le, i_lt, i_nat, i_eq, i_div, i_nle, i_nlt, i_len, i_ltn, i_neq, i_eqn, i_and1, i_and63, i_and255, b8_sx, ob_some, if_true, if_false, and_self, true_and, if_pos, if_neg]
      rw [e_X11_carry_95, g1, ob_some]
      simp (disch := omega) only [i_litN, i_ofNat, i_add, i_mul, i_sub, i_addn, i_subm, y_nsm, i_le, i_lt, i_nat, i_eq, i_div, i_nle, i_nlt, i_len, i_ltn, i_neq, i_eqn, i_and1, i_and63, i_and255, b8_sx, ob_some, if_true, if_false, and_self, true_and, if_pos, if_neg]
      rw [r2, ob_some]
  · subst hq
    rw [if_neg (by omega)] at hs
    subst hs
    have hv := hv0 (.inr rfl)
    subst hv
    have h4' := h4 rfl
    obtain ⟨c2, d2, n2, r1, r2, r3, r4, r5, r6, r7⟩ := core c dl fe ne (100 * K) (-(sl_i 1)) 0 k0 1000 hEe0 hC0 hHe0 (by omega) (y_sm_refl _ _) (y_sm_refl _ _) (by omega) (by omega) (hnone k0 (by omega)) (fun q => absurd rfl q)
    refine fin c2 d2 fe n2 _ _ 99996 r3 r4 r5 r6 r7 (fun _ => ?_) (fun q => by omega) ?_
    · simp (disch := omega) only [i_litN, i_ofNat, i_add, i_mul, i_sub, i_addn, i_subm, y_nsm, i_le, i_lt, i_nat, i_eq, i_div, i_nle, i_nlt, i_len, i_ltn, i_neq, i_eqn, i_and1, i_and63, i_and255, b8_sx, ob_some, if_true, if_false, and_self, true_and, if_pos, if_neg, hlen]
      rw [r1, ob_some]
    · simp (disch := omega) only [i_litN, i_ofNat, i_add, i_mul, i_sub, i_addn, i_subm, y_nsm, i_le, i_lt, i_nat, i_eq, i_div, i_nle, i_nlt, i_len, i_ltn, i_neq, i_eqn, i_and1, i_and63, i_and255, b8_sx, ob_some, if_true, if_false, and_self, true_and, if_pos, if_neg]
      rw [e_X11_carry_95, g1, ob_some]
      simp (disch := omega) only [i_litN, i_ofNat, i_add, i_mul, i_sub, i_addn, i_subm, y_nsm, i_le, i_lt, i_nat, i_eq, i_div, i_nle, i_nlt, i_len, i_ltn, i_neq, i_eqn, i_and1, i_and63, i_and255, b8_sx, ob_some, if_true, if_false, and_self, true_and, if_pos, if_neg]
      rw [r2, ob_some]
  · subst hq
    rw [if_neg (by omega)] at hs
    subst hs
    obtain ⟨c1, dm, n1, t1, t2, t3, t4, t5, t6, t7⟩ := y_hearAny mo sp wi si ti e fe ne K (100 * K) (sl_b8 v) c dl he (by omega) hEe0 hC0 hHe0 (by omega) (b8_lt _)
    obtain ⟨c2, d2, n2, r1, r2, r3, r4, r5, r6, r7⟩ := core c1 dm fe n1 (100 * K + 1) (-(sl_i 1)) 0 len2 1000 t3 t4 t5 (by omega) t6 t7 (Nat.le_refl _) (by omega) (hnone len2 hlen67) (fun q => absurd rfl q)
    refine fin c2 d2 fe n2 _ _ 99996 r3 r4 r5 r6 r7 (fun _ => ?_) (fun q => by omega) ?_
    · have hl2 : c1.1 6 (14 + f) 1 = sl_i len2 := by rw [t6.2 _ _ _ (hrow 6 1 (.inr ⟨rfl, rfl⟩))]; exact hlen
      simp (disch := omega) only [i_litN, i_ofNat, i_add, i_mul, i_sub, i_addn, i_subm, y_nsm, i_le, i_lt, i_nat, i_eq, i_div, i_nle, i_nlt, i_len, i_ltn, i_neq, i_eqn, i_and1, i_and63, i_and255, b8_sx, ob_some, if_true, if_false, and_self, true_and, if_pos, if_neg]
      rw [t1, ob_some]
      dsimp only
      rw [hl2, r1, ob_some]
    · simp (disch := omega) only [i_litN, i_ofNat, i_add, i_mul, i_sub, i_addn, i_subm, y_nsm, i_le, i_lt, i_nat, i_eq, i_div, i_nle, i_nlt, i_len, i_ltn, i_neq, i_eqn, i_and1, i_and63, i_and255, b8_sx, ob_some, if_true, if_false, and_self, true_and, if_pos, if_neg]
      rw [e_X11_carry_95, g1, ob_some]
      simp (disch := omega) only [i_litN, i_ofNat, i_add, i_mul, i_sub, i_addn, i_subm, y_nsm, i_le, i_lt, i_nat, i_eq, i_div, i_nle, i_nlt, i_len, i_ltn, i_neq, i_eqn, i_and1, i_and63, i_and255, b8_sx, ob_some, if_true, if_false, and_self, true_and, if_pos, if_neg]
      rw [show 1 - l = e from hle.symm, t2, ob_some]
      dsimp only
      rw [r2, ob_some]
theorem q_carry (K : Nat) (a w v : Int32) (c d : sl_M) (hK : K < 9000) (h : y_R K c d) : y_Q K c d (f_X10_carry a w v c) (f_X11_carry a w v d) := by
  by_cases ha : a = sl_i 0 ∨ a = sl_i 1
  · obtain ⟨l, hl, rfl⟩ : ∃ e, e < 2 ∧ a = sl_i e := by rcases ha with h | h; exact ⟨0, by omega, h⟩; exact ⟨1, by omega, h⟩
    have hR := h
    have hR0 := y_R_thr (x := sl_i 0) h
    obtain ⟨mo, sp, wi, si, ti, hC, hT, hE⟩ := hR0
    obtain ⟨⟨fi, n, hEl⟩, hHl⟩ := hE l hl
    obtain ⟨l1, l2, l3, l4⟩ := hEl.2.1
    obtain ⟨d0, hd0⟩ : ∃ d0, d0 = sl_up d 11 0 0 (sl_i 0) := ⟨_, rfl⟩
    rw [← hd0] at hC hT hE hEl hHl l1 l2 l4
    have hthr : d0.1 11 0 0 = sl_i 0 := by rw [hd0, up_eq rfl rfl rfl]
    rw [e_X10_carry, y_laneAt c hl, ob_some]
    dsimp only
    rw [if_neg (show ¬ ((0 : Nat) = 2) by decide)]
    have hno : ∀ A : Option (sl_PL × sl_M), A = some ((-(sl_i 1), 0, 0), c) → f_X11_carry (sl_i l) w v d = some ((-(sl_i 1), 0, 0), d0) → y_Q K c d A (f_X11_carry (sl_i l) w v d) := by
      intro A h1 h2
      rw [hd0] at h2
      exact y_Qr hR h1 h2
    have hn1 : (-1 : Int32) = -(sl_i 1) := rfl
    by_cases hn : n = 0
    · subst hn
      refine hno _ ?_ ?_
      · have hnn : f_X4_nth l (0 : Int32) c = some ((sl_i 0, 0, 1), c) := y_nthNo c (a := 0) l2.1 (by omega) (by omega) (by omega)
        rw [hnn, ob_some]
        dsimp only
        rw [if_pos rfl, hn1]
      · rw [e_X11_carry, y_isOutNo d hl, ob_some, ← hd0]
        simp (disch := omega) only [i_litN, i_ofNat, i_add, i_mul, i_sub, i_addn, i_subm, y_nsm, i_le, i_lt, i_nat, i_eq, i_div, i_nle, i_nlt, i_len, i_ltn, i_neq, i_eqn, i_and1, i_and63, i_and255, b8_sx, ob_some, if_true, if_false, and_self, true_and, if_pos, if_neg, l2.2.1]
    obtain ⟨len, so, nu, lo, ag, f1, _⟩ := l4 fi l1.2.2
    have hnth : f_X4_nth l (0 : Int32) c = some ((sl_i 0, 40 * l + (fi + 0) % 40, 0), c) := y_nth c (a := 0) l1.1 l2.1 l2.2.2 l1.2.2 (by omega)
    rw [show (fi + 0) % 40 = fi by omega] at hnth
    rw [hnth, ob_some]
    dsimp only
    rw [if_neg (show ¬ ((0 : Nat) = 1) by decide)]
    have hnn1 : 1 ≤ n := by omega
    have hcan : ∀ x : Nat, x ≤ 1 → f_X10_canCarry (40 * l + fi) w v c = some ((sl_i x, 0, 0), c) → (x = 0 → f_X11_carry (sl_i l) w v d = some ((-(sl_i 1), 0, 0), d0)) →
        (x = 1 → ∃ h k0, h ≤ 5 ∧ w = sl_i h ∧ k0 < 2147483648 ∧ (h = 3 ∨ h = 4 → v = sl_i k0) ∧ (h = 3 → k0 / 256 < len) ∧ (h = 4 → k0 < len) ∧ f_X11_carry (sl_i l) w v d = b_X11_carry_83 99999 (sl_i l) w v (sl_i len) d0) →
        y_Q K c d ((f_X10_canCarry (40 * l + fi) w v c).bind (fun q3 =>
          if q3.1.1 = 0 then some (((-1 : Int32), 0, 0), q3.2)
          else
            (f_X10_hearerOf (sl_i l) q3.2).bind (fun q4 =>
            if w = (1 : Int32) then
              (f_X9_add (3 : Int32) q4.2).bind (fun q5 =>
              if w = (2 : Int32) then
                some (((q5.2.1 4 l 4), 0, 0), q5.2)
              else
                (f_X4_dropFirst l q5.2).bind (fun q6 =>
                some (((q6.2.1 4 l 4), 0, 0), q6.2)))
            else
              if w = (3 : Int32) then
                (f_X10_bring (40 * l + fi) q4.1.2.1 (v / (256 : Int32)) (v - v / (256 : Int32) * (256 : Int32)) (q4.2.1 6 (14 + (40 * l + fi)) 1) q4.2).bind (fun q7 =>
                if w = (2 : Int32) then
                  some (((q7.2.1 4 l 4), 0, 0), q7.2)
                else
                  (f_X4_dropFirst l q7.2).bind (fun q8 =>
                  some (((q8.2.1 4 l 4), 0, 0), q8.2)))
              else
                if w = (4 : Int32) then
                  (f_X10_bring (40 * l + fi) q4.1.2.1 (-1 : Int32) (0 : Int32) v q4.2).bind (fun q9 =>
                  if w = (2 : Int32) then
                    some (((q9.2.1 4 l 4), 0, 0), q9.2)
                  else
                    (f_X4_dropFirst l q9.2).bind (fun q10 =>
                    some (((q10.2.1 4 l 4), 0, 0), q10.2)))
                else
                  if w = (5 : Int32) then
                    (f_X1_hear q4.1.2.1 (v &&& (255 : Int32)) (0 : Int32) q4.2).bind (fun q11 =>
                    (f_X10_bring (40 * l + fi) q4.1.2.1 (-1 : Int32) (0 : Int32) (q11.2.1 6 (14 + (40 * l + fi)) 1) q11.2).bind (fun q12 =>
                    if w = (2 : Int32) then
                      some (((q12.2.1 4 l 4), 0, 0), q12.2)
                    else
                      (f_X4_dropFirst l q12.2).bind (fun q13 =>
                      some (((q13.2.1 4 l 4), 0, 0), q13.2))))
                  else
                    (f_X10_bring (40 * l + fi) q4.1.2.1 (-1 : Int32) (0 : Int32) (q4.2.1 6 (14 + (40 * l + fi)) 1) q4.2).bind (fun q14 =>
                    if w = (2 : Int32) then
                      some (((q14.2.1 4 l 4), 0, 0), q14.2)
                    else
                      (f_X4_dropFirst l q14.2).bind (fun q15 =>
                      some (((q15.2.1 4 l 4), 0, 0), q15.2)))))) (f_X11_carry (sl_i l) w v d) := by
      intro x hx h1 h2 h3
      rcases (show x = 0 ∨ x = 1 by omega) with q | q
      · subst q
        refine hno _ ?_ (h2 rfl)
        rw [h1, ob_some]
        dsimp only
        rw [if_pos (show sl_i 0 = (0 : Int32) from rfl), hn1]
      · subst q
        obtain ⟨h, k0, g1, rfl, g3, g4, g5, g6, g7⟩ := h3 rfl
        rw [h1, ob_some, g7]
        dsimp only
        rw [if_neg (show ¬ (sl_i 1 = (0 : Int32)) by decide)]
        obtain ⟨c', d', r1, r2, r3, r4⟩ := y_carryGo K l h v mo sp wi si ti fi n len c d0 hK hl g1 hC hT hE hEl hnn1 f1.1 f1.2.2 hthr k0 g3 g4 g5 g6
        refine ⟨c', d', r1, r2, y_sm_tr (y_zTm' (y_thr d (sl_i 0))) (by rw [← hd0]; exact r3) (fun _ _ _ q => q) (fun _ _ _ q => q), r4⟩
    by_cases hw : w < sl_i 0
    · refine hcan 0 (by omega) ?_ (fun _ => ?_) (fun q => by omega)
      · rw [e_X10_canCarry]
        simp only [i_litN]
        try rw [if_pos hw]
      · rw [e_X11_carry, y_isOutNo d hl, ob_some, ← hd0]
        simp (disch := omega) only [i_litN, i_ofNat, i_add, i_mul, i_sub, i_addn, i_subm, y_nsm, i_le, i_lt, i_nat, i_eq, i_div, i_nle, i_nlt, i_len, i_ltn, i_neq, i_eqn, i_and1, i_and63, i_and255, b8_sx, ob_some, if_true, if_false, and_self, true_and, if_pos, if_neg, l2.2.1]
        try rw [if_pos hw]
    obtain ⟨h, hh, rfl⟩ := y_nn w hw
    by_cases h5 : h ≤ 5
    · by_cases hq3 : h = 3
      · subst hq3
        by_cases hv : v < sl_i 0
        · refine hcan 0 (by omega) ?_ (fun _ => ?_) (fun q => by omega)
          · rw [e_X10_canCarry]
            simp (disch := omega) only [i_litN, i_ofNat, i_add, i_mul, i_sub, i_addn, i_subm, y_nsm, i_le, i_lt, i_nat, i_eq, i_div, i_nle, i_nlt, i_len, i_ltn, i_neq, i_eqn, i_and1, i_and63, i_and255, b8_sx, ob_some, if_true, if_false, and_self, true_and, if_pos, if_neg]
            try rw [if_pos hv]
          · rw [e_X11_carry, y_isOutNo d hl, ob_some, ← hd0]
            simp (disch := omega) only [i_litN, i_ofNat, i_add, i_mul, i_sub, i_addn, i_subm, y_nsm, i_le, i_lt, i_nat, i_eq, i_div, i_nle, i_nlt, i_len, i_ltn, i_neq, i_eqn, i_and1, i_and63, i_and255, b8_sx, ob_some, if_true, if_false, and_self, true_and, if_pos, if_neg, l2.2.1, l1.2.1, f1.2.1]
            try rw [if_pos hv]
        · obtain ⟨k, hk, rfl⟩ := y_nn v hv
          by_cases hkl : k / 256 < len
          · refine hcan 1 (by omega) ?_ (fun q => by omega) (fun _ => ⟨3, k, by omega, rfl, hk, fun _ => rfl, fun _ => hkl, fun q => by omega, ?_⟩)
            · rw [e_X10_canCarry, f1.1]
              simp (disch := omega) only [i_litN, i_ofNat, i_add, i_mul, i_sub, i_addn, i_subm, y_nsm, i_le, i_lt, i_nat, i_eq, i_div, i_nle, i_nlt, i_len, i_ltn, i_neq, i_eqn, i_and1, i_and63, i_and255, b8_sx, ob_some, if_true, if_false, and_self, true_and, if_pos, if_neg]
            · rw [e_X11_carry, y_isOutNo d hl, ob_some, ← hd0]
              simp (disch := omega) only [i_litN, i_ofNat, i_add, i_mul, i_sub, i_addn, i_subm, y_nsm, i_le, i_lt, i_nat, i_eq, i_div, i_nle, i_nlt, i_len, i_ltn, i_neq, i_eqn, i_and1, i_and63, i_and255, b8_sx, ob_some, if_true, if_false, and_self, true_and, if_pos, if_neg, l2.2.1, l1.2.1, f1.2.1]
          · refine hcan 0 (by omega) ?_ (fun _ => ?_) (fun q => by omega)
            · rw [e_X10_canCarry, f1.1]
              simp (disch := omega) only [i_litN, i_ofNat, i_add, i_mul, i_sub, i_addn, i_subm, y_nsm, i_le, i_lt, i_nat, i_eq, i_div, i_nle, i_nlt, i_len, i_ltn, i_neq, i_eqn, i_and1, i_and63, i_and255, b8_sx, ob_some, if_true, if_false, and_self, true_and, if_pos, if_neg]
            · rw [e_X11_carry, y_isOutNo d hl, ob_some, ← hd0]
              simp (disch := omega) only [i_litN, i_ofNat, i_add, i_mul, i_sub, i_addn, i_subm, y_nsm, i_le, i_lt, i_nat, i_eq, i_div, i_nle, i_nlt, i_len, i_ltn, i_neq, i_eqn, i_and1, i_and63, i_and255, b8_sx, ob_some, if_true, if_false, and_self, true_and, if_pos, if_neg, l2.2.1, l1.2.1, f1.2.1]
      · by_cases hq4 : h = 4
        · subst hq4
          by_cases hv : v < sl_i 0
          · refine hcan 0 (by omega) ?_ (fun _ => ?_) (fun q => by omega)
            · rw [e_X10_canCarry]
              simp (disch := omega) only [i_litN, i_ofNat, i_add, i_mul, i_sub, i_addn, i_subm, y_nsm, i_le, i_lt, i_nat, i_eq, i_div, i_nle, i_nlt, i_len, i_ltn, i_neq, i_eqn, i_and1, i_and63, i_and255, b8_sx, ob_some, if_true, if_false, and_self, true_and, if_pos, if_neg]
              try rw [if_pos hv]
            · rw [e_X11_carry, y_isOutNo d hl, ob_some, ← hd0]
              simp (disch := omega) only [i_litN, i_ofNat, i_add, i_mul, i_sub, i_addn, i_subm, y_nsm, i_le, i_lt, i_nat, i_eq, i_div, i_nle, i_nlt, i_len, i_ltn, i_neq, i_eqn, i_and1, i_and63, i_and255, b8_sx, ob_some, if_true, if_false, and_self, true_and, if_pos, if_neg, l2.2.1, l1.2.1, f1.2.1]
              try rw [if_pos hv]
          · obtain ⟨k, hk, rfl⟩ := y_nn v hv
            by_cases hkl : k < len
            · refine hcan 1 (by omega) ?_ (fun q => by omega) (fun _ => ⟨4, k, by omega, rfl, hk, fun _ => rfl, fun q => by omega, fun _ => hkl, ?_⟩)
              · rw [e_X10_canCarry, f1.1]
                simp (disch := omega) only [i_litN, i_ofNat, i_add, i_mul, i_sub, i_addn, i_subm, y_nsm, i_le, i_lt, i_nat, i_eq, i_div, i_nle, i_nlt, i_len, i_ltn, i_neq, i_eqn, i_and1, i_and63, i_and255, b8_sx, ob_some, if_true, if_false, and_self, true_and, if_pos, if_neg]
              · rw [e_X11_carry, y_isOutNo d hl, ob_some, ← hd0]
                simp (disch := omega) only [i_litN, i_ofNat, i_add, i_mul, i_sub, i_addn, i_subm, y_nsm, i_le, i_lt, i_nat, i_eq, i_div, i_nle, i_nlt, i_len, i_ltn, i_neq, i_eqn, i_and1, i_and63, i_and255, b8_sx, ob_some, if_true, if_false, and_self, true_and, if_pos, if_neg, l2.2.1, l1.2.1, f1.2.1]
            · refine hcan 0 (by omega) ?_ (fun _ => ?_) (fun q => by omega)
              · rw [e_X10_canCarry, f1.1]
                simp (disch := omega) only [i_litN, i_ofNat, i_add, i_mul, i_sub, i_addn, i_subm, y_nsm, i_le, i_lt, i_nat, i_eq, i_div, i_nle, i_nlt, i_len, i_ltn, i_neq, i_eqn, i_and1, i_and63, i_and255, b8_sx, ob_some, if_true, if_false, and_self, true_and, if_pos, if_neg]
              · rw [e_X11_carry, y_isOutNo d hl, ob_some, ← hd0]
                simp (disch := omega) only [i_litN, i_ofNat, i_add, i_mul, i_sub, i_addn, i_subm, y_nsm, i_le, i_lt, i_nat, i_eq, i_div, i_nle, i_nlt, i_len, i_ltn, i_neq, i_eqn, i_and1, i_and63, i_and255, b8_sx, ob_some, if_true, if_false, and_self, true_and, if_pos, if_neg, l2.2.1, l1.2.1, f1.2.1]
        · refine hcan 1 (by omega) ?_ (fun q => by omega) (fun _ => ⟨h, 0, h5, rfl, by omega, fun q => by omega, fun q => by omega, fun q => by omega, ?_⟩)
          · rw [e_X10_canCarry]
            simp (disch := omega) only [i_litN, i_ofNat, i_add, i_mul, i_sub, i_addn, i_subm, y_nsm, i_le, i_lt, i_nat, i_eq, i_div, i_nle, i_nlt, i_len, i_ltn, i_neq, i_eqn, i_and1, i_and63, i_and255, b8_sx, ob_some, if_true, if_false, and_self, true_and, if_pos, if_neg]
          · rw [e_X11_carry, y_isOutNo d hl, ob_some, ← hd0]
            simp (disch := omega) only [i_litN, i_ofNat, i_add, i_mul, i_sub, i_addn, i_subm, y_nsm, i_le, i_lt, i_nat, i_eq, i_div, i_nle, i_nlt, i_len, i_ltn, i_neq, i_eqn, i_and1, i_and63, i_and255, b8_sx, ob_some, if_true, if_false, and_self, true_and, if_pos, if_neg, l2.2.1, l1.2.1, f1.2.1]
    · refine hcan 0 (by omega) ?_ (fun _ => ?_) (fun q => by omega)
      · rw [e_X10_canCarry]
        simp (disch := omega) only [i_litN, i_ofNat, i_add, i_mul, i_sub, i_addn, i_subm, y_nsm, i_le, i_lt, i_nat, i_eq, i_div, i_nle, i_nlt, i_len, i_ltn, i_neq, i_eqn, i_and1, i_and63, i_and255, b8_sx, ob_some, if_true, if_false, and_self, true_and, if_pos, if_neg]
      · rw [e_X11_carry, y_isOutNo d hl, ob_some, ← hd0]
        simp (disch := omega) only [i_litN, i_ofNat, i_add, i_mul, i_sub, i_addn, i_subm, y_nsm, i_le, i_lt, i_nat, i_eq, i_div, i_nle, i_nlt, i_len, i_ltn, i_neq, i_eqn, i_and1, i_and63, i_and255, b8_sx, ob_some, if_true, if_false, and_self, true_and, if_pos, if_neg, l2.2.1]
  · have h0 : a ≠ sl_i 0 := fun q => ha (.inl q)
    have h1 : a ≠ sl_i 1 := fun q => ha (.inr q)
    refine y_QX (b := -(sl_i 1)) h ?_ ?_
    · rw [e_X10_carry, y_laneNo c a h0 h1, ob_some, if_pos rfl]; rfl
    · rw [e_X11_carry, y_isOutYes d a h0 h1, ob_some]
      simp (disch := omega) only [i_litN, i_ofNat, i_add, i_mul, i_sub, i_addn, i_subm, y_nsm, i_le, i_lt, i_nat, i_eq, i_div, i_nle, i_nlt, i_len, i_ltn, i_neq, i_eqn, i_and1, i_and63, i_and255, b8_sx, ob_some, if_true, if_false, and_self, true_and, if_pos, if_neg]
