/-! round -/
def y_W (mo sp wi si ti K : Nat) (fi n nh : Nat → Nat) (c d : sl_M) : Prop := y_gC c d ∧ y_gT c d ∧ ∀ e, e < 2 → y_E mo sp wi si ti e (fi e) (n e) K c d ∧ y_gHx e (nh e) c d ∧ nh e ≤ 100 * K ∧ ∃ x, x ≤ 1 ∧ d.1 72 0 e = sl_i x
theorem y_W_R {mo sp wi si ti K : Nat} {fi n nh : Nat → Nat} {c d : sl_M} (h : y_W mo sp wi si ti K fi n nh c d) : y_R K c d := by
  obtain ⟨h1, h2, h3⟩ := h
  refine ⟨mo, sp, wi, si, ti, h1, h2, fun e he => ?_⟩
  obtain ⟨q1, q2, q3, x, q4, q5⟩ := h3 e he
  exact ⟨⟨_, _, q1⟩, _, x, q2, q3, q5, q4⟩
theorem y_R_W {K : Nat} {c d : sl_M} (h : y_R K c d) : ∃ mo sp wi si ti fi n nh, y_W mo sp wi si ti K fi n nh c d := by
  obtain ⟨mo, sp, wi, si, ti, h1, h2, h3⟩ := h
  obtain ⟨⟨f0, n0, q0⟩, b0, x0, r0, s0, t0, u0⟩ := h3 0 (by omega)
  obtain ⟨⟨f1, n1, q1⟩, b1, x1, r1, s1, t1, u1⟩ := h3 1 (by omega)
  refine ⟨mo, sp, wi, si, ti, fun e => if e = 0 then f0 else f1, fun e => if e = 0 then n0 else n1, fun e => if e = 0 then b0 else b1, h1, h2, fun e he => ?_⟩
  rcases y_e01 he with h | h
  · subst h; exact ⟨q0, r0, s0, x0, u0, t0⟩
  · subst h; exact ⟨q1, r1, s1, x1, u1, t1⟩
/-- the first frame of a line is heard and goes -/
theorem y_turn (mo sp wi si ti K l e : Nat) (fi n nh : Nat → Nat) (c d : sl_M) (hK : K < 9000) (hl : l < 2) (hle : e = 1 - l) (h : y_W mo sp wi si ti K fi n nh c d) (hn1 : 1 ≤ n l) :
    ∃ len c2 c3 dl d2 ne', c.1 6 (14 + (40 * l + fi l)) 1 = sl_i len ∧ f_X10_bring (40 * l + fi l) e (-(sl_i 1)) (sl_i 0) (sl_i len) c = some ((sl_i 0, 0, 0), c2) ∧ f_X4_dropFirst l c2 = some ((sl_i 0, 0, 0), c3) ∧
      f_X11_leaves (sl_i l) (sl_i 0) d = some ((sl_i len, 0, 0), dl) ∧ f_X11_moves (sl_i l) (sl_i len) (-(sl_i 1)) (sl_i 0) dl = some ((sl_i 0, 0, 0), d2) ∧
      y_W mo sp wi si ti K (fun o => if o = l then (fi l + 1) % 40 else fi o) (fun o => if o = l then n l - 1 else ne') (fun o => if o = l then nh l else 0) c3 d2 ∧
      y_grow e (fi e) (n e) ne' c c3 ∧ (∀ j, j < 40 → c3.1 2 (40 * l + j) 1 = c.1 2 (40 * l + j) 1) ∧ (nh e = 0 → c.1 2 (40 * l + fi l) 1 = sl_i 1 → ne' = n e) ∧ y_sm y_zc c c3 ∧ y_sm y_zm d d2 ∧ d2.1 11 0 0 = d.1 11 0 0 := by
  obtain ⟨hC, hT, hE⟩ := h
  have he : e < 2 := by omega
  have hle2 : 1 - e = l := by omega
  have hel : l ≠ e := by omega
  obtain ⟨hEl, hHl, hBl, xl, hxl, h72l⟩ := hE l hl
  obtain ⟨hEe, hHe, hBe, xe, hxe, h72e⟩ := hE e he
  obtain ⟨l1, l2, l3, l4⟩ := hEl.2.1
  obtain ⟨f, hf⟩ : ∃ f, f = 40 * l + fi l := ⟨_, rfl⟩
  obtain ⟨len, so, nu, lo, ag, f1, f2, f3, f4, f5, f6, f7, f8, f9⟩ := l4 (fi l) l1.2.2
  rw [← hf] at f1 f2 f3 f4 f5 f6 f7 f8
  rw [← hf]
  have hl0 : len ≠ 0 := by
    have h1 := l3 0 (by omega)
    rw [show (fi l + 0) % 40 = fi l by omega, ← hf, f1.1] at h1
    intro h; exact h1 (by rw [h])
  obtain ⟨f71, f72, f73⟩ := f7 hl0
  obtain ⟨d1, dl, g1, g2, g3, g4, g5⟩ := y_leave l 0 (fi l) (n l) len f d hl (by omega) hf l1.2.2 l2.2.2 hn1 f1.2.2 l1.2.1 l2.2.1 f1.2.1
  rw [if_pos rfl] at g2
  subst g2
  have hEe0 := y_E_cong (S := fun _ _ _ => False) hEe he (y_sm_refl _ _) g5 (fun k w p q r => r) (fun k w p q r => by unfold y_zSd y_zFd y_zPd y_zRd at q; omega)
  have hC0 := y_gC_cong (S := fun _ _ _ => False) hC (y_sm_refl _ _) g5 (fun p q => q) (fun p q => by omega)
  have hHe0 : y_gHx e (nh e) c (sl_up (sl_up d1 62 0 l (sl_i ((fi l + 1) % 40))) 63 0 l (sl_i (n l - 1))) :=
    ⟨hHe.1, by rw [g5.2 _ _ _ (by omega)]; exact hHe.2.1, hHe.2.2.1, fun j hj => by rw [y_sm_mb g5 (by omega)]; exact hHe.2.2.2 j hj⟩
  obtain ⟨c2, d2, n2, nh2, x2, r1, r2, r3, r4, r5, r6, r7, r8, r9, r10, r11⟩ := y_bring mo sp wi si ti e (fi e) (n e) K f len 1000 0 len (nh e) xe (-(sl_i 1)) (y_rb c (14 + f)) c _ he (by omega) (by omega) (by omega) f71 f1.2.2 (Nat.le_refl _)
    (fun j => y_rb_lt _ _ _) f72 f73 (by omega) (fun i hi => by rw [i_neq (by omega) (by omega) (by omega)]; exact propext ⟨fun q => q.elim, fun q => by omega⟩) (fun q => absurd rfl q) hEe0 hC0 hHe0 (by omega)
    (by rw [g5.2 _ _ _ (by omega)]; exact h72e) f1.1 (fun j hj => rfl) (fun j hj => by rw [g3 j (by omega)]; exact (f6 j (by omega)).symm)
  rw [hle2] at r2
  obtain ⟨t1, t2, t3⟩ := r11 rfl rfl
  subst t2
  have hlan : ∀ p, ¬ y_zIc e 4 l p := by
    intro p q
    unfold y_zIc y_zBc y_zTc y_zLc y_zF y_zP y_zR at q; omega
  have hlan2 : ∀ k, k = 62 ∨ k = 63 → ¬ y_zId e k 0 l := by
    intro k hk q
    unfold y_zId y_zBd y_zTd y_zLd y_zFd y_zPd y_zRd at q; omega
  have hfr2 : ∀ j, j < 40 → ¬ y_zIc e 2 (40 * l + j) 1 := by
    intro j hj q
    unfold y_zIc y_zBc y_zTc y_zLc y_zF y_zP y_zR at q; omega
  obtain ⟨c3, hc3⟩ : ∃ c3, c3 = sl_up (sl_up c2 4 l 3 (sl_i ((fi l + 1) % 40))) 4 l 4 (sl_i (n l - 1)) := ⟨_, rfl⟩
  have hdr := y_drop c2 (l := l) (fi := fi l) (n := n l) (by rw [r9.2 _ _ _ (hlan 3)]; exact l1.1) (by rw [r9.2 _ _ _ (hlan 4)]; exact l2.1) hn1 l2.2.2 l1.2.2
  rw [← hc3] at hdr
  have hcu : y_sm (fun k w p => k = 4 ∧ w = l) c2 c3 := by rw [hc3]; exact ⟨rfl, fun k w p h => by rw [up_ne (by omega), up_ne (by omega)]⟩
  have hcs := y_sm_tr (U := fun k w p => y_zIc e k w p ∨ (k = 4 ∧ w = l)) r9 hcu (fun k w p h => .inl h) (fun k w p h => .inr h)
  have hds := y_sm_tr (U := fun k w p => y_zId e k w p ∨ (k = 30 ∧ w = 10) ∨ ((k = 62 ∨ k = 63) ∧ w = 0 ∧ p = l)) g5 r10 (fun k w p h => .inr h) (fun k w p h => .inl h)
  have hEl' := y_dropE hl hEl hn1 hcs hds
    (fun k w p a b q => by rcases q with q | q; exact y_zI_S he hl hel a q; omega)
    (fun k w p a b b2 q => by rcases q with q | q | q; exact y_zI_Sd he hl hel a q; have := y_zSd0 a hl; omega; omega)
    (by rw [hc3, up_ne (by omega), up_eq rfl rfl rfl]) (by rw [hc3, up_eq rfl rfl rfl]) (by rw [r10.2 _ _ _ (hlan2 62 (.inl rfl)), up_ne (by omega), up_eq rfl rfl rfl]) (by rw [r10.2 _ _ _ (hlan2 63 (.inr rfl)), up_eq rfl rfl rfl])
  have hEe' : y_E mo sp wi si ti e (fi e) n2 K c3 d2 :=
    y_E_cong (T := fun _ _ _ => False) r3 he hcu (y_sm_refl _ _) (fun k w p q r => by unfold y_zS y_zF y_zP y_zR at q; omega) (fun k w p q r => r)
  have hH2 : y_H l (100 * K) c3 d2 := y_H_cong (c := c) (d := d) ⟨nh l, xl, hHl, hBl, h72l, hxl⟩ (Nat.le_refl _) hcs hds
    (fun k w p q r => by
      rcases r with r | r
      · unfold y_zIc y_zBc y_zTc y_zLc y_zF y_zP y_zR at r; omega
      · omega)
    (fun k w p q r => by
      rcases r with r | r | r
      · unfold y_zId y_zBd y_zTd y_zLd y_zFd y_zPd y_zRd at r; omega
      · omega
      · omega)
  refine ⟨len, c2, c3, _, d2, n2, f1.1, r1, hdr, g1, r2, ⟨?_, ?_, fun o hoo => ?_⟩, ⟨t1.1.imp id (fun q => ⟨q.1, q.2.1, ?_⟩), ?_⟩, ?_, ?_, ?_, ?_, ?_⟩
  · exact y_gC_cong (T := fun _ _ _ => False) r4 hcu (y_sm_refl _ _) (fun p q => by omega) (fun p q => q)
  · exact y_gT_cong hT hcs hds (fun k w p q r => by rcases r with r | r; exact (y_zIc0 he r).2.1 q; unfold y_zT at q; omega) (fun k w p q r => by rcases r with r | r | r; have := y_zId0 he r; omega; omega; omega)
  · by_cases hol : o = l
    · subst hol
      dsimp only
      rw [if_pos rfl, if_pos rfl, if_pos rfl]
      refine ⟨hEl', ⟨?_, ?_, ?_, ?_⟩, hBl, ?_⟩
      · rw [hcs.2 _ _ _ (fun r => by rcases r with r | r; unfold y_zIc y_zBc y_zTc y_zLc y_zF y_zP y_zR at r; omega; omega)]; exact hHl.1
      · rw [hds.2 _ _ _ (fun r => by rcases r with r | r | r; unfold y_zId y_zBd y_zTd y_zLd y_zFd y_zPd y_zRd at r; omega; omega; omega)]; exact hHl.2.1
      · rw [hcs.2 _ _ _ (fun r => by rcases r with r | r; unfold y_zIc y_zBc y_zTc y_zLc y_zF y_zP y_zR at r; omega; omega)]; exact hHl.2.2.1
      · intro j hj
        rw [y_sm_rb hcs (fun r => by rcases r with r | r; unfold y_zIc y_zBc y_zTc y_zLc y_zF y_zP y_zR at r; omega; omega), y_sm_mb hds (fun r => by rcases r with r | r | r; unfold y_zId y_zBd y_zTd y_zLd y_zFd y_zPd y_zRd at r; omega; omega; omega)]
        exact hHl.2.2.2 j hj
      · obtain ⟨_, x, _, _, q1, q2⟩ := hH2
        exact ⟨x, q2, q1⟩
    · have hoe : o = e := by omega
      subst hoe
      dsimp only
      rw [if_neg hol, if_neg hol, if_neg hol]
      exact ⟨hEe', ⟨by rw [hcu.2 _ _ _ (by omega)]; exact r5.1, r5.2.1, by rw [hcu.2 _ _ _ (by omega)]; exact r5.2.2.1, fun j hj => by rw [y_sm_rb hcu (by omega)]; exact r5.2.2.2 j hj⟩, by omega, x2, r8, r7⟩
  · rw [hcu.2 _ _ _ (by omega)]; exact q.2.2
  · intro j hj hn; rw [hcu.2 _ _ _ (by omega)]; exact t1.2 j hj hn
  · intro j hj; rw [hcu.2 _ _ _ (by omega), r9.2 _ _ _ (hfr2 j hj)]
  · intro h0 hso
    have hso1 : so = 1 := by
      rw [f2.1] at hso
      exact y_isz hso (by omega) (by omega)
    obtain ⟨u1, u2, u3⟩ := f8 hso1 hl0
    exact t3 h0 u1 u2 u3
  · exact y_sm_mono hcs (fun k w p q => by rcases q with q | q; exact (y_zIc0 he q).1; unfold y_zc; omega)
  · exact y_sm_mono hds (fun k w p q => by rcases q with q | q | q; exact (y_zId0 he q).1; unfold y_zm; omega; unfold y_zm; omega)
  · rw [r10.2 _ _ _ (fun q => (y_zId0 he q).2.1 rfl), g5.2 _ _ _ (by omega)]

theorem y_hearer (c : sl_M) {l e : Nat} (hl : l < 2) (hle : e = 1 - l) : f_X10_hearerOf (sl_i l) c = some ((sl_i 0, e, 0), c) := by
  rw [e_X10_hearerOf]
  rcases y_e01 hl with q | q
  · subst q; simp (disch := omega) only [i_litN, i_ofNat, i_add, i_mul, i_sub, i_addn, i_subm, y_nsm, i_le, i_lt, i_nat, i_eq, i_div, i_nle, i_nlt, i_len, i_ltn, i_neq, i_eqn, i_and1, i_and63, i_and255, b8_sx, ob_some, if_true, if_false, and_self, true_and, if_pos, if_neg]; rw [hle]
  · subst q; simp (disch := omega) only [i_litN, i_ofNat, i_add, i_mul, i_sub, i_addn, i_subm, y_nsm, i_le, i_lt, i_nat, i_eq, i_div, i_nle, i_nlt, i_len, i_ltn, i_neq, i_eqn, i_and1, i_and63, i_and255, b8_sx, ob_some, if_true, if_false, and_self, true_and, if_pos, if_neg]; rw [hle]
/-- one turn of both loops -/
theorem y_turn2 (mo sp wi si ti K l e v1 v2 fuel fuel' : Nat) (fi n nh : Nat → Nat) (c d : sl_M) (hK : K < 9000) (hl : l < 2) (hle : e = 1 - l) (h : y_W mo sp wi si ti K fi n nh c d) (hn1 : 1 ≤ n l) (hl1 : l = 1 → n 0 = 0) (hv2 : v2 < 160) (hv1 : v1 < 100000) :
    ∃ c3 d2 ne', b_X10_round_9 (fuel + 1) (sl_i v1) (sl_i v2) c = b_X10_round_9 fuel (sl_i (v1 + 1)) (sl_i (v2 + 1)) c3 ∧ b_X11_round_12 (fuel' + 1) (sl_i v1) d = b_X11_round_12 fuel' (sl_i (v1 + 1)) d2 ∧
      y_W mo sp wi si ti K (fun o => if o = l then (fi l + 1) % 40 else fi o) (fun o => if o = l then n l - 1 else ne') (fun o => if o = l then nh l else 0) c3 d2 ∧
      y_grow e (fi e) (n e) ne' c c3 ∧ (∀ j, j < 40 → c3.1 2 (40 * l + j) 1 = c.1 2 (40 * l + j) 1) ∧ (nh e = 0 → c.1 2 (40 * l + fi l) 1 = sl_i 1 → ne' = n e) ∧ y_sm y_zc c c3 ∧ y_sm y_zm d d2 ∧ d2.1 11 0 0 = d.1 11 0 0 := by
  obtain ⟨len, c2, c3, dl, d2, ne', t1, t2, t3, t4, t5, t6⟩ := y_turn mo sp wi si ti K l e fi n nh c d hK hl hle h hn1
  refine ⟨c3, d2, ne', ?_, ?_, t6⟩
  · have hEl := (h.2.2 l hl).1
    have hE0 := (h.2.2 0 (by omega)).1
    obtain ⟨l1, l2, l3, l4⟩ := hEl.2.1
    obtain ⟨_, m2, _⟩ := hE0.2.1
    have hnth := y_nth c (a := 0) l1.1 l2.1 l2.2.2 l1.2.2 (by omega)
    rw [show (fi l + 0) % 40 = fi l by omega] at hnth
    have hla := y_laneAt c hl
    have hhe := y_hearer c hl hle
    rw [e_X10_round_9]
    rcases y_e01 hl with q | q
    · subst q
      simp (disch := omega) only [i_litN, i_ofNat, i_add, i_mul, i_sub, i_addn, i_subm, y_nsm, i_le, i_lt, i_nat, i_eq, i_div, i_nle, i_nlt, i_len, i_ltn, i_neq, i_eqn, i_and1, i_and63, i_and255, b8_sx, ob_some, if_true, if_false, and_self, true_and, if_pos, if_neg, l2.1]
      rw [hla, ob_some]
      simp (disch := omega) only [i_litN, i_ofNat, i_add, i_mul, i_sub, i_addn, i_subm, y_nsm, i_le, i_lt, i_nat, i_eq, i_div, i_nle, i_nlt, i_len, i_ltn, i_neq, i_eqn, i_and1, i_and63, i_and255, b8_sx, ob_some, if_true, if_false, and_self, true_and, if_pos, if_neg, hnth, hhe, t1, t2, t3]
    · subst q
      have hn0 := hl1 rfl
      rw [hn0] at m2
      simp (disch := omega) only [i_litN, i_ofNat, i_add, i_mul, i_sub, i_addn, i_subm, y_nsm, i_le, i_lt, i_nat, i_eq, i_div, i_nle, i_nlt, i_len, i_ltn, i_neq, i_eqn, i_and1, i_and63, i_and255, b8_sx, ob_some, if_true, if_false, and_self, true_and, if_pos, if_neg, m2.1]
      rw [hla, ob_some]
      simp (disch := omega) only [i_litN, i_ofNat, i_add, i_mul, i_sub, i_addn, i_subm, y_nsm, i_le, i_lt, i_nat, i_eq, i_div, i_nle, i_nlt, i_len, i_ltn, i_neq, i_eqn, i_and1, i_and63, i_and255, b8_sx, ob_some, if_true, if_false, and_self, true_and, if_pos, if_neg, hnth, hhe, t1, t2, t3]
  · have hEl := (h.2.2 l hl).1
    have hE0 := (h.2.2 0 (by omega)).1
    have hE1 := (h.2.2 1 (by omega)).1
    obtain ⟨l1, l2, l3, l4⟩ := hEl.2.1
    obtain ⟨_, m2, _⟩ := hE0.2.1
    obtain ⟨_, k2, _⟩ := hE1.2.1
    rw [e_X11_round_12]
    rcases y_e01 hl with q | q
    · subst q
      simp (disch := omega) only [i_litN, i_ofNat, i_add, i_mul, i_sub, i_addn, i_subm, y_nsm, i_le, i_lt, i_nat, i_eq, i_div, i_nle, i_nlt, i_len, i_ltn, i_neq, i_eqn, i_and1, i_and63, i_and255, b8_sx, ob_some, if_true, if_false, and_self, true_and, if_pos, if_neg, l2.2.1, t4, t5]
    · subst q
      have hn0 := hl1 rfl
      rw [hn0] at m2
      simp (disch := omega) only [i_litN, i_ofNat, i_add, i_mul, i_sub, i_addn, i_subm, y_nsm, i_le, i_lt, i_nat, i_eq, i_div, i_nle, i_nlt, i_len, i_ltn, i_neq, i_eqn, i_and1, i_and63, i_and255, b8_sx, ob_some, if_true, if_false, and_self, true_and, if_pos, if_neg, m2.2.1, l2.2.1, t4, t5]
theorem y_rEnd (mo sp wi si ti K v1 v2 fuel fuel' : Nat) (fi n nh : Nat → Nat) (c d : sl_M) (h : y_W mo sp wi si ti K fi n nh c d) (h0 : n 0 = 0) (h1 : n 1 = 0) (hv2 : v2 < 160) (hv1 : v1 < 200000) :
    b_X10_round_9 (fuel + 1) (sl_i v1) (sl_i v2) c = some ((sl_i v1, 0, 0), c) ∧ b_X11_round_12 (fuel' + 1) (sl_i v1) d = some ((sl_i v1, 0, 0), d) := by
  have hE0 := (h.2.2 0 (by omega)).1
  have hE1 := (h.2.2 1 (by omega)).1
  obtain ⟨_, m2, _⟩ := hE0.2.1
  obtain ⟨_, k2, _⟩ := hE1.2.1
  rw [h0] at m2
  rw [h1] at k2
  have hla := y_laneAt c (e := 1) (by omega)
  have hnn := y_nthNo c (a := 0) k2.1 (by omega) (by omega) (by omega)
  refine ⟨?_, ?_⟩
  · rw [e_X10_round_9]
    simp (disch := omega) only [i_litN, i_ofNat, i_add, i_mul, i_sub, i_addn, i_subm, y_nsm, i_le, i_lt, i_nat, i_eq, i_div, i_nle, i_nlt, i_len, i_ltn, i_neq, i_eqn, i_and1, i_and63, i_and255, b8_sx, ob_some, if_true, if_false, and_self, true_and, if_pos, if_neg, m2.1]
    rw [hla, ob_some]
    simp (disch := omega) only [i_litN, i_ofNat, i_add, i_mul, i_sub, i_addn, i_subm, y_nsm, i_le, i_lt, i_nat, i_eq, i_div, i_nle, i_nlt, i_len, i_ltn, i_neq, i_eqn, i_and1, i_and63, i_and255, b8_sx, ob_some, if_true, if_false, and_self, true_and, if_pos, if_neg, hnn]
  · rw [e_X11_round_12]
    simp (disch := omega) only [i_litN, i_ofNat, i_add, i_mul, i_sub, i_addn, i_subm, y_nsm, i_le, i_lt, i_nat, i_eq, i_div, i_nle, i_nlt, i_len, i_ltn, i_neq, i_eqn, i_and1, i_and63, i_and255, b8_sx, ob_some, if_true, if_false, and_self, true_and, if_pos, if_neg, m2.2.1, k2.2.1]
/-- every frame on line 0 is a KNOWN: the end is near -/
theorem y_r2 (mo sp wi si ti K : Nat) (hK : K < 9000) : ∀ μ v1 v2 fuel fuel' (fi n nh : Nat → Nat) (c d : sl_M), μ < fuel → μ < fuel' → v2 + μ < 160 → v1 + μ < 100000 → y_W mo sp wi si ti K fi n nh c d →
    (∀ j, j < n 0 → c.1 2 (40 * 0 + (fi 0 + j) % 40) 1 = sl_i 1) → 2 * n 1 + n 0 + (if nh 1 = 0 then 0 else 2) ≤ μ →
    ∃ c' d' a, b_X10_round_9 fuel (sl_i v1) (sl_i v2) c = some ((sl_i a, 0, 0), c') ∧ b_X11_round_12 fuel' (sl_i v1) d = some ((sl_i a, 0, 0), d') ∧ y_R K c' d' ∧ y_sm y_zc c c' ∧ y_sm y_zm d d' ∧ d'.1 11 0 0 = d.1 11 0 0 := by
  intro μ
  induction μ with
  | zero =>
    intro v1 v2 fuel fuel' fi n nh c d hf hf' hv2 hv1 hW hk hm
    obtain ⟨f2, rfl⟩ : ∃ f2, fuel = f2 + 1 := ⟨fuel - 1, by omega⟩
    obtain ⟨f3, rfl⟩ : ∃ f3, fuel' = f3 + 1 := ⟨fuel' - 1, by omega⟩
    obtain ⟨r1, r2⟩ := y_rEnd mo sp wi si ti K v1 v2 f2 f3 fi n nh c d hW (by omega) (by omega) (by omega) (by omega)
    exact ⟨c, d, v1, r1, r2, y_W_R hW, y_sm_refl _ _, y_sm_refl _ _, rfl⟩
  | succ μ ih =>
    intro v1 v2 fuel fuel' fi n nh c d hf hf' hv2 hv1 hW hk hm
    obtain ⟨f2, rfl⟩ : ∃ f2, fuel = f2 + 1 := ⟨fuel - 1, by omega⟩
    obtain ⟨f3, rfl⟩ : ∃ f3, fuel' = f3 + 1 := ⟨fuel' - 1, by omega⟩
    have hfi0 := (hW.2.2 0 (by omega)).1.2.1.1.2.2
    have hn40 := (hW.2.2 0 (by omega)).1.2.1.2.1.2.2
    by_cases h0 : n 0 = 0
    · by_cases h1 : n 1 = 0
      · obtain ⟨r1, r2⟩ := y_rEnd mo sp wi si ti K v1 v2 f2 f3 fi n nh c d hW h0 h1 (by omega) (by omega)
        exact ⟨c, d, v1, r1, r2, y_W_R hW, y_sm_refl _ _, y_sm_refl _ _, rfl⟩
      · obtain ⟨c3, d2, ne', t1, t2, t3, t4, t5, t6, t7, t8, t9⟩ := y_turn2 mo sp wi si ti K 1 0 v1 v2 f2 f3 fi n nh c d hK (by omega) rfl hW (by omega) (fun _ => h0) (by omega) (by omega)
        have hg : ne' = 0 ∨ (ne' = 1 ∧ c3.1 2 (40 * 0 + (fi 0 + 0) % 40) 1 = sl_i 1) := by
          rcases t4.1 with q | q
          · left; omega
          · right; rw [h0] at q; exact ⟨q.2.1, q.2.2⟩
        obtain ⟨c', d', a, s1, s2, s3, s4, s5, s6⟩ := ih (v1 + 1) (v2 + 1) f2 f3 _ _ _ c3 d2 (by omega) (by omega) (by omega) (by omega) t3
          (fun j hj => by
            try dsimp only at hj ⊢
            rw [if_neg (by omega)] at hj ⊢
            rcases hg with q | q
            · omega
            · rw [show j = 0 by omega]; exact q.2)
          (by
            try dsimp only
            rw [if_pos rfl, if_neg (by omega), if_pos rfl]
            have : ne' ≤ 1 := by rcases hg with q | q <;> omega
            omega)
        refine ⟨c', d', a, ?_, ?_, s3, y_sm_tr t7 s4 (fun _ _ _ q => q) (fun _ _ _ q => q), y_sm_tr t8 s5 (fun _ _ _ q => q) (fun _ _ _ q => q), by rw [s6, t9]⟩
        · rw [t1, s1]
        · rw [t2, s2]
    · obtain ⟨c3, d2, ne', t1, t2, t3, t4, t5, t6, t7, t8, t9⟩ := y_turn2 mo sp wi si ti K 0 1 v1 v2 f2 f3 fi n nh c d hK (by omega) rfl hW (by omega) (fun q => by omega) (by omega) (by omega)
      have hso := hk 0 (by omega)
      rw [show (fi 0 + 0) % 40 = fi 0 by omega] at hso
      have hne : ne' ≤ n 1 + 1 ∧ (nh 1 = 0 → ne' = n 1) := by
        refine ⟨?_, fun q => t6 q hso⟩
        rcases t4.1 with q | q
        · omega
        · omega
      obtain ⟨c', d', a, s1, s2, s3, s4, s5, s6⟩ := ih (v1 + 1) (v2 + 1) f2 f3 _ _ _ c3 d2 (by omega) (by omega) (by omega) (by omega) t3
        (fun j hj => by
          try dsimp only at hj ⊢
          rw [if_pos rfl] at hj ⊢
          rw [t5 _ (Nat.mod_lt _ (by decide)), show ((fi 0 + 1) % 40 + j) % 40 = (fi 0 + (j + 1)) % 40 by omega]
          exact hk (j + 1) (by omega))
        (by
          try dsimp only
          simp only [Nat.one_ne_zero, if_true, if_false]
          obtain ⟨q1, q2⟩ := hne
          by_cases hz : nh 1 = 0
          · rw [if_pos hz] at hm
            have := q2 hz
            omega
          · rw [if_neg hz] at hm
            omega)
      refine ⟨c', d', a, ?_, ?_, s3, y_sm_tr t7 s4 (fun _ _ _ q => q) (fun _ _ _ q => q), y_sm_tr t8 s5 (fun _ _ _ q => q) (fun _ _ _ q => q), by rw [s6, t9]⟩
      · rw [t1, s1]
      · rw [t2, s2]
/-- line 0 is emptied first -/
theorem y_r1 (mo sp wi si ti K : Nat) (hK : K < 9000) : ∀ a0 v1 v2 fuel fuel' (fi n nh : Nat → Nat) (c d : sl_M), n 0 = a0 + 1 → a0 + 90 < fuel → a0 + 90 < fuel' → v2 + a0 + 90 < 160 → v1 + a0 + 90 < 100000 → y_W mo sp wi si ti K fi n nh c d →
    ∃ c' d' a, b_X10_round_9 fuel (sl_i v1) (sl_i v2) c = some ((sl_i a, 0, 0), c') ∧ b_X11_round_12 fuel' (sl_i v1) d = some ((sl_i a, 0, 0), d') ∧ y_R K c' d' ∧ y_sm y_zc c c' ∧ y_sm y_zm d d' ∧ d'.1 11 0 0 = d.1 11 0 0 := by
  intro a0
  induction a0 with
  | zero =>
    intro v1 v2 fuel fuel' fi n nh c d hn hf hf' hv2 hv1 hW
    obtain ⟨f2, rfl⟩ : ∃ f2, fuel = f2 + 1 := ⟨fuel - 1, by omega⟩
    obtain ⟨f3, rfl⟩ : ∃ f3, fuel' = f3 + 1 := ⟨fuel' - 1, by omega⟩
    obtain ⟨c3, d2, ne', t1, t2, t3, t4, t5, t6, t7, t8, t9⟩ := y_turn2 mo sp wi si ti K 0 1 v1 v2 f2 f3 fi n nh c d hK (by omega) rfl hW (by omega) (fun q => by omega) (by omega) (by omega)
    have hn1 := (t3.2.2 1 (by omega)).1.2.1.2.1.2.2
    dsimp only at hn1
    rw [if_neg (by omega)] at hn1
    obtain ⟨c', d', a, s1, s2, s3, s4, s5, s6⟩ := y_r2 mo sp wi si ti K hK 80 (v1 + 1) (v2 + 1) f2 f3 _ _ _ c3 d2 (by omega) (by omega) (by omega) (by omega) t3
      (fun j hj => by
        try dsimp only at hj
        rw [if_pos rfl] at hj; omega)
      (by
        try dsimp only
        simp only [Nat.one_ne_zero, if_true, if_false]; omega)
    refine ⟨c', d', a, ?_, ?_, s3, y_sm_tr t7 s4 (fun _ _ _ q => q) (fun _ _ _ q => q), y_sm_tr t8 s5 (fun _ _ _ q => q) (fun _ _ _ q => q), by rw [s6, t9]⟩
    · rw [t1, s1]
    · rw [t2, s2]
  | succ a0 ih =>
    intro v1 v2 fuel fuel' fi n nh c d hn hf hf' hv2 hv1 hW
    obtain ⟨f2, rfl⟩ : ∃ f2, fuel = f2 + 1 := ⟨fuel - 1, by omega⟩
    obtain ⟨f3, rfl⟩ : ∃ f3, fuel' = f3 + 1 := ⟨fuel' - 1, by omega⟩
    obtain ⟨c3, d2, ne', t1, t2, t3, t4, t5, t6, t7, t8, t9⟩ := y_turn2 mo sp wi si ti K 0 1 v1 v2 f2 f3 fi n nh c d hK (by omega) rfl hW (by omega) (fun q => by omega) (by omega) (by omega)
    obtain ⟨c', d', a, s1, s2, s3, s4, s5, s6⟩ := ih (v1 + 1) (v2 + 1) f2 f3 _ _ _ c3 d2 (by rw [if_pos rfl]; omega) (by omega) (by omega) (by omega) (by omega) t3
    refine ⟨c', d', a, ?_, ?_, s3, y_sm_tr t7 s4 (fun _ _ _ q => q) (fun _ _ _ q => q), y_sm_tr t8 s5 (fun _ _ _ q => q) (fun _ _ _ q => q), by rw [s6, t9]⟩
    · rw [t1, s1]
    · rw [t2, s2]
theorem q_round (K : Nat) (c d : sl_M) (hK : K < 8000) (h : y_R K c d) : y_Q K c d (f_X10_round c) (f_X11_round d) := by
  obtain ⟨c1, d1, a, r1, r2, r3, r4, r5, r6⟩ := y_ticks K c (sl_up d 11 0 0 (sl_i 0)) (by omega) (y_R_thr h)
  obtain ⟨mo, sp, wi, si, ti, fi, n, nh, hW⟩ := y_R_W r3
  have hn0 := (hW.2.2 0 (by omega)).1.2.1.2.1.2.2
  have hn1 := (hW.2.2 1 (by omega)).1.2.1.2.1.2.2
  have hgo : ∃ c' d' a, b_X10_round_9 99999 (sl_i 0) (sl_i 0) c1 = some ((sl_i a, 0, 0), c') ∧ b_X11_round_12 99999 (sl_i 0) d1 = some ((sl_i a, 0, 0), d') ∧ y_R (K + 1) c' d' ∧ y_sm y_zc c1 c' ∧ y_sm y_zm d1 d' ∧ d'.1 11 0 0 = d1.1 11 0 0 := by
    by_cases h0 : n 0 = 0
    · exact y_r2 mo sp wi si ti (K + 1) (by omega) 90 0 0 99999 99999 fi n nh c1 d1 (by omega) (by omega) (by omega) (by omega) hW (fun j hj => by omega) (by split <;> omega)
    · exact y_r1 mo sp wi si ti (K + 1) (by omega) (n 0 - 1) 0 0 99999 99999 fi n nh c1 d1 (by omega) (by omega) (by omega) (by omega) (by omega) hW
  obtain ⟨c', d', b, s1, s2, s3, s4, s5, s6⟩ := hgo
  refine y_Qok (a := sl_i b) s3 (y_sm_tr r4 s4 (fun _ _ _ q => q) (fun _ _ _ q => q)) (y_sm_tr (y_sm_tr (y_zTm' (y_thr d _)) r5 (fun _ _ _ q => q) (fun _ _ _ q => q)) s5 (fun _ _ _ q => q) (fun _ _ _ q => q)) ?_ ?_ ?_
  · rw [e_X10_round, r1, ob_some]; exact s1
  · rw [e_X11_round]
    simp only [i_litN]
    rw [r2, ob_some]; exact s2
  · rw [s6, r6, up_eq rfl rfl rfl]
