/-! frame, octet, state -/
theorem y_nthAny (c : sl_M) {e fi n : Nat} (a : Int32) (hf : c.1 4 e 3 = sl_i fi) (hn : c.1 4 e 4 = sl_i n) (hn4 : n ≤ 40) (hfi : fi < 40) :
    (∃ k, k < n ∧ a = sl_i k ∧ f_X4_nth e a c = some ((sl_i 0, 40 * e + (fi + k) % 40, 0), c)) ∨ ((∀ k, k < n → a ≠ sl_i k) ∧ f_X4_nth e a c = some ((sl_i 0, 0, 1), c)) := by
  by_cases h0 : a < sl_i 0
  · refine .inr ⟨fun k hk h => ?_, ?_⟩
    · rw [h, i_lt (by omega) (by omega)] at h0; omega
    · rw [e_X4_nth]
      simp only [i_litN]
      rw [if_pos h0]
  · obtain ⟨k, hk, rfl⟩ := y_nn a h0
    by_cases hkn : k < n
    · exact .inl ⟨k, hkn, rfl, y_nth c hf hn hn4 hfi hkn⟩
    · exact .inr ⟨fun j hj h => by have := y_isz h hk (by omega); omega, y_nthNo c hn hn4 hk (by omega)⟩
theorem y_frameAtIn (d : sl_M) {e fi n k : Nat} (he : e < 2) (hf : d.1 62 0 e = sl_i fi) (hn : d.1 63 0 e = sl_i n) (hn4 : n ≤ 40) (hfi : fi < 40) (hk : k < n) :
    f_X11_frameAt (sl_i e) (sl_i k) d = some ((sl_i (40 * e + (fi + k) % 40), 0, 0), d) := by
  rw [e_X11_frameAt]
  simp (disch := omega) only [i_lit, i_ofNat, i_add, i_mul, i_sub, i_addn, i_subm, y_nsm, i_le, i_lt, i_nat, i_eq, i_div, i_nle, i_nlt, i_len, i_ltn, i_neq, i_eqn, i_and1, i_and63, i_and255, b8_sx, ob_some, if_true, if_false, and_self, true_and, if_pos, if_neg, hf, hn]
theorem y_frameAtOut (d : sl_M) {e n : Nat} (a : Int32) (he : e < 2) (hn : d.1 63 0 e = sl_i n) (hn4 : n ≤ 40) (h : ∀ k, k < n → a ≠ sl_i k) :
    f_X11_frameAt (sl_i e) a d = some ((-(sl_i 1), 0, 0), d) := by
  rw [e_X11_frameAt]
  simp only [i_litN]
  by_cases h0 : a < sl_i 0
  · rw [if_pos h0]
  · rw [if_neg h0]
    obtain ⟨k, hk, rfl⟩ := y_nn a h0
    simp (disch := omega) only [i_litN, i_ofNat, i_add, i_mul, i_sub, i_addn, i_subm, y_nsm, i_le, i_lt, i_nat, i_eq, i_div, i_nle, i_nlt, i_len, i_ltn, i_neq, i_eqn, i_and1, i_and63, i_and255, b8_sx, ob_some, if_true, if_false, and_self, true_and, if_pos, if_neg, hn]
    rw [if_neg (fun q => h k q rfl)]
theorem q_frame (K : Nat) (a k w : Int32) (c d : sl_M) (h : y_R K c d) : y_Q K c d (f_X10_frame a k w c) (f_X11_frame a k w d) := by
  by_cases ha : a = sl_i 0 ∨ a = sl_i 1
  · obtain ⟨e, he, rfl⟩ : ∃ e, e < 2 ∧ a = sl_i e := by rcases ha with h | h; exact ⟨0, by omega, h⟩; exact ⟨1, by omega, h⟩
    have hR := h
    obtain ⟨mo, sp, wi, si, ti, hC, hT, hE⟩ := h
    obtain ⟨⟨fi, n, hE1⟩, hH⟩ := hE e he
    obtain ⟨l1, l2, l3, l4⟩ := hE1.2.1
    rw [e_X10_frame, y_laneAt c he, ob_some, e_X11_frame, y_isOutNo d he, ob_some]
    simp (disch := omega) only [i_litN, i_ofNat, i_add, i_mul, i_sub, i_addn, i_subm, y_nsm, i_le, i_lt, i_nat, i_eq, i_div, i_nle, i_nlt, i_len, i_ltn, i_neq, i_eqn, i_and1, i_and63, i_and255, b8_sx, ob_some, if_true, if_false, and_self, true_and, if_pos, if_neg]
    rcases y_nthAny c k l1.1 l2.1 l2.2.2 l1.2.2 with ⟨i, hi, rfl, hn⟩ | ⟨hno, hn⟩
    · rw [hn, ob_some, y_frameAtIn (sl_up d 11 0 0 (sl_i 0)) he (by rw [up_ne (by omega)]; exact l1.2.1) (by rw [up_ne (by omega)]; exact l2.2.1) l2.2.2 l1.2.2 hi, ob_some]
      have hfm := Nat.mod_lt (fi + i) (show 0 < 40 by decide)
      obtain ⟨len, so, nu, lo, ag, f1, f2, f3, f4, f5, _⟩ := l4 _ hfm
      simp (disch := omega) only [i_litN, i_ofNat, i_add, i_mul, i_sub, i_addn, i_subm, y_nsm, i_le, i_lt, i_nat, i_eq, i_div, i_nle, i_nlt, i_len, i_ltn, i_neq, i_eqn, i_and1, i_and63, i_and255, b8_sx, ob_some, if_true, if_false, and_self, true_and, if_pos, if_neg, up_eq, up_ne, f1.1, f1.2.1, f2.1, f2.2, f3.1, f3.2, f4.1, f4.2, f5.1, f5.2.1]
      by_cases w0 : w = sl_i 0
      · rw [if_pos w0, if_pos w0]; exact y_Qr hR rfl rfl
      · rw [if_neg w0, if_neg w0]
        by_cases w1 : w = sl_i 1
        · rw [if_pos w1, if_pos w1]; exact y_Qr hR rfl rfl
        · rw [if_neg w1, if_neg w1]
          by_cases w2 : w = sl_i 2
          · rw [if_pos w2, if_pos w2]; exact y_Qr hR rfl rfl
          · rw [if_neg w2, if_neg w2]
            by_cases w3 : w = sl_i 3
            · rw [if_pos w3, if_pos w3]; exact y_Qr hR rfl rfl
            · rw [if_neg w3, if_neg w3]
              by_cases w4 : w = sl_i 4
              · rw [if_pos w4, if_pos w4]
                by_cases hag : ag = 0
                · rw [if_pos hag, if_pos (by omega)]; exact y_Qr hR rfl rfl
                · rw [if_neg hag, if_neg (by omega)]; exact y_Qr hR rfl rfl
              · rw [if_neg w4, if_neg w4]; exact y_Qr hR rfl rfl
    · rw [hn, ob_some, y_frameAtOut (sl_up d 11 0 0 (sl_i 0)) k he (by rw [up_ne (by omega)]; exact l2.2.1) l2.2.2 hno, ob_some]
      simp (disch := omega) only [i_litN, i_ofNat, i_add, i_mul, i_sub, i_addn, i_subm, y_nsm, i_le, i_lt, i_nat, i_eq, i_div, i_nle, i_nlt, i_len, i_ltn, i_neq, i_eqn, i_and1, i_and63, i_and255, b8_sx, ob_some, if_true, if_false, and_self, true_and, if_pos, if_neg]
      exact y_Qr hR rfl rfl
  · have h0 : a ≠ sl_i 0 := fun q => ha (.inl q)
    have h1 : a ≠ sl_i 1 := fun q => ha (.inr q)
    refine y_QX (b := -(sl_i 1)) h ?_ ?_
    · rw [e_X10_frame, y_laneNo c a h0 h1, ob_some, if_pos rfl]; rfl
    · rw [e_X11_frame, y_isOutYes d a h0 h1, ob_some]
      simp (disch := omega) only [i_litN, i_ofNat, i_add, i_mul, i_sub, i_addn, i_subm, y_nsm, i_le, i_lt, i_nat, i_eq, i_div, i_nle, i_nlt, i_len, i_ltn, i_neq, i_eqn, i_and1, i_and63, i_and255, b8_sx, ob_some, if_true, if_false, and_self, true_and, if_pos, if_neg]
theorem q_octet (K : Nat) (a k w : Int32) (c d : sl_M) (h : y_R K c d) : y_Q K c d (f_X10_octet a k w c) (f_X11_octet a k w d) := by
  by_cases ha : a = sl_i 0 ∨ a = sl_i 1
  · obtain ⟨e, he, rfl⟩ : ∃ e, e < 2 ∧ a = sl_i e := by rcases ha with h | h; exact ⟨0, by omega, h⟩; exact ⟨1, by omega, h⟩
    have hR := h
    obtain ⟨mo, sp, wi, si, ti, hC, hT, hE⟩ := h
    obtain ⟨⟨fi, n, hE1⟩, hH⟩ := hE e he
    obtain ⟨l1, l2, l3, l4⟩ := hE1.2.1
    rw [e_X10_octet, y_laneAt c he, ob_some, e_X11_octet, y_isOutNo d he, ob_some]
    simp (disch := omega) only [i_litN, i_ofNat, i_add, i_mul, i_sub, i_addn, i_subm, y_nsm, i_le, i_lt, i_nat, i_eq, i_div, i_nle, i_nlt, i_len, i_ltn, i_neq, i_eqn, i_and1, i_and63, i_and255, b8_sx, ob_some, if_true, if_false, and_self, true_and, if_pos, if_neg]
    rcases y_nthAny c k l1.1 l2.1 l2.2.2 l1.2.2 with ⟨i, hi, rfl, hn⟩ | ⟨hno, hn⟩
    · rw [hn, ob_some, y_frameAtIn (sl_up d 11 0 0 (sl_i 0)) he (by rw [up_ne (by omega)]; exact l1.2.1) (by rw [up_ne (by omega)]; exact l2.2.1) l2.2.2 l1.2.2 hi, ob_some]
      have hfm := Nat.mod_lt (fi + i) (show 0 < 40 by decide)
      obtain ⟨len, so, nu, lo, ag, f1, f2, f3, f4, f5, f6, _⟩ := l4 _ hfm
      have hlr := y_lr14 (40 * e + (fi + i) % 40)
      simp (disch := omega) only [i_litN, i_ofNat, i_add, i_mul, i_sub, i_addn, i_subm, y_nsm, i_le, i_lt, i_nat, i_eq, i_div, i_nle, i_nlt, i_len, i_ltn, i_neq, i_eqn, i_and1, i_and63, i_and255, b8_sx, ob_some, if_true, if_false, and_self, true_and, if_pos, if_neg, up_eq, up_ne, f1.2.1]
      rw [y_atAny c w f1.1 (by omega), ob_some]
      by_cases h0 : w < sl_i 0
      · rw [if_pos h0, if_pos h0]; exact y_Qr hR rfl rfl
      · rw [if_neg h0, if_neg h0]
        obtain ⟨j, hj, rfl⟩ := y_nn w h0
        simp (disch := omega) only [i_litN, i_ofNat, i_add, i_mul, i_sub, i_addn, i_subm, y_nsm, i_le, i_lt, i_nat, i_eq, i_div, i_nle, i_nlt, i_len, i_ltn, i_neq, i_eqn, i_and1, i_and63, i_and255, b8_sx, ob_some, if_true, if_false, and_self, true_and, if_pos, if_neg]
        by_cases hjl : j < len
        · rw [if_pos hjl, if_pos hjl]
          refine y_Qr (a := sl_i (y_rb c (14 + (40 * e + (fi + i) % 40)) j)) hR rfl ?_
          rw [f6 j hjl]; rfl
        · rw [if_neg hjl, if_neg hjl]; exact y_Qr hR rfl rfl
    · rw [hn, ob_some, y_frameAtOut (sl_up d 11 0 0 (sl_i 0)) k he (by rw [up_ne (by omega)]; exact l2.2.1) l2.2.2 hno, ob_some]
      simp (disch := omega) only [i_litN, i_ofNat, i_add, i_mul, i_sub, i_addn, i_subm, y_nsm, i_le, i_lt, i_nat, i_eq, i_div, i_nle, i_nlt, i_len, i_ltn, i_neq, i_eqn, i_and1, i_and63, i_and255, b8_sx, ob_some, if_true, if_false, and_self, true_and, if_pos, if_neg]
      exact y_Qr hR rfl rfl
  · have h0 : a ≠ sl_i 0 := fun q => ha (.inl q)
    have h1 : a ≠ sl_i 1 := fun q => ha (.inr q)
    refine y_QX (b := -(sl_i 1)) h ?_ ?_
    · rw [e_X10_octet, y_laneNo c a h0 h1, ob_some, if_pos rfl]; rfl
    · rw [e_X11_octet, y_isOutYes d a h0 h1, ob_some]
      simp (disch := omega) only [i_litN, i_ofNat, i_add, i_mul, i_sub, i_addn, i_subm, y_nsm, i_le, i_lt, i_nat, i_eq, i_div, i_nle, i_nlt, i_len, i_ltn, i_neq, i_eqn, i_and1, i_and63, i_and255, b8_sx, ob_some, if_true, if_false, and_self, true_and, if_pos, if_neg]
/-! counting the held: both count the same window -/
def y_S (f : Nat → Nat) : Nat → Nat
  | 0 => 0
  | n + 1 => y_S f n + f n
theorem y_S_ext {f g : Nat → Nat} : ∀ n, (∀ i, i < n → f i = g i) → y_S f n = y_S g n
  | 0, _ => rfl
  | n + 1, h => by rw [y_S, y_S, y_S_ext n (fun i hi => h i (by omega)), h n (by omega)]
theorem y_S_shift (f : Nat → Nat) : ∀ n, y_S (fun i => f (i + 1)) n + f 0 = y_S f n + f n
  | 0 => rfl
  | n + 1 => by rw [y_S, y_S]; have := y_S_shift f n; omega
theorem y_S_zero {f : Nat → Nat} (m : Nat) : ∀ r, (∀ i, m ≤ i → i < m + r → f i = 0) → y_S f (m + r) = y_S f m
  | 0, _ => rfl
  | r + 1, h => by rw [show m + (r + 1) = m + r + 1 from rfl, y_S, y_S_zero m r (fun i h1 h2 => h i h1 (by omega)), h (m + r) (by omega) (by omega)]; rfl
theorem y_S_rot (F : Nat → Nat) (M : Nat) (hM : 0 < M) : ∀ W, y_S (fun i => F ((W + i) % M)) M = y_S F M
  | 0 => y_S_ext M (fun i hi => by show F ((0 + i) % M) = F i; rw [Nat.zero_add, Nat.mod_eq_of_lt hi])
  | W + 1 => by
    have h1 := y_S_shift (fun i => F ((W + i) % M)) M
    have h2 := y_S_rot F M hM W
    simp only [Nat.add_zero, Nat.add_mod_right] at h1
    have h3 : y_S (fun i => F ((W + 1 + i) % M)) M = y_S (fun i => F ((W + (i + 1)) % M)) M := y_S_ext M (fun i _ => by show F ((W + 1 + i) % M) = F ((W + (i + 1)) % M); rw [show W + 1 + i = W + (i + 1) by omega])
    rw [h3]; omega
theorem y_S_win (F : Nat → Nat) (M wi W : Nat) (hM : 0 < M) (hw : wi ≤ M) (hz : ∀ s, s < M → (∀ i, i < wi → s ≠ (W + i) % M) → F s = 0) : y_S F M = y_S (fun i => F ((W + i) % M)) wi := by
  have h1 := y_S_zero (f := fun i => F ((W + i) % M)) wi (M - wi) (fun i h1 h2 => hz _ (Nat.mod_lt _ hM) (fun j hj hc => by have := y_modinj W (show i < M by omega) (show j < M by omega) hc; omega))
  rw [show wi + (M - wi) = M by omega] at h1
  rw [← h1, y_S_rot F M hM W]
theorem y_heldC (e : Nat) (F : Nat → Nat) (he : e < 2) (c : sl_M) (hF : ∀ s, s < 64 → ∃ sz, c.1 27 e s = sl_i sz ∧ sz < 100 ∧ F s = (if sz = 0 then 0 else 1)) : ∀ r i fuel, i + r = 64 →
    b_X5_heldPieces_4 (fuel + r + 1) e (sl_i (y_S F i)) (sl_i i) c = some ((sl_i (y_S F 64), 0, 0), c) := by
  have hl7 : sl_l7 e = 64 := by unfold sl_l7; rw [show (e == 2) = false by simp; omega]; rfl
  intro r
  induction r with
  | zero =>
    intro i fuel hi
    have : i = 64 := by omega
    subst this
    rw [e_X5_heldPieces_4, hl7]
    simp (disch := omega) only [i_litN, i_ofNat, i_add, i_mul, i_sub, i_addn, i_subm, y_nsm, i_le, i_lt, i_nat, i_eq, i_div, i_nle, i_nlt, i_len, i_ltn, i_neq, i_eqn, i_and1, i_and63, i_and255, b8_sx, ob_some, if_true, if_false, and_self, true_and, if_pos, if_neg]
  | succ r ih =>
    intro i fuel hi
    obtain ⟨sz, h1, h2, h3⟩ := hF i (by omega)
    rw [show fuel + (r + 1) + 1 = fuel + r + 1 + 1 from rfl, e_X5_heldPieces_4, hl7]
    simp (disch := omega) only [i_litN, i_ofNat, i_add, i_mul, i_sub, i_addn, i_subm, y_nsm, i_le, i_lt, i_nat, i_eq, i_div, i_nle, i_nlt, i_len, i_ltn, i_neq, i_eqn, i_and1, i_and63, i_and255, b8_sx, ob_some, if_true, if_false, and_self, true_and, if_pos, if_neg, h1]
    have e1 := ih (i + 1) fuel (by omega)
    rw [y_S, h3] at e1
    by_cases hz : sz = 0
    · rw [if_pos (by omega)]; rw [if_pos hz] at e1; exact e1
    · rw [if_neg (by omega)]; rw [if_neg hz] at e1; exact e1
theorem y_heldM (e : Nat) (F : Nat → Nat) (he : e < 2) (d : sl_M) (hF : ∀ s, s < 64 → d.1 71 0 (64 * e + s) = sl_i (F s) ∧ F s ≤ 1) (hb : ∀ i, i ≤ 64 → y_S F i ≤ 64) : ∀ r i fuel, i + r = 64 →
    b_X11_state_124 (fuel + r + 1) (sl_i e) (sl_i (y_S F i)) (sl_i i) d = some ((sl_i (y_S F 64), 0, 0), d) := by
  intro r
  induction r with
  | zero =>
    intro i fuel hi
    have : i = 64 := by omega
    subst this
    rw [e_X11_state_124]
    simp (disch := omega) only [i_litN, i_ofNat, i_add, i_mul, i_sub, i_addn, i_subm, y_nsm, i_le, i_lt, i_nat, i_eq, i_div, i_nle, i_nlt, i_len, i_ltn, i_neq, i_eqn, i_and1, i_and63, i_and255, b8_sx, ob_some, if_true, if_false, and_self, true_and, if_pos, if_neg]
  | succ r ih =>
    intro i fuel hi
    obtain ⟨h1, h2⟩ := hF i (by omega)
    rw [show fuel + (r + 1) + 1 = fuel + r + 1 + 1 from rfl, e_X11_state_124]
    simp (disch := omega) only [i_litN, i_ofNat, i_add, i_mul, i_sub, i_addn, i_subm, y_nsm, i_le, i_lt, i_nat, i_eq, i_div, i_nle, i_nlt, i_len, i_ltn, i_neq, i_eqn, i_and1, i_and63, i_and255, b8_sx, ob_some, if_true, if_false, and_self, true_and, if_pos, if_neg, h1]
    have e1 := ih (i + 1) fuel (by omega)
    rw [y_S] at e1
    by_cases hz : F i = 0
    · rw [if_pos (by omega)]; rw [hz] at e1; exact e1
    · rw [if_neg (by omega)]; rw [show F i = 1 by omega] at e1; exact e1
theorem y_kept (e wi si G P ck tm ba ne : Nat) (he : e < 2) (c d : sl_M) (hP : y_gPx e wi si G P ck tm ba ne c d) (hw : wi ≤ 63) : ∀ r p v fuel fuel', p + r = ne → ba ≤ p → v ≤ 4000 → v + r ≤ 4000 →
    ∃ a, b_X7_keptPieces_7 (fuel + r + 1) e (sl_i v) (sl_i p) c = some ((sl_i a, 0, 0), c) ∧ b_X11_state_200 (fuel' + r + 1) (sl_i e) (sl_i v) (sl_i p) d = some ((sl_i a, 0, 0), d) := by
  obtain ⟨a1, a2, a3, a4, a5, a6, a7, a8⟩ := hP
  intro r
  induction r with
  | zero =>
    intro p v fuel fuel' hp hb hv hv2
    refine ⟨v, ?_, ?_⟩
    · rw [e_X7_keptPieces_7, a6.1]
      simp (disch := omega) only [i_litN, i_ofNat, i_add, i_mul, i_sub, i_addn, i_subm, y_nsm, i_le, i_lt, i_nat, i_eq, i_div, i_nle, i_nlt, i_len, i_ltn, i_neq, i_eqn, i_and1, i_and63, i_and255, b8_sx, ob_some, if_true, if_false, and_self, true_and, if_pos, if_neg]
    · rw [e_X11_state_200]
      simp (disch := omega) only [i_litN, i_ofNat, i_add, i_mul, i_sub, i_addn, i_subm, y_nsm, i_le, i_lt, i_nat, i_eq, i_div, i_nle, i_nlt, i_len, i_ltn, i_neq, i_eqn, i_and1, i_and63, i_and255, b8_sx, ob_some, if_true, if_false, and_self, true_and, if_pos, if_neg, a6.2]
  | succ r ih =>
    intro p v fuel fuel' hp hb hv hv2
    obtain ⟨st, sz, t, ke, b1, b2, b3, b4⟩ := a8 p hb (by omega)
    rw [show fuel + (r + 1) + 1 = fuel + r + 1 + 1 from rfl, show fuel' + (r + 1) + 1 = fuel' + r + 1 + 1 from rfl, e_X7_keptPieces_7, e_X11_state_200, a6.1]
    simp (disch := omega) only [i_litN, i_ofNat, i_add, i_mul, i_sub, i_addn, i_subm, y_nsm, i_le, i_lt, i_nat, i_eq, i_div, i_nle, i_nlt, i_len, i_ltn, i_neq, i_eqn, i_and1, i_and63, i_and255, b8_sx, ob_some, if_true, if_false, and_self, true_and, if_pos, if_neg, a6.2, b4.1, b4.2.1]
    by_cases hk : ke = 0
    · obtain ⟨a, s1, s2⟩ := ih (p + 1) v fuel fuel' (by omega) (by omega) hv (by omega)
      refine ⟨a, ?_, ?_⟩
      · rw [if_pos (by omega)]; exact s1
      · rw [if_pos (by omega)]; exact s2
    · obtain ⟨a, s1, s2⟩ := ih (p + 1) (v + 1) fuel fuel' (by omega) (by omega) (by omega) (by omega)
      refine ⟨a, ?_, ?_⟩
      · rw [if_neg (by omega)]; exact s1
      · rw [if_neg (by omega)]; exact s2
theorem y_S_le {F : Nat → Nat} (h : ∀ s, F s ≤ 1) : ∀ n, y_S F n ≤ n
  | 0 => Nat.le_refl _
  | n + 1 => by rw [y_S]; have := y_S_le h n; have := h n; omega
theorem q_state (K : Nat) (a w : Int32) (c d : sl_M) (hK : K < 20000) (h : y_R K c d) : y_Q K c d (f_X10_state a w c) (f_X11_state a w d) := by
  by_cases ha : a = sl_i 0 ∨ a = sl_i 1
  · obtain ⟨e, he, rfl⟩ : ∃ e, e < 2 ∧ a = sl_i e := by rcases ha with h | h; exact ⟨0, by omega, h⟩; exact ⟨1, by omega, h⟩
    have hR := h
    obtain ⟨mo, sp, wi, si, ti, hC, hT, hE⟩ := h
    obtain ⟨⟨fi, n, hE1⟩, nh, x, ⟨k1, k2, k3, k4⟩, k5, _⟩ := hE e he
    obtain ⟨hS, _, _, ⟨G, P, ck, tm, ba, ne, hP, hck⟩, W, T, hRx, _⟩ := hE1
    obtain ⟨_, _, hmo, hsp2, hsp64, hw1, hwA, hwB, hsi1, hsi60, hti1, hti50⟩ := hS
    have hP2 := hP
    obtain ⟨a1, a2, a3, a4, a5, a6, a7, a8⟩ := hP
    obtain ⟨r1, r2, r3, r4, r5, r6⟩ := hRx
    rw [e_X10_state, y_endAt c he, ob_some, e_X11_state, y_isOutNo d he, ob_some]
    dsimp only
    simp only [i_litN]
    rw [if_neg (show ¬ ((0 : Nat) = 2) by decide), if_pos trivial]
    by_cases w0 : w = sl_i 0
    · rw [if_pos w0, if_pos w0]
      simp (disch := omega) only [i_litN, i_ofNat, i_add, i_mul, i_sub, i_addn, i_subm, y_nsm, i_le, i_lt, i_nat, i_eq, i_div, i_nle, i_nlt, i_len, i_ltn, i_neq, i_eqn, i_and1, i_and63, i_and255, b8_sx, ob_some, if_true, if_false, and_self, true_and, if_pos, if_neg, up_eq, up_ne, a1.1, a1.2.1]
      exact y_Qr hR rfl rfl
    rw [if_neg w0, if_neg w0]
    by_cases w1 : w = sl_i 1
    · rw [if_pos w1, if_pos w1]
      simp (disch := omega) only [i_litN, i_ofNat, i_add, i_mul, i_sub, i_addn, i_subm, y_nsm, i_le, i_lt, i_nat, i_eq, i_div, i_nle, i_nlt, i_len, i_ltn, i_neq, i_eqn, i_and1, i_and63, i_and255, b8_sx, ob_some, if_true, if_false, and_self, true_and, if_pos, if_neg, up_eq, up_ne, a2.1, a2.2.1, a6.2]
      exact y_Qr hR rfl rfl
    rw [if_neg w1, if_neg w1]
    by_cases w2 : w = sl_i 2
    · rw [if_pos w2, if_pos w2]
      simp (disch := omega) only [i_litN, i_ofNat, i_add, i_mul, i_sub, i_addn, i_subm, y_nsm, i_le, i_lt, i_nat, i_eq, i_div, i_nle, i_nlt, i_len, i_ltn, i_neq, i_eqn, i_and1, i_and63, i_and255, b8_sx, ob_some, if_true, if_false, and_self, true_and, if_pos, if_neg, up_eq, up_ne, a5.1, a5.2]
      exact y_Qr hR rfl rfl
    rw [if_neg w2, if_neg w2]
    by_cases w3 : w = sl_i 3
    · rw [if_pos w3, if_pos w3]
      simp (disch := omega) only [i_litN, i_ofNat, i_add, i_mul, i_sub, i_addn, i_subm, y_nsm, i_le, i_lt, i_nat, i_eq, i_div, i_nle, i_nlt, i_len, i_ltn, i_neq, i_eqn, i_and1, i_and63, i_and255, b8_sx, ob_some, if_true, if_false, and_self, true_and, if_pos, if_neg, up_eq, up_ne, a6.1, a6.2]
      exact y_Qr hR rfl rfl
    rw [if_neg w3, if_neg w3]
    by_cases w4 : w = sl_i 4
    · rw [if_pos w4, if_pos w4]
      simp (disch := omega) only [i_litN, i_ofNat, i_add, i_mul, i_sub, i_addn, i_subm, y_nsm, i_le, i_lt, i_nat, i_eq, i_div, i_nle, i_nlt, i_len, i_ltn, i_neq, i_eqn, i_and1, i_and63, i_and255, b8_sx, ob_some, if_true, if_false, and_self, true_and, if_pos, if_neg, up_eq, up_ne, r1.1, r1.2.1]
      exact y_Qr hR rfl rfl
    rw [if_neg w4, if_neg w4]
    by_cases w5 : w = sl_i 5
    · rw [if_pos w5, if_pos w5]
      simp (disch := omega) only [i_litN, i_ofNat, i_add, i_mul, i_sub, i_addn, i_subm, y_nsm, i_le, i_lt, i_nat, i_eq, i_div, i_nle, i_nlt, i_len, i_ltn, i_neq, i_eqn, i_and1, i_and63, i_and255, b8_sx, ob_some, if_true, if_false, and_self, true_and, if_pos, if_neg, up_eq, up_ne, r2.1, r2.2.1]
      exact y_Qr hR rfl rfl
    rw [if_neg w5, if_neg w5]
    by_cases w6 : w = sl_i 6
    · rw [if_pos w6, if_pos w6]
      obtain ⟨F, hF⟩ : ∃ F : Nat → Nat, F = fun s => if (c.1 27 e s).toNatClampNeg = 0 then 0 else 1 := ⟨_, rfl⟩
      obtain ⟨F2, hF2⟩ : ∃ F2 : Nat → Nat, F2 = fun s => (d.1 71 0 (64 * e + s)).toNatClampNeg := ⟨_, rfl⟩
      have hin : ∀ i, i < wi → ∃ sz, c.1 27 e ((W + i) % 64) = sl_i sz ∧ sz ≤ 60 ∧ F ((W + i) % 64) = (if sz = 0 then 0 else 1) ∧ d.1 71 0 (64 * e + (W + i) % sp) = sl_i (F2 ((W + i) % sp)) ∧ F2 ((W + i) % sp) = (if sz = 0 then 0 else 1) := by
        intro i hi
        obtain ⟨sz, b1, b2, b3, b4⟩ := r4 i hi
        have e3 : (if sz = 0 then 0 else 1 : Nat) ≤ 1 := by split <;> omega
        refine ⟨sz, b1, by omega, ?_, ?_, ?_⟩
        · rw [hF]; show (if (c.1 27 e ((W + i) % 64)).toNatClampNeg = 0 then 0 else 1) = _; rw [b1, i_nat (by omega)]
        · rw [hF2]; show _ = sl_i ((d.1 71 0 (64 * e + (W + i) % sp)).toNatClampNeg); rw [b3, i_nat (by omega)]
        · rw [hF2]; show (d.1 71 0 (64 * e + (W + i) % sp)).toNatClampNeg = _; rw [b3, i_nat (by omega)]
      have hout : ∀ s, s < 64 → (∀ i, i < wi → s ≠ (W + i) % 64) → F s = 0 := by
        intro s hs hne
        rw [hF]; show (if (c.1 27 e s).toNatClampNeg = 0 then 0 else 1) = 0
        rw [r5 s hs hne, i_nat (by omega), if_pos rfl]
      have hout2 : ∀ s, s < 64 → (∀ i, i < wi → s ≠ (W + i) % sp) → F2 s = 0 := by
        intro s hs hne
        rw [hF2]; show (d.1 71 0 (64 * e + s)).toNatClampNeg = 0
        rw [r6 s hs hne, i_nat (by omega)]
      have hFa : ∀ s, s < 64 → ∃ sz, c.1 27 e s = sl_i sz ∧ sz < 100 ∧ F s = (if sz = 0 then 0 else 1) := by
        intro s hs
        by_cases hq : ∃ i, i < wi ∧ s = (W + i) % 64
        · obtain ⟨i, hi, rfl⟩ := hq
          obtain ⟨sz, b1, b2, b3, _⟩ := hin i hi
          exact ⟨sz, b1, by omega, b3⟩
        · have hne : ∀ i, i < wi → s ≠ (W + i) % 64 := fun i hi hc => hq ⟨i, hi, hc⟩
          exact ⟨0, r5 s hs hne, by omega, by rw [hout s hs hne, if_pos rfl]⟩
      have hF2a : ∀ s, s < 64 → d.1 71 0 (64 * e + s) = sl_i (F2 s) ∧ F2 s ≤ 1 := by
        intro s hs
        by_cases hq : ∃ i, i < wi ∧ s = (W + i) % sp
        · obtain ⟨i, hi, rfl⟩ := hq
          obtain ⟨sz, b1, b2, b3, b4, b5⟩ := hin i hi
          exact ⟨b4, by rw [b5]; split <;> omega⟩
        · have hne : ∀ i, i < wi → s ≠ (W + i) % sp := fun i hi hc => hq ⟨i, hi, hc⟩
          rw [hout2 s hs hne]
          exact ⟨r6 s hs hne, by omega⟩
      have hb2 : ∀ i, i ≤ 64 → y_S F2 i ≤ 64 := by
        intro i hi
        have : ∀ j, j ≤ i → y_S F2 j ≤ j := by
          intro j
          induction j with
          | zero => intro _; exact Nat.le_refl _
          | succ j ih => intro hj; rw [y_S]; have := ih (by omega); have := (hF2a j (by omega)).2; omega
        have := this i (Nat.le_refl _); omega
      have s1 := y_heldC e F he c hFa 64 0 99934 (by omega)
      have s2 := y_heldM e F2 he (sl_up d 11 0 0 (sl_i 0)) (fun s hs => by rw [up_ne (by omega)]; exact hF2a s hs) hb2 64 0 99934 (by omega)
      have e1 := y_S_win F 64 wi W (by omega) (by omega) hout
      have e2 := y_S_win F2 sp wi W (by omega) (by omega) (fun s hs hne => hout2 s (by omega) hne)
      have e3 := y_S_zero (f := F2) sp (64 - sp) (fun i h1 h2 => hout2 i (by omega) (fun j hj hc => by have := Nat.mod_lt (W + j) (show 0 < sp by omega); omega))
      rw [show sp + (64 - sp) = 64 by omega] at e3
      have e4 : y_S (fun i => F ((W + i) % 64)) wi = y_S (fun i => F2 ((W + i) % sp)) wi := y_S_ext wi (fun i hi => by
        obtain ⟨sz, b1, b2, b3, b4, b5⟩ := hin i hi
        show F ((W + i) % 64) = F2 ((W + i) % sp)
        rw [b3, b5])
      have e5 : y_S F 64 = y_S F2 64 := by rw [e1, e3, e2, e4]
      rw [e_X5_heldPieces]
      simp only [i_litN]
      rw [show sl_i (y_S F 0) = sl_i 0 from rfl] at s1
      rw [show sl_i (y_S F2 0) = sl_i 0 from rfl] at s2
      rw [s1, ob_some, s2, e5]
      exact y_Qr hR rfl rfl
    rw [if_neg w6, if_neg w6]
    by_cases w7 : w = sl_i 7
    · rw [if_pos w7, if_pos w7]
      simp (disch := omega) only [i_litN, i_ofNat, i_add, i_mul, i_sub, i_addn, i_subm, y_nsm, i_le, i_lt, i_nat, i_eq, i_div, i_nle, i_nlt, i_len, i_ltn, i_neq, i_eqn, i_and1, i_and63, i_and255, b8_sx, ob_some, if_true, if_false, and_self, true_and, if_pos, if_neg, up_eq, up_ne, a3.1, a3.2]
      exact y_Qr hR rfl rfl
    rw [if_neg w7, if_neg w7]
    by_cases w8 : w = sl_i 8
    · rw [if_pos w8, if_pos w8]
      simp (disch := omega) only [i_litN, i_ofNat, i_add, i_mul, i_sub, i_addn, i_subm, y_nsm, i_le, i_lt, i_nat, i_eq, i_div, i_nle, i_nlt, i_len, i_ltn, i_neq, i_eqn, i_and1, i_and63, i_and255, b8_sx, ob_some, if_true, if_false, and_self, true_and, if_pos, if_neg, up_eq, up_ne, k1, k2]
      by_cases hn : 120 ≤ nh
      · rw [if_pos hn, show min nh 120 = 120 by omega]; exact y_Qr hR rfl rfl
      · rw [if_neg hn, show min nh 120 = nh by omega]; exact y_Qr hR rfl rfl
    rw [if_neg w8, if_neg w8]
    by_cases w9 : w = sl_i 9
    · rw [if_pos w9, if_pos w9]
      obtain ⟨a, s1, s2⟩ := y_kept e wi si G P ck tm ba ne he c (sl_up d 11 0 0 (sl_i 0)) (y_gPx_cong (S := fun _ _ _ => False) (T := fun k w p => k = 11) hP2 he (y_sm_refl _ _) (y_sm_up (y_sm_refl _ _) (fun _ _ _ h => h) (by omega)) (fun _ _ _ _ q => q) (fun k w p q r => by unfold y_zPd at q; omega)) (by omega) (ne - ba) ba 0 (99998 - (ne - ba)) (99998 - (ne - ba)) (by omega) (by omega) (by omega) (by omega)
      rw [show 99998 - (ne - ba) + (ne - ba) + 1 = 99999 by omega] at s1 s2
      rw [e_X7_keptPieces, a5.1]
      simp (disch := omega) only [i_litN, i_ofNat, i_add, i_mul, i_sub, i_addn, i_subm, y_nsm, i_le, i_lt, i_nat, i_eq, i_div, i_nle, i_nlt, i_len, i_ltn, i_neq, i_eqn, i_and1, i_and63, i_and255, b8_sx, ob_some, if_true, if_false, and_self, true_and, if_pos, if_neg, up_eq, up_ne, a5.2]
      rw [s1, ob_some, s2]
      exact y_Qr hR rfl rfl
    rw [if_neg w9, if_neg w9]
    exact y_Qr hR rfl rfl
  · have h0 : a ≠ sl_i 0 := fun q => ha (.inl q)
    have h1 : a ≠ sl_i 1 := fun q => ha (.inr q)
    refine y_QX (b := -(sl_i 1)) h ?_ ?_
    · rw [e_X10_state, y_endNo c a h0 h1, ob_some, if_pos rfl]; rfl
    · rw [e_X11_state, y_isOutYes d a h0 h1, ob_some]
      simp (disch := omega) only [i_litN, i_ofNat, i_add, i_mul, i_sub, i_addn, i_subm, y_nsm, i_le, i_lt, i_nat, i_eq, i_div, i_nle, i_nlt, i_len, i_ltn, i_neq, i_eqn, i_and1, i_and63, i_and255, b8_sx, ob_some, if_true, if_false, and_self, true_and, if_pos, if_neg]
