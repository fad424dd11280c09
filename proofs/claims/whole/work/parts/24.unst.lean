/-! unstuffing: the class looks first (isSound) and unpacks then; the model does both at once -/
def y_unC (t a1 w2 n : Nat) (g : Nat → Nat) (c u d : sl_M) (R1 R2 R3 : Option (sl_PL × sl_M)) : Prop :=
  (∃ kind place d', R1 = some ((sl_i 0, 0, 0), sl_up (sl_up c 3 t 0 (sl_i kind)) 3 t 1 (sl_i place)) ∧
    R2 = some ((-(sl_i 1), 0, 0), sl_up (sl_up d' 11 0 6 (sl_i kind)) 11 0 7 (sl_i place)) ∧ kind ≤ 2 ∧ place ≤ n ∧
    y_sm (fun k w _ => k = 30 ∧ w = w2) d d') ∨
  (∃ M u' d', R1 = some ((sl_i 1, 0, 0), c) ∧ R2 = some ((sl_i M, 0, 0), d') ∧ R3 = some ((sl_i 0, 0, 0), u') ∧
    u'.1 6 a1 1 = sl_i M ∧ M + 1 ≤ n ∧ (∀ j, j < M → y_rb u' a1 j = y_mb d' w2 j) ∧ (2 ≤ g 0 → 1 ≤ M ∧ y_rb u' a1 0 = g 1) ∧
    y_sm (fun k w p => (k = 6 ∧ w = a1 ∧ p = 1) ∨ (k = 20 ∧ w = a1)) u u' ∧
    y_sm (fun k w _ => k = 30 ∧ w = w2) d d')
theorem y_unC_fr {t a1 w2 n : Nat} {g : Nat → Nat} {c u d u1 d1 : sl_M} {R1 R2 R3 : Option (sl_PL × sl_M)} (h : y_unC t a1 w2 n g c u1 d1 R1 R2 R3)
    (hu : y_sm (fun k w p => (k = 6 ∧ w = a1 ∧ p = 1) ∨ (k = 20 ∧ w = a1)) u u1) (hd : y_sm (fun k w _ => k = 30 ∧ w = w2) d d1) : y_unC t a1 w2 n g c u d R1 R2 R3 := by
  rcases h with ⟨kind, place, d', h1, h2, h3, h4, h5⟩ | ⟨M, u', d', h1, h2, h3, h4, h5, h6, h7, h8, h9⟩
  · exact .inl ⟨kind, place, d', h1, h2, h3, h4, y_sm_tr hd h5 (fun _ _ _ h => h) (fun _ _ _ h => h)⟩
  · exact .inr ⟨M, u', d', h1, h2, h3, h4, h5, h6, h7, y_sm_tr hu h8 (fun _ _ _ h => h) (fun _ _ _ h => h), y_sm_tr hd h9 (fun _ _ _ h => h) (fun _ _ _ h => h)⟩
/-- ahead of a code at i -/
def y_unA (t r a1 w w2 n : Nat) (g : Nat → Nat) (c : sl_M) (i : Nat) : Prop :=
  ∀ (ul z code f1 f2 f3 : Nat) (u d : sl_M), n - i < f1 → n - i < f2 → 2 * (n - i) + 1 < f3 → ul + z ≤ i → code ≤ 255 →
    (code ≠ 255 → i < n → z = 1) → ((code = 255 ∨ n ≤ i) → z = 0) → (code ≠ 255 → 1 ≤ i) → u.1 6 a1 1 = sl_i ul → u.1 6 r 1 = sl_i n →
    (∀ j, j < n → y_rb u r j = g j) → (∀ j, j < n → y_mb d w j = g j) → (∀ j, j < ul → y_rb u a1 j = y_mb d w2 j) →
    (z = 1 → y_mb d w2 ul = 0) → (code ≠ 255 → ul + z + (if i < n then 0 else 1) ≤ i) → (2 ≤ g 0 → (i = 0 ∧ ul = 0) ∨ (1 ≤ ul ∧ y_rb u a1 0 = g 1)) →
    y_unC t a1 w2 n g c u d (b_X3_isSound_13 f1 t r (sl_i code) (sl_i 0) (sl_i i) c)
      (b_X11_unstuffed_11 f3 w (sl_i n) w2 (sl_i i) (sl_i (ul + z)) (sl_i code) d)
      (b_X0_unpack_13 f2 r a1 (sl_i code) (sl_i 0) (sl_i i) u)
theorem y_found (m : sl_M) (t : Nat) (a b : Int32) : f_X3_found t a b m = some ((sl_i 0, 0, 0), sl_up (sl_up m 3 t 0 a) 3 t 1 b) := by
  rw [e_X3_found]; rfl
theorem y_faulty (m : sl_M) (a b : Int32) : f_X11_faulty a b m = some ((-(sl_i 1), 0, 0), sl_up (sl_up m 11 0 6 a) 11 0 7 b) := by
  rw [e_X11_faulty]; rfl
theorem y_unB (t r a1 w w2 n : Nat) (g : Nat → Nat) (c : sl_M) (hr : r ≠ a1) (hw : w ≠ w2) (hn : n ≤ 1200) (hn1 : n ≤ sl_lr r) (hn2 : n ≤ sl_lr a1) (hn3 : n ≤ sl_lb w) (hn4 : n ≤ sl_lb w2)
    (hc : c.1 6 r 1 = sl_i n) (hcg : ∀ j, j < n → y_rb c r j = g j) (hg : ∀ j, j < n → g j < 256)
    (k code : Nat) (hk : k + code ≤ n) (hcode : code ≤ 255) (HA : y_unA t r a1 w w2 n g c (k + code)) :
    ∀ L j m f1 f2 f3 (u d : sl_M), j + L = code → 1 ≤ j → n - (k + j) < f1 → n - (k + j) < f2 → 2 * (n - (k + j)) + 2 < f3 → m + 1 ≤ k + j →
    u.1 6 a1 1 = sl_i m → u.1 6 r 1 = sl_i n →
    (∀ j, j < n → y_rb u r j = g j) → (∀ j, j < n → y_mb d w j = g j) → (∀ j, j < m → y_rb u a1 j = y_mb d w2 j) →
    (2 ≤ g 0 → ((k = 0 ∧ code = g 0 ∧ m + 1 = j) ∨ 1 ≤ m) ∧ (1 ≤ m → y_rb u a1 0 = g 1)) →
    y_unC t a1 w2 n g c u d (b_X3_isSound_13 f1 t r (sl_i code) (sl_i L) (sl_i (k + j)) c)
      (b_X11_unstuffed_52 f3 w (sl_i n) w2 (sl_i k) (sl_i m) (sl_i code) (sl_i j) d)
      (b_X0_unpack_13 f2 r a1 (sl_i code) (sl_i L) (sl_i (k + j)) u) := by
  have hb1 := y_lr_lt a1
  have hb2 := y_lb_lt w
  have hb3 := y_lb_lt w2
  intro L
  induction L with
  | zero =>
    intro j m f1 f2 f3 u d hj h1j hf1 hf2 hf3 hm hu1 hu2 hug hdg hud hz
    have : j = code := by omega
    subst this
    obtain ⟨f4, rfl⟩ : ∃ f4, f3 = f4 + 1 := ⟨f3 - 1, by omega⟩
    rw [e_X11_unstuffed_52]
    simp (disch := omega) only [i_lit, i_ofNat, i_add, i_mul, i_sub, i_addn, i_subm, i_subm', i_le, i_lt, i_nat, i_eq, i_div, i_nle, i_nlt, i_len, i_ltn, i_neq, i_eqn, i_and1, i_and63, i_and255, b8_sx, ob_some, if_true, if_false, and_self, true_and, if_pos, if_neg]
    by_cases hF : j = 255
    · rw [if_pos (by omega)]
      exact HA m 0 j f1 f2 f4 u d hf1 hf2 (by omega) (by omega) hcode (fun h => absurd hF h) (fun _ => rfl) (fun h => absurd hF h) hu1 hu2 hug hdg hud (fun h => by omega) (fun h => absurd hF h)
        (fun h => .inr (by have h2 := hz h; have h3 : 1 ≤ m := by { rcases h2.1 with h4 | h4 <;> omega }; exact ⟨h3, h2.2 h3⟩))
    · by_cases hE : n ≤ k + j
      · rw [if_neg (by omega), if_pos hE]
        exact HA m 0 j f1 f2 f4 u d hf1 hf2 (by omega) (by omega) hcode (fun _ h => by omega) (fun _ => rfl) (fun _ => by omega) hu1 hu2 hug hdg hud (fun h => by omega) (fun _ => by rw [if_neg (by omega)]; omega)
          (fun h => .inr (by have h2 := hz h; have h3 : 1 ≤ m := by { rcases h2.1 with h4 | h4 <;> omega }; exact ⟨h3, h2.2 h3⟩))
      · rw [if_neg (by omega), if_neg hE]
        refine y_unC_fr (HA m 1 j f1 f2 f4 u (sl_up d 30 w2 m (sl_i 0)) hf1 hf2 (by omega) (by omega) hcode (fun _ _ => rfl) (fun h => by omega) (fun _ => by omega) hu1 hu2 hug
          (fun j hj => by rw [y_mb_ne (by omega)]; exact hdg j hj) (fun j hj => by rw [y_mb_ne (by omega)]; exact hud j hj)
          (fun _ => by rw [sx_i0, y_mb_up rfl rfl, b8_i]) (fun _ => by rw [if_pos (by omega)]; omega)
          (fun h => .inr (by have h2 := hz h; have h3 : 1 ≤ m := by { rcases h2.1 with h4 | h4 <;> omega }; exact ⟨h3, h2.2 h3⟩))) (y_sm_refl _ _)
          (y_sm_up (y_sm_refl _ _) (fun _ _ _ h => h) (by omega))
  | succ L ih =>
    intro j m f1 f2 f3 u d hj h1j hf1 hf2 hf3 hm hu1 hu2 hug hdg hud hz
    obtain ⟨f4, rfl⟩ : ∃ f4, f3 = f4 + 1 := ⟨f3 - 1, by omega⟩
    obtain ⟨f5, rfl⟩ : ∃ f5, f1 = f5 + 1 := ⟨f1 - 1, by omega⟩
    obtain ⟨f6, rfl⟩ : ∃ f6, f2 = f6 + 1 := ⟨f2 - 1, by omega⟩
    have hgb := hg (k + j) (by omega)
    have hd8 : sl_b8 (d.1 30 w (k + j)) = g (k + j) := hdg (k + j) (by omega)
    by_cases h0 : g (k + j) = 0
    · refine .inl ⟨1, k + j, d, ?_, ?_, by omega, by omega, y_sm_refl _ _⟩
      · rw [e_X3_isSound_13, hc]
        simp (disch := omega) only [i_lit, i_le, if_neg]
        rw [y_at c hc (by omega) hn1, hcg _ (by omega)]
        simp (disch := omega) only [i_lit, i_ofNat, i_add, i_mul, i_sub, i_addn, i_subm, i_subm', i_le, i_lt, i_nat, i_eq, i_div, i_nle, i_nlt, i_len, i_ltn, i_neq, i_eqn, i_and1, i_and63, i_and255, b8_sx, ob_some, if_true, if_false, and_self, true_and, if_pos, if_neg, y_found, true_or]
      · rw [e_X11_unstuffed_52]
        simp (disch := omega) only [i_lit, i_ofNat, i_add, i_mul, i_sub, i_addn, i_subm, i_subm', i_le, i_lt, i_nat, i_eq, i_div, i_nle, i_nlt, i_len, i_ltn, i_neq, i_eqn, i_and1, i_and63, i_and255, b8_sx, ob_some, if_true, if_false, and_self, true_and, if_pos, if_neg, sx_eq0, hd8, y_faulty]
    · rw [e_X3_isSound_13, hc, e_X11_unstuffed_52, e_X0_unpack_13, hu2]
      simp (disch := omega) only [i_lit, i_le, if_neg]
      rw [y_at c hc (by omega) hn1, hcg _ (by omega), y_at u hu2 (by omega) hn1, hug _ (by omega)]
      simp (disch := omega) only [i_lit, i_ofNat, i_add, i_mul, i_sub, i_addn, i_subm, i_subm', i_le, i_lt, i_nat, i_eq, i_div, i_nle, i_nlt, i_len, i_ltn, i_neq, i_eqn, i_and1, i_and63, i_and255, b8_sx, ob_some, if_true, if_false, and_self, true_and, if_pos, if_neg, sx_eq0, hd8]
      rw [y_add u _ hu1 (by omega)]
      simp (disch := omega) only [i_lit, i_ofNat, i_add, i_mul, i_sub, i_addn, i_subm, i_subm', i_le, i_lt, i_nat, i_eq, i_div, i_nle, i_nlt, i_len, i_ltn, i_neq, i_eqn, i_and1, i_and63, i_and255, b8_sx, ob_some, if_true, if_false, and_self, true_and, if_pos, if_neg]
      refine y_unC_fr (ih (j + 1) (m + 1) f5 f6 f4 (sl_up (sl_up u 20 a1 m (sl_sx (sl_i (g (k + j))))) 6 a1 1 (sl_i (m + 1))) (sl_up d 30 w2 m (sl_sx (d.1 30 w (k + j))))
        (by omega) (by omega) (by omega) (by omega) (by omega) (by omega) (by rw [up_eq rfl rfl rfl]) (by rw [up_ne (by omega), up_ne (by omega)]; exact hu2)
        (fun j hj => by rw [y_rb_ne (by omega), y_rb_ne (by omega)]; exact hug j hj)
        (fun j hj => by rw [y_mb_ne (by omega)]; exact hdg j hj)
        (fun j2 hj2 => by
          rw [y_rb_ne (by omega)]
          by_cases h : j2 = m
          · rw [y_rb_up rfl h, y_mb_up rfl h, b8_i, hd8]; omega
          · rw [y_rb_ne (by omega), y_mb_ne (by omega)]; exact hud j2 (by omega))
        (fun hg2 => by
          obtain ⟨h3, h4⟩ := hz hg2
          refine ⟨.inr (by omega), fun _ => ?_⟩
          rw [y_rb_ne (by omega)]
          by_cases h : m = 0
          · subst h
            rw [y_rb_up rfl rfl, b8_i]
            have : k = 0 := by omega
            subst this
            have : j = 1 := by omega
            subst this
            rw [show 0 + 1 = 1 from rfl] at hgb ⊢
            omega
          · rw [y_rb_ne (by omega)]; exact h4 (by omega)))
        ⟨rfl, fun k w p h => by rw [up_ne (by omega), up_ne (by omega)]⟩ (y_sm_up (y_sm_refl _ _) (fun _ _ _ h => h) (by omega))
theorem y_unAall (t r a1 w w2 n : Nat) (g : Nat → Nat) (c : sl_M) (hr : r ≠ a1) (hw : w ≠ w2) (hn : n ≤ 1200) (hn1 : n ≤ sl_lr r) (hn2 : n ≤ sl_lr a1) (hn3 : n ≤ sl_lb w) (hn4 : n ≤ sl_lb w2)
    (hc : c.1 6 r 1 = sl_i n) (hcg : ∀ j, j < n → y_rb c r j = g j) (hg : ∀ j, j < n → g j < 256) :
    ∀ R i, n - i ≤ R → i ≤ n → y_unA t r a1 w w2 n g c i := by
  have hb1 := y_lr_lt a1
  have hb2 := y_lb_lt w
  have hb3 := y_lb_lt w2
  intro R
  induction R with
  | zero =>
    intro i hi hin ul z code f1 f2 f3 u d hf1 hf2 hf3 hul hcode hz1 hz0 hci hu1 hu2 hug hdg hud hzz hM hG
    have : i = n := by omega
    subst this
    obtain ⟨f4, rfl⟩ : ∃ f4, f3 = f4 + 1 := ⟨f3 - 1, by omega⟩
    obtain ⟨f5, rfl⟩ : ∃ f5, f1 = f5 + 1 := ⟨f1 - 1, by omega⟩
    obtain ⟨f6, rfl⟩ : ∃ f6, f2 = f6 + 1 := ⟨f2 - 1, by omega⟩
    have hz := hz0 (.inr (by omega))
    subst hz
    rw [e_X3_isSound_13, hc, e_X11_unstuffed_11, e_X0_unpack_13, hu2]
    by_cases hF : code = 255
    · subst hF
      refine .inl ⟨2, i, d, ?_, ?_, by omega, by omega, y_sm_refl _ _⟩
      · simp (disch := omega) only [i_lit, i_ofNat, i_add, i_mul, i_sub, i_addn, i_subm, i_subm', i_le, i_lt, i_nat, i_eq, i_div, i_nle, i_nlt, i_len, i_ltn, i_neq, i_eqn, i_and1, i_and63, i_and255, b8_sx, ob_some, if_true, if_false, and_self, true_and, if_pos, if_neg, y_found]
      · simp (disch := omega) only [i_lit, i_ofNat, i_add, i_mul, i_sub, i_addn, i_subm, i_subm', i_le, i_lt, i_nat, i_eq, i_div, i_nle, i_nlt, i_len, i_ltn, i_neq, i_eqn, i_and1, i_and63, i_and255, b8_sx, ob_some, if_true, if_false, and_self, true_and, if_pos, if_neg, y_faulty]
    · refine .inr ⟨ul, u, d, ?_, ?_, ?_, hu1, ?_, hud, ?_, y_sm_refl _ _, y_sm_refl _ _⟩
      · simp (disch := omega) only [i_lit, i_ofNat, i_add, i_mul, i_sub, i_addn, i_subm, i_subm', i_le, i_lt, i_nat, i_eq, i_div, i_nle, i_nlt, i_len, i_ltn, i_neq, i_eqn, i_and1, i_and63, i_and255, b8_sx, ob_some, if_true, if_false, and_self, true_and, if_pos, if_neg]
      · simp (disch := omega) only [i_lit, i_ofNat, i_add, i_mul, i_sub, i_addn, i_subm, i_subm', i_le, i_lt, i_nat, i_eq, i_div, i_nle, i_nlt, i_len, i_ltn, i_neq, i_eqn, i_and1, i_and63, i_and255, b8_sx, ob_some, if_true, if_false, and_self, true_and, if_pos, if_neg, Nat.add_zero]
      · simp (disch := omega) only [i_lit, i_ofNat, i_add, i_mul, i_sub, i_addn, i_subm, i_subm', i_le, i_lt, i_nat, i_eq, i_div, i_nle, i_nlt, i_len, i_ltn, i_neq, i_eqn, i_and1, i_and63, i_and255, b8_sx, ob_some, if_true, if_false, and_self, true_and, if_pos, if_neg]
      · have := hM hF; rw [if_neg (by omega)] at this; omega
      · intro h
        rcases hG h with h2 | h2
        · have := hci hF; omega
        · exact h2
  | succ R ih =>
    intro i hi hin
    by_cases hii : n ≤ i
    · exact ih i (by omega) hin
    intro ul z code f1 f2 f3 u d hf1 hf2 hf3 hul hcode hz1 hz0 hci hu1 hu2 hug hdg hud hzz hM hG
    obtain ⟨f4, rfl⟩ : ∃ f4, f3 = f4 + 1 := ⟨f3 - 1, by omega⟩
    obtain ⟨f5, rfl⟩ : ∃ f5, f1 = f5 + 1 := ⟨f1 - 1, by omega⟩
    obtain ⟨f6, rfl⟩ : ∃ f6, f2 = f6 + 1 := ⟨f2 - 1, by omega⟩
    have hgb := hg i (by omega)
    have hd8 : sl_b8 (d.1 30 w i) = g i := hdg i (by omega)
    rw [e_X3_isSound_13, hc, e_X11_unstuffed_11, e_X0_unpack_13, hu2]
    simp (disch := omega) only [i_lit, i_le, if_neg]
    rw [y_at c hc (by omega) hn1, hcg _ (by omega), y_at u hu2 (by omega) hn1, hug _ (by omega)]
    by_cases h0 : g i = 0
    · refine .inl ⟨1, i, d, ?_, ?_, by omega, by omega, y_sm_refl _ _⟩
      · simp (disch := omega) only [i_lit, i_ofNat, i_add, i_mul, i_sub, i_addn, i_subm, i_subm', i_le, i_lt, i_nat, i_eq, i_div, i_nle, i_nlt, i_len, i_ltn, i_neq, i_eqn, i_and1, i_and63, i_and255, b8_sx, ob_some, if_true, if_false, and_self, true_and, if_pos, if_neg, y_found, true_or]
      · simp (disch := omega) only [i_lit, i_ofNat, i_add, i_mul, i_sub, i_addn, i_subm, i_subm', i_le, i_lt, i_nat, i_eq, i_div, i_nle, i_nlt, i_len, i_ltn, i_neq, i_eqn, i_and1, i_and63, i_and255, b8_sx, ob_some, if_true, if_false, and_self, true_and, if_pos, if_neg, hd8, y_faulty]
    by_cases h1 : g i ≤ n - i
    · simp (disch := omega) only [i_lit, i_ofNat, i_add, i_mul, i_sub, i_addn, i_subm, i_subm', i_le, i_lt, i_nat, i_eq, i_div, i_nle, i_nlt, i_len, i_ltn, i_neq, i_eqn, i_and1, i_and63, i_and255, b8_sx, ob_some, if_true, if_false, and_self, true_and, if_pos, if_neg, hd8, hc]
      by_cases hF : code = 255
      · have hz := hz0 (.inl hF)
        subst hz
        simp (disch := omega) only [i_lit, i_ofNat, i_add, i_mul, i_sub, i_addn, i_subm, i_subm', i_le, i_lt, i_nat, i_eq, i_div, i_nle, i_nlt, i_len, i_ltn, i_neq, i_eqn, i_and1, i_and63, i_and255, b8_sx, ob_some, if_true, if_false, and_self, true_and, if_pos, if_neg]
        exact y_unB t r a1 w w2 n g c hr hw hn hn1 hn2 hn3 hn4 hc hcg hg i (g i) (by omega) (by omega) (ih (i + g i) (by omega) (by omega))
          (g i - 1) 1 (ul + 0) f5 f6 f4 u d (by omega) (by omega) (by omega) (by omega) (by omega) (by omega) hu1 hu2 hug hdg hud
          (fun h => by rcases hG h with h2 | h2
                       · obtain ⟨h2, h3⟩ := h2
                         subst h2; subst h3
                         exact ⟨.inl ⟨rfl, rfl, rfl⟩, fun h => by omega⟩
                       · exact ⟨.inr h2.1, fun _ => h2.2⟩)
      · have hz := hz1 hF (by omega)
        subst hz
        simp (disch := omega) only [i_lit, i_ofNat, i_add, i_mul, i_sub, i_addn, i_subm, i_subm', i_le, i_lt, i_nat, i_eq, i_div, i_nle, i_nlt, i_len, i_ltn, i_neq, i_eqn, i_and1, i_and63, i_and255, b8_sx, ob_some, if_true, if_false, and_self, true_and, if_pos, if_neg]
        rw [y_add u _ hu1 (by have := hci hF; omega)]
        simp (disch := omega) only [i_lit, i_ofNat, i_add, i_mul, i_sub, i_addn, i_subm, i_subm', i_le, i_lt, i_nat, i_eq, i_div, i_nle, i_nlt, i_len, i_ltn, i_neq, i_eqn, i_and1, i_and63, i_and255, b8_sx, ob_some, if_true, if_false, and_self, true_and, if_pos, if_neg]
        refine y_unC_fr (y_unB t r a1 w w2 n g c hr hw hn hn1 hn2 hn3 hn4 hc hcg hg i (g i) (by omega) (by omega) (ih (i + g i) (by omega) (by omega))
          (g i - 1) 1 (ul + 1) f5 f6 f4 (sl_up (sl_up u 20 a1 ul (sl_sx (sl_i 0))) 6 a1 1 (sl_i (ul + 1))) d (by omega) (by omega) (by omega) (by omega) (by omega) (by omega)
          (by rw [up_eq rfl rfl rfl]) (by rw [up_ne (by omega), up_ne (by omega)]; exact hu2)
          (fun j hj => by rw [y_rb_ne (by omega), y_rb_ne (by omega)]; exact hug j hj) hdg
          (fun j hj => by
            rw [y_rb_ne (by omega)]
            by_cases h : j = ul
            · rw [y_rb_up rfl h, b8_i, h, hzz rfl]
            · rw [y_rb_ne (by omega)]; exact hud j (by omega))
          (fun h => by rcases hG h with h2 | h2
                       · have := hci hF; omega
                       · refine ⟨.inr (by omega), fun _ => ?_⟩
                         rw [y_rb_ne (by omega), y_rb_ne (by omega)]; exact h2.2))
          ⟨rfl, fun k w p h => by rw [up_ne (by omega), up_ne (by omega)]⟩ (y_sm_refl _ _)
    · refine .inl ⟨1, i, d, ?_, ?_, by omega, by omega, y_sm_refl _ _⟩
      · simp (disch := omega) only [i_lit, i_ofNat, i_add, i_mul, i_sub, i_addn, i_subm, i_subm', i_le, i_lt, i_nat, i_eq, i_div, i_nle, i_nlt, i_len, i_ltn, i_neq, i_eqn, i_and1, i_and63, i_and255, b8_sx, ob_some, if_true, if_false, and_self, true_and, if_pos, if_neg, hc, y_found, true_or]
      · simp (disch := omega) only [i_lit, i_ofNat, i_add, i_mul, i_sub, i_addn, i_subm, i_subm', i_le, i_lt, i_nat, i_eq, i_div, i_nle, i_nlt, i_len, i_ltn, i_neq, i_eqn, i_and1, i_and63, i_and255, b8_sx, ob_some, if_true, if_false, and_self, true_and, if_pos, if_neg, hd8, y_faulty]
/-- unstuffing as a whole: u is the class's memory behind isSound -/
theorem y_unst (t r a1 w w2 n : Nat) (c d : sl_M) (hr : r ≠ a1) (hw : w ≠ w2) (hn : n ≤ 1200) (hn1 : n ≤ sl_lr r) (hn2 : n ≤ sl_lr a1) (hn3 : n ≤ sl_lb w) (hn4 : n ≤ sl_lb w2)
    (hc : c.1 6 r 1 = sl_i n) (hcd : ∀ j, j < n → y_rb c r j = y_mb d w j) :
    (∃ kind place c' d', f_X3_isSound t r c = some ((sl_i 0, 0, 0), c') ∧ f_X11_unstuffed w (sl_i n) w2 d = some ((-(sl_i 1), 0, 0), sl_up (sl_up d' 11 0 6 (sl_i kind)) 11 0 7 (sl_i place)) ∧
      kind ≤ 2 ∧ place ≤ n ∧ c'.1 3 t 0 = sl_i kind ∧ c'.1 3 t 1 = sl_i place ∧ y_sm (fun k w p => k = 3 ∧ w = t ∧ p ≤ 1) c c' ∧ y_sm (fun k w _ => k = 30 ∧ w = w2) d d') ∨
    (∃ M c' u' d', f_X3_isSound t r c = some ((sl_i 1, 0, 0), c') ∧ f_X0_unpack r a1 c' = some ((sl_i 0, 0, 0), u') ∧ f_X11_unstuffed w (sl_i n) w2 d = some ((sl_i M, 0, 0), d') ∧
      u'.1 3 t 0 = sl_i 0 ∧ u'.1 3 t 1 = -(sl_i 1) ∧ u'.1 6 a1 1 = sl_i M ∧ M + 1 ≤ n ∧ (∀ j, j < M → y_rb u' a1 j = y_mb d' w2 j) ∧
      (2 ≤ y_rb c r 0 → 1 ≤ M ∧ y_rb u' a1 0 = y_rb c r 1) ∧
      y_sm (fun k w p => (k = 3 ∧ w = t ∧ p ≤ 1) ∨ (k = 6 ∧ w = a1 ∧ p = 1) ∨ (k = 20 ∧ w = a1)) c u' ∧ y_sm (fun k w _ => k = 30 ∧ w = w2) d d') := by
  have hcl : f_X3_clear t c = some ((sl_i 0, 0, 0), sl_up (sl_up c 3 t 0 (sl_i 0)) 3 t 1 (-(sl_i 1))) := by rw [e_X3_clear]; rfl
  have h := y_unAall t r a1 w w2 n (y_rb c r) (sl_up (sl_up c 3 t 0 (sl_i 0)) 3 t 1 (-(sl_i 1))) hr hw hn hn1 hn2 hn3 hn4
    (by rw [up_ne (by omega), up_ne (by omega)]; exact hc) (fun j _ => by rw [y_rb_ne (by omega), y_rb_ne (by omega)]) (fun j _ => y_rb_lt _ _ _) n 0 (by omega) (by omega)
    0 0 255 99999 99999 99999 (sl_up (sl_up (sl_up c 3 t 0 (sl_i 0)) 3 t 1 (-(sl_i 1))) 6 a1 1 (sl_i 0)) d (by omega) (by omega) (by omega) (by omega) (by omega)
    (fun h => absurd rfl h) (fun _ => rfl) (fun h => absurd rfl h) (by rw [up_eq rfl rfl rfl]) (by rw [up_ne (by omega), up_ne (by omega), up_ne (by omega)]; exact hc)
    (fun j _ => by rw [y_rb_ne (by omega), y_rb_ne (by omega), y_rb_ne (by omega)]) (fun j hj => (hcd j hj).symm) (fun j hj => by omega) (fun h => by omega) (fun h => absurd rfl h)
    (fun _ => .inl ⟨rfl, rfl⟩)
  rcases h with ⟨kind, place, d', h1, h2, h3, h4, h5⟩ | ⟨M, u', d', h1, h2, h3, h4, h5, h6, h7, h8, h9⟩
  · refine .inl ⟨kind, place, sl_up (sl_up (sl_up (sl_up c 3 t 0 (sl_i 0)) 3 t 1 (-sl_i 1)) 3 t 0 (sl_i kind)) 3 t 1 (sl_i place), d', ?_, ?_, h3, h4, ?_, ?_, ?_, h5⟩
    · rw [e_X3_isSound, hcl, ob_some, i_lit, i_lit]; exact h1
    · rw [e_X11_unstuffed, i_lit, i_lit]; exact h2
    · rw [up_ne (by omega), up_eq rfl rfl rfl]
    · rw [up_eq rfl rfl rfl]
    · exact ⟨rfl, fun k w p h => by rw [up_ne (by omega), up_ne (by omega), up_ne (by omega), up_ne (by omega)]⟩
  · refine .inr ⟨M, sl_up (sl_up c 3 t 0 (sl_i 0)) 3 t 1 (-sl_i 1), u', d', ?_, ?_, ?_, ?_, ?_, h4, h5, h6, ?_, ?_, h9⟩
    · rw [e_X3_isSound, hcl, ob_some, i_lit, i_lit]; exact h1
    · rw [e_X0_unpack, y_clear, ob_some, i_lit, i_lit]; exact h3
    · rw [e_X11_unstuffed, i_lit, i_lit]; exact h2
    · rw [h8.2 _ _ _ (by omega), up_ne (by omega), up_ne (by omega), up_eq rfl rfl rfl]
    · rw [h8.2 _ _ _ (by omega), up_ne (by omega), up_eq rfl rfl rfl]
    · exact h7
    · exact ⟨h8.1, fun k w p h => by rw [h8.2 k w p (by omega), up_ne (by omega), up_ne (by omega), up_ne (by omega)]⟩
