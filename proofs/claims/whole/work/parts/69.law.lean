/-! ===== the other seven ===== -/
theorem lz_carry {K L n : Nat} {xs : Nat → Int32} {X : sl_S → sl_L → Option (sl_PL × sl_L)} {u w : Option sl_V} {m : sl_L} (hL : L ≤ 3072) (hn : n + 6 ≤ L) (hq : ∀ c d, y_R K c d → y_Q K c d (f_X10_carry (xs (n + 1)) (xs (n + 2)) (xs (n + 3)) c) (f_X11_carry (xs (n + 1)) (xs (n + 2)) (xs (n + 3)) d)) (h : y_R K m.1 m.1) :
    ∃ (m2 : sl_L) (u' w' : Option sl_V), y_R (K + 1) m2.1 m2.1 ∧ m2.2.1 ≤ m.2.1 + 1 ∧ m2.2.2 ≤ m.2.2 + 6 ∧ sl_Lg L xs fa_L sl_stp (sl_LC L xs X) 388 (389, sl_lo7 (sl_i n) u w, []) m = X (23, sl_lo7 (sl_i n + 6) u' w', []) m2 := by
  obtain ⟨r, a, m1, m2, e1, e2, e3, e4, e5, b1, b2⟩ := sl_alike2 (FA := F_X10_carry) (FB := F_X11_carry) (as1 := [.inr (.inl (some (10, 0))), .inl (xs (n + 1)), .inl (xs (n + 2)), .inl (xs (n + 3))]) (as2 := [.inr (.inl (some (11, 0))), .inl (xs (n + 1)), .inl (xs (n + 2)), .inl (xs (n + 3))]) h hq
  refine ⟨(m2, m1.2), some (.inl r), some (.inl a), e3, b1, b2, ?_⟩
  rw [lp_carry]
  simp only [sl_rdx_at (v := 1) (k := 1) rfl hL (show n + 1 < L by omega), sl_rdx_at (v := 2) (k := 2) rfl hL (show n + 2 < L by omega), sl_rdx_at (v := 3) (k := 3) rfl hL (show n + 3 < L by omega)]
  show (sl_wA F_X10_carry [.inr (.inl (some (10, 0))), .inl (xs (n + 1)), .inl (xs (n + 2)), .inl (xs (n + 3))] m).bind (fun x1 => sl_LK L xs X (412, sl_lo7 (sl_i n) u w, [.inl x1.1.1]) x1.2) = _
  rw [e1, Option.bind_some]
  show sl_Lr L xs sl_stp (sl_LX X) 400 (412, sl_lo7 (sl_i n) u w, [.inl r]) m1 = _
  rw [sl_Lg_eq, lq_carry, cf_L_X11_carry, cf_L_X11_thrown]
  simp only [sl_rdx_at (v := 1) (k := 1) rfl hL (show n + 1 < L by omega), sl_rdx_at (v := 2) (k := 2) rfl hL (show n + 2 < L by omega), sl_rdx_at (v := 3) (k := 3) rfl hL (show n + 3 < L by omega)]
  have l1 : sl_lf F_X11_carry [.inr (.inl (some (11, 0))), .inl (xs (n + 1)), .inl (xs (n + 2)), .inl (xs (n + 3))] m1 = some ((a, 0, 0), (m2, m1.2)) := by unfold sl_lf; rw [e2, Option.bind_some]
  have l2 : sl_lf F_X11_thrown [.inr (.inl (some (11, 0)))] (m2, m1.2) = some ((m2.1 11 0 0, 0, 0), (m2, m1.2)) := by
    unfold sl_lf
    rw [show F_X11_thrown [.inr (.inl (some (11, 0)))] (m2, m1.2).1 = some ((m2.1 11 0 0, 0, 0), m2) from rfl, Option.bind_some]
  rw [l1, Option.bind_some]
  show (sl_lf F_X11_thrown [.inr (.inl (some (11, 0)))] (m2, m1.2)).bind _ = _
  rw [l2, Option.bind_some]
  show sl_cm2 X (sl_i n) r a (m2.1 11 0 0) (m2, m1.2) = _
  unfold sl_cm2
  rw [if_pos e4]
  by_cases hr : r = 0
  · rw [if_pos hr, if_pos]
    show lg_cmp m2.2 a.toInt64 = 0
    rw [e5 hr]
    unfold lg_cmp
    simp
  · rw [if_neg hr]
theorem lz_noise {K L n : Nat} {xs : Nat → Int32} {X : sl_S → sl_L → Option (sl_PL × sl_L)} {u w : Option sl_V} {m : sl_L} (hL : L ≤ 3072) (hn : n + 6 ≤ L) (hq : ∀ c d, y_R K c d → y_Q K c d (f_X10_noise (xs (n + 1)) (xs (n + 2)) (xs (n + 3)) c) (f_X11_noise (xs (n + 1)) (xs (n + 2)) (xs (n + 3)) d)) (h : y_R K m.1 m.1) :
    ∃ (m2 : sl_L) (u' w' : Option sl_V), y_R (K + 1) m2.1 m2.1 ∧ m2.2.1 ≤ m.2.1 + 1 ∧ m2.2.2 ≤ m.2.2 + 6 ∧ sl_Lg L xs fa_L sl_stp (sl_LC L xs X) 388 (482, sl_lo7 (sl_i n) u w, []) m = X (23, sl_lo7 (sl_i n + 6) u' w', []) m2 := by
  obtain ⟨r, a, m1, m2, e1, e2, e3, e4, e5, b1, b2⟩ := sl_alike2 (FA := F_X10_noise) (FB := F_X11_noise) (as1 := [.inr (.inl (some (10, 0))), .inl (xs (n + 1)), .inl (xs (n + 2)), .inl (xs (n + 3))]) (as2 := [.inr (.inl (some (11, 0))), .inl (xs (n + 1)), .inl (xs (n + 2)), .inl (xs (n + 3))]) h hq
  refine ⟨(m2, m1.2), some (.inl r), some (.inl a), e3, b1, b2, ?_⟩
  rw [lp_noise]
  simp only [sl_rdx_at (v := 1) (k := 1) rfl hL (show n + 1 < L by omega), sl_rdx_at (v := 2) (k := 2) rfl hL (show n + 2 < L by omega), sl_rdx_at (v := 3) (k := 3) rfl hL (show n + 3 < L by omega)]
  show (sl_wA F_X10_noise [.inr (.inl (some (10, 0))), .inl (xs (n + 1)), .inl (xs (n + 2)), .inl (xs (n + 3))] m).bind (fun x1 => sl_LK L xs X (505, sl_lo7 (sl_i n) u w, [.inl x1.1.1]) x1.2) = _
  rw [e1, Option.bind_some]
  show sl_Lr L xs sl_stp (sl_LX X) 400 (505, sl_lo7 (sl_i n) u w, [.inl r]) m1 = _
  rw [sl_Lg_eq, lq_noise, cf_L_X11_noise, cf_L_X11_thrown]
  simp only [sl_rdx_at (v := 1) (k := 1) rfl hL (show n + 1 < L by omega), sl_rdx_at (v := 2) (k := 2) rfl hL (show n + 2 < L by omega), sl_rdx_at (v := 3) (k := 3) rfl hL (show n + 3 < L by omega)]
  have l1 : sl_lf F_X11_noise [.inr (.inl (some (11, 0))), .inl (xs (n + 1)), .inl (xs (n + 2)), .inl (xs (n + 3))] m1 = some ((a, 0, 0), (m2, m1.2)) := by unfold sl_lf; rw [e2, Option.bind_some]
  have l2 : sl_lf F_X11_thrown [.inr (.inl (some (11, 0)))] (m2, m1.2) = some ((m2.1 11 0 0, 0, 0), (m2, m1.2)) := by
    unfold sl_lf
    rw [show F_X11_thrown [.inr (.inl (some (11, 0)))] (m2, m1.2).1 = some ((m2.1 11 0 0, 0, 0), m2) from rfl, Option.bind_some]
  rw [l1, Option.bind_some]
  show (sl_lf F_X11_thrown [.inr (.inl (some (11, 0)))] (m2, m1.2)).bind _ = _
  rw [l2, Option.bind_some]
  show sl_cm2 X (sl_i n) r a (m2.1 11 0 0) (m2, m1.2) = _
  unfold sl_cm2
  rw [if_pos e4]
  by_cases hr : r = 0
  · rw [if_pos hr, if_pos]
    show lg_cmp m2.2 a.toInt64 = 0
    rw [e5 hr]
    unfold lg_cmp
    simp
  · rw [if_neg hr]
theorem lz_frame {K L n : Nat} {xs : Nat → Int32} {X : sl_S → sl_L → Option (sl_PL × sl_L)} {u w : Option sl_V} {m : sl_L} (hL : L ≤ 3072) (hn : n + 6 ≤ L) (hq : ∀ c d, y_R K c d → y_Q K c d (f_X10_frame (xs (n + 1)) (xs (n + 2)) (xs (n + 3)) c) (f_X11_frame (xs (n + 1)) (xs (n + 2)) (xs (n + 3)) d)) (h : y_R K m.1 m.1) :
    ∃ (m2 : sl_L) (u' w' : Option sl_V), y_R (K + 1) m2.1 m2.1 ∧ m2.2.1 ≤ m.2.1 + 1 ∧ m2.2.2 ≤ m.2.2 + 6 ∧ sl_Lg L xs fa_L sl_stp (sl_LC L xs X) 388 (562, sl_lo7 (sl_i n) u w, []) m = X (23, sl_lo7 (sl_i n + 6) u' w', []) m2 := by
  obtain ⟨r, a, m1, m2, e1, e2, e3, e4, e5, b1, b2⟩ := sl_alike2 (FA := F_X10_frame) (FB := F_X11_frame) (as1 := [.inr (.inl (some (10, 0))), .inl (xs (n + 1)), .inl (xs (n + 2)), .inl (xs (n + 3))]) (as2 := [.inr (.inl (some (11, 0))), .inl (xs (n + 1)), .inl (xs (n + 2)), .inl (xs (n + 3))]) h hq
  refine ⟨(m2, m1.2), some (.inl r), some (.inl a), e3, b1, b2, ?_⟩
  rw [lp_frame]
  simp only [sl_rdx_at (v := 1) (k := 1) rfl hL (show n + 1 < L by omega), sl_rdx_at (v := 2) (k := 2) rfl hL (show n + 2 < L by omega), sl_rdx_at (v := 3) (k := 3) rfl hL (show n + 3 < L by omega)]
  show (sl_wA F_X10_frame [.inr (.inl (some (10, 0))), .inl (xs (n + 1)), .inl (xs (n + 2)), .inl (xs (n + 3))] m).bind (fun x1 => sl_LK L xs X (585, sl_lo7 (sl_i n) u w, [.inl x1.1.1]) x1.2) = _
  rw [e1, Option.bind_some]
  show sl_Lr L xs sl_stp (sl_LX X) 400 (585, sl_lo7 (sl_i n) u w, [.inl r]) m1 = _
  rw [sl_Lg_eq, lq_frame, cf_L_X11_frame, cf_L_X11_thrown]
  simp only [sl_rdx_at (v := 1) (k := 1) rfl hL (show n + 1 < L by omega), sl_rdx_at (v := 2) (k := 2) rfl hL (show n + 2 < L by omega), sl_rdx_at (v := 3) (k := 3) rfl hL (show n + 3 < L by omega)]
  have l1 : sl_lf F_X11_frame [.inr (.inl (some (11, 0))), .inl (xs (n + 1)), .inl (xs (n + 2)), .inl (xs (n + 3))] m1 = some ((a, 0, 0), (m2, m1.2)) := by unfold sl_lf; rw [e2, Option.bind_some]
  have l2 : sl_lf F_X11_thrown [.inr (.inl (some (11, 0)))] (m2, m1.2) = some ((m2.1 11 0 0, 0, 0), (m2, m1.2)) := by
    unfold sl_lf
    rw [show F_X11_thrown [.inr (.inl (some (11, 0)))] (m2, m1.2).1 = some ((m2.1 11 0 0, 0, 0), m2) from rfl, Option.bind_some]
  rw [l1, Option.bind_some]
  show (sl_lf F_X11_thrown [.inr (.inl (some (11, 0)))] (m2, m1.2)).bind _ = _
  rw [l2, Option.bind_some]
  show sl_cm2 X (sl_i n) r a (m2.1 11 0 0) (m2, m1.2) = _
  unfold sl_cm2
  rw [if_pos e4]
  by_cases hr : r = 0
  · rw [if_pos hr, if_pos]
    show lg_cmp m2.2 a.toInt64 = 0
    rw [e5 hr]
    unfold lg_cmp
    simp
  · rw [if_neg hr]
theorem lz_octet {K L n : Nat} {xs : Nat → Int32} {X : sl_S → sl_L → Option (sl_PL × sl_L)} {u w : Option sl_V} {m : sl_L} (hL : L ≤ 3072) (hn : n + 6 ≤ L) (hq : ∀ c d, y_R K c d → y_Q K c d (f_X10_octet (xs (n + 1)) (xs (n + 2)) (xs (n + 3)) c) (f_X11_octet (xs (n + 1)) (xs (n + 2)) (xs (n + 3)) d)) (h : y_R K m.1 m.1) :
    ∃ (m2 : sl_L) (u' w' : Option sl_V), y_R (K + 1) m2.1 m2.1 ∧ m2.2.1 ≤ m.2.1 + 1 ∧ m2.2.2 ≤ m.2.2 + 6 ∧ sl_Lg L xs fa_L sl_stp (sl_LC L xs X) 388 (642, sl_lo7 (sl_i n) u w, []) m = X (23, sl_lo7 (sl_i n + 6) u' w', []) m2 := by
  obtain ⟨r, a, m1, m2, e1, e2, e3, e4, e5, b1, b2⟩ := sl_alike2 (FA := F_X10_octet) (FB := F_X11_octet) (as1 := [.inr (.inl (some (10, 0))), .inl (xs (n + 1)), .inl (xs (n + 2)), .inl (xs (n + 3))]) (as2 := [.inr (.inl (some (11, 0))), .inl (xs (n + 1)), .inl (xs (n + 2)), .inl (xs (n + 3))]) h hq
  refine ⟨(m2, m1.2), some (.inl r), some (.inl a), e3, b1, b2, ?_⟩
  rw [lp_octet]
  simp only [sl_rdx_at (v := 1) (k := 1) rfl hL (show n + 1 < L by omega), sl_rdx_at (v := 2) (k := 2) rfl hL (show n + 2 < L by omega), sl_rdx_at (v := 3) (k := 3) rfl hL (show n + 3 < L by omega)]
  show (sl_wA F_X10_octet [.inr (.inl (some (10, 0))), .inl (xs (n + 1)), .inl (xs (n + 2)), .inl (xs (n + 3))] m).bind (fun x1 => sl_LK L xs X (665, sl_lo7 (sl_i n) u w, [.inl x1.1.1]) x1.2) = _
  rw [e1, Option.bind_some]
  show sl_Lr L xs sl_stp (sl_LX X) 400 (665, sl_lo7 (sl_i n) u w, [.inl r]) m1 = _
  rw [sl_Lg_eq, lq_octet, cf_L_X11_octet, cf_L_X11_thrown]
  simp only [sl_rdx_at (v := 1) (k := 1) rfl hL (show n + 1 < L by omega), sl_rdx_at (v := 2) (k := 2) rfl hL (show n + 2 < L by omega), sl_rdx_at (v := 3) (k := 3) rfl hL (show n + 3 < L by omega)]
  have l1 : sl_lf F_X11_octet [.inr (.inl (some (11, 0))), .inl (xs (n + 1)), .inl (xs (n + 2)), .inl (xs (n + 3))] m1 = some ((a, 0, 0), (m2, m1.2)) := by unfold sl_lf; rw [e2, Option.bind_some]
  have l2 : sl_lf F_X11_thrown [.inr (.inl (some (11, 0)))] (m2, m1.2) = some ((m2.1 11 0 0, 0, 0), (m2, m1.2)) := by
    unfold sl_lf
    rw [show F_X11_thrown [.inr (.inl (some (11, 0)))] (m2, m1.2).1 = some ((m2.1 11 0 0, 0, 0), m2) from rfl, Option.bind_some]
  rw [l1, Option.bind_some]
  show (sl_lf F_X11_thrown [.inr (.inl (some (11, 0)))] (m2, m1.2)).bind _ = _
  rw [l2, Option.bind_some]
  show sl_cm2 X (sl_i n) r a (m2.1 11 0 0) (m2, m1.2) = _
  unfold sl_cm2
  rw [if_pos e4]
  by_cases hr : r = 0
  · rw [if_pos hr, if_pos]
    show lg_cmp m2.2 a.toInt64 = 0
    rw [e5 hr]
    unfold lg_cmp
    simp
  · rw [if_neg hr]
theorem lz_line {K L n : Nat} {xs : Nat → Int32} {X : sl_S → sl_L → Option (sl_PL × sl_L)} {u w : Option sl_V} {m : sl_L} (hL : L ≤ 3072) (hn : n + 6 ≤ L) (hq : ∀ c d, y_R K c d → y_Q K c d (f_X10_line (xs (n + 1)) c) (f_X11_line (xs (n + 1)) d)) (h : y_R K m.1 m.1) :
    ∃ (m2 : sl_L) (u' w' : Option sl_V), y_R (K + 1) m2.1 m2.1 ∧ m2.2.1 ≤ m.2.1 + 1 ∧ m2.2.2 ≤ m.2.2 + 6 ∧ sl_Lg L xs fa_L sl_stp (sl_LC L xs X) 388 (722, sl_lo7 (sl_i n) u w, []) m = X (23, sl_lo7 (sl_i n + 6) u' w', []) m2 := by
  obtain ⟨r, a, m1, m2, e1, e2, e3, e4, e5, b1, b2⟩ := sl_alike2 (FA := F_X10_line) (FB := F_X11_line) (as1 := [.inr (.inl (some (10, 0))), .inl (xs (n + 1))]) (as2 := [.inr (.inl (some (11, 0))), .inl (xs (n + 1))]) h hq
  refine ⟨(m2, m1.2), some (.inl r), some (.inl a), e3, b1, b2, ?_⟩
  rw [lp_line]
  simp only [sl_rdx_at (v := 1) (k := 1) rfl hL (show n + 1 < L by omega)]
  show (sl_wA F_X10_line [.inr (.inl (some (10, 0))), .inl (xs (n + 1))] m).bind (fun x1 => sl_LK L xs X (733, sl_lo7 (sl_i n) u w, [.inl x1.1.1]) x1.2) = _
  rw [e1, Option.bind_some]
  show sl_Lr L xs sl_stp (sl_LX X) 400 (733, sl_lo7 (sl_i n) u w, [.inl r]) m1 = _
  rw [sl_Lg_eq, lq_line, cf_L_X11_line, cf_L_X11_thrown]
  simp only [sl_rdx_at (v := 1) (k := 1) rfl hL (show n + 1 < L by omega)]
  have l1 : sl_lf F_X11_line [.inr (.inl (some (11, 0))), .inl (xs (n + 1))] m1 = some ((a, 0, 0), (m2, m1.2)) := by unfold sl_lf; rw [e2, Option.bind_some]
  have l2 : sl_lf F_X11_thrown [.inr (.inl (some (11, 0)))] (m2, m1.2) = some ((m2.1 11 0 0, 0, 0), (m2, m1.2)) := by
    unfold sl_lf
    rw [show F_X11_thrown [.inr (.inl (some (11, 0)))] (m2, m1.2).1 = some ((m2.1 11 0 0, 0, 0), m2) from rfl, Option.bind_some]
  rw [l1, Option.bind_some]
  show (sl_lf F_X11_thrown [.inr (.inl (some (11, 0)))] (m2, m1.2)).bind _ = _
  rw [l2, Option.bind_some]
  show sl_cm2 X (sl_i n) r a (m2.1 11 0 0) (m2, m1.2) = _
  unfold sl_cm2
  rw [if_pos e4]
  by_cases hr : r = 0
  · rw [if_pos hr, if_pos]
    show lg_cmp m2.2 a.toInt64 = 0
    rw [e5 hr]
    unfold lg_cmp
    simp
  · rw [if_neg hr]
theorem lz_state {K L n : Nat} {xs : Nat → Int32} {X : sl_S → sl_L → Option (sl_PL × sl_L)} {u w : Option sl_V} {m : sl_L} (hL : L ≤ 3072) (hn : n + 6 ≤ L) (hq : ∀ c d, y_R K c d → y_Q K c d (f_X10_state (xs (n + 1)) (xs (n + 2)) c) (f_X11_state (xs (n + 1)) (xs (n + 2)) d)) (h : y_R K m.1 m.1) :
    ∃ (m2 : sl_L) (u' w' : Option sl_V), y_R (K + 1) m2.1 m2.1 ∧ m2.2.1 ≤ m.2.1 + 1 ∧ m2.2.2 ≤ m.2.2 + 6 ∧ sl_Lg L xs fa_L sl_stp (sl_LC L xs X) 388 (778, sl_lo7 (sl_i n) u w, []) m = X (23, sl_lo7 (sl_i n + 6) u' w', []) m2 := by
  obtain ⟨r, a, m1, m2, e1, e2, e3, e4, e5, b1, b2⟩ := sl_alike2 (FA := F_X10_state) (FB := F_X11_state) (as1 := [.inr (.inl (some (10, 0))), .inl (xs (n + 1)), .inl (xs (n + 2))]) (as2 := [.inr (.inl (some (11, 0))), .inl (xs (n + 1)), .inl (xs (n + 2))]) h hq
  refine ⟨(m2, m1.2), some (.inl r), some (.inl a), e3, b1, b2, ?_⟩
  rw [lp_state]
  simp only [sl_rdx_at (v := 1) (k := 1) rfl hL (show n + 1 < L by omega), sl_rdx_at (v := 2) (k := 2) rfl hL (show n + 2 < L by omega)]
  show (sl_wA F_X10_state [.inr (.inl (some (10, 0))), .inl (xs (n + 1)), .inl (xs (n + 2))] m).bind (fun x1 => sl_LK L xs X (795, sl_lo7 (sl_i n) u w, [.inl x1.1.1]) x1.2) = _
  rw [e1, Option.bind_some]
  show sl_Lr L xs sl_stp (sl_LX X) 400 (795, sl_lo7 (sl_i n) u w, [.inl r]) m1 = _
  rw [sl_Lg_eq, lq_state, cf_L_X11_state, cf_L_X11_thrown]
  simp only [sl_rdx_at (v := 1) (k := 1) rfl hL (show n + 1 < L by omega), sl_rdx_at (v := 2) (k := 2) rfl hL (show n + 2 < L by omega)]
  have l1 : sl_lf F_X11_state [.inr (.inl (some (11, 0))), .inl (xs (n + 1)), .inl (xs (n + 2))] m1 = some ((a, 0, 0), (m2, m1.2)) := by unfold sl_lf; rw [e2, Option.bind_some]
  have l2 : sl_lf F_X11_thrown [.inr (.inl (some (11, 0)))] (m2, m1.2) = some ((m2.1 11 0 0, 0, 0), (m2, m1.2)) := by
    unfold sl_lf
    rw [show F_X11_thrown [.inr (.inl (some (11, 0)))] (m2, m1.2).1 = some ((m2.1 11 0 0, 0, 0), m2) from rfl, Option.bind_some]
  rw [l1, Option.bind_some]
  show (sl_lf F_X11_thrown [.inr (.inl (some (11, 0)))] (m2, m1.2)).bind _ = _
  rw [l2, Option.bind_some]
  show sl_cm2 X (sl_i n) r a (m2.1 11 0 0) (m2, m1.2) = _
  unfold sl_cm2
  rw [if_pos e4]
  by_cases hr : r = 0
  · rw [if_pos hr, if_pos]
    show lg_cmp m2.2 a.toInt64 = 0
    rw [e5 hr]
    unfold lg_cmp
    simp
  · rw [if_neg hr]
theorem lz_taken {K L n : Nat} {xs : Nat → Int32} {X : sl_S → sl_L → Option (sl_PL × sl_L)} {u w : Option sl_V} {m : sl_L} (hL : L ≤ 3072) (hn : n + 6 ≤ L) (hq : ∀ c d, y_R K c d → y_Q K c d (f_X10_taken (xs (n + 1)) (xs (n + 2)) c) (f_X11_taken (xs (n + 1)) (xs (n + 2)) d)) (h : y_R K m.1 m.1) :
    ∃ (m2 : sl_L) (u' w' : Option sl_V), y_R (K + 1) m2.1 m2.1 ∧ m2.2.1 ≤ m.2.1 + 1 ∧ m2.2.2 ≤ m.2.2 + 6 ∧ sl_Lg L xs fa_L sl_stp (sl_LC L xs X) 388 (846, sl_lo7 (sl_i n) u w, []) m = X (23, sl_lo7 (sl_i n + 6) u' w', []) m2 := by
  obtain ⟨r, a, m1, m2, e1, e2, e3, e4, e5, b1, b2⟩ := sl_alike2 (FA := F_X10_taken) (FB := F_X11_taken) (as1 := [.inr (.inl (some (10, 0))), .inl (xs (n + 1)), .inl (xs (n + 2))]) (as2 := [.inr (.inl (some (11, 0))), .inl (xs (n + 1)), .inl (xs (n + 2))]) h hq
  refine ⟨(m2, m1.2), some (.inl r), some (.inl a), e3, b1, b2, ?_⟩
  rw [lp_taken]
  simp only [sl_rdx_at (v := 1) (k := 1) rfl hL (show n + 1 < L by omega), sl_rdx_at (v := 2) (k := 2) rfl hL (show n + 2 < L by omega)]
  show (sl_wA F_X10_taken [.inr (.inl (some (10, 0))), .inl (xs (n + 1)), .inl (xs (n + 2))] m).bind (fun x1 => sl_LK L xs X (863, sl_lo7 (sl_i n) u w, [.inl x1.1.1]) x1.2) = _
  rw [e1, Option.bind_some]
  show sl_Lr L xs sl_stp (sl_LX X) 400 (863, sl_lo7 (sl_i n) u w, [.inl r]) m1 = _
  rw [sl_Lg_eq, lq_taken, cf_L_X11_taken, cf_L_X11_thrown]
  simp only [sl_rdx_at (v := 1) (k := 1) rfl hL (show n + 1 < L by omega), sl_rdx_at (v := 2) (k := 2) rfl hL (show n + 2 < L by omega)]
  have l1 : sl_lf F_X11_taken [.inr (.inl (some (11, 0))), .inl (xs (n + 1)), .inl (xs (n + 2))] m1 = some ((a, 0, 0), (m2, m1.2)) := by unfold sl_lf; rw [e2, Option.bind_some]
  have l2 : sl_lf F_X11_thrown [.inr (.inl (some (11, 0)))] (m2, m1.2) = some ((m2.1 11 0 0, 0, 0), (m2, m1.2)) := by
    unfold sl_lf
    rw [show F_X11_thrown [.inr (.inl (some (11, 0)))] (m2, m1.2).1 = some ((m2.1 11 0 0, 0, 0), m2) from rfl, Option.bind_some]
  rw [l1, Option.bind_some]
  show (sl_lf F_X11_thrown [.inr (.inl (some (11, 0)))] (m2, m1.2)).bind _ = _
  rw [l2, Option.bind_some]
  show sl_cm2 X (sl_i n) r a (m2.1 11 0 0) (m2, m1.2) = _
  unfold sl_cm2
  rw [if_pos e4]
  by_cases hr : r = 0
  · rw [if_pos hr, if_pos]
    show lg_cmp m2.2 a.toInt64 = 0
    rw [e5 hr]
    unfold lg_cmp
    simp
  · rw [if_neg hr]
