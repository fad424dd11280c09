/-! ===== the cases without handlers, whole ===== -/
theorem lz_open {K L n : Nat} {xs : Nat → Int32} {X : sl_S → sl_L → Option (sl_PL × sl_L)} {u w : Option sl_V} {m : sl_L} (hL : L ≤ 3072) (hn : n + 6 ≤ L) (hq : ∀ c d, y_R K c d → y_Q K c d (f_X10_open (xs (n + 1)) (xs (n + 2)) (xs (n + 3)) (xs (n + 4)) (xs (n + 5)) c) (f_X11_open (xs (n + 1)) (xs (n + 2)) (xs (n + 3)) (xs (n + 4)) (xs (n + 5)) d)) (hA : ∀ x, f_X10_open (xs (n + 1)) (xs (n + 2)) (xs (n + 3)) (xs (n + 4)) (xs (n + 5)) m.1 = some x → x.1.2.2 ≠ 2) (h : y_R K m.1 m.1) :
    ∃ m2, y_R (K + 1) m2 m2 ∧ sl_Lg L xs fa_L sl_stp (sl_LC L xs X) 388 (136, sl_lo7 (sl_i n) u w, []) m = X (23, sl_lo7 (sl_i n + 6) u w, []) (m2, m.2) := by
  obtain ⟨m2, h1, h2⟩ := sl_alike (FA := F_X10_open) (FB := F_X11_open) (as1 := [.inr (.inl (some (10, 0))), .inl (xs (n + 1)), .inl (xs (n + 2)), .inl (xs (n + 3)), .inl (xs (n + 4)), .inl (xs (n + 5))]) (as2 := [.inr (.inl (some (11, 0))), .inl (xs (n + 1)), .inl (xs (n + 2)), .inl (xs (n + 3)), .inl (xs (n + 4)), .inl (xs (n + 5))]) h hq hA X (sl_i n) u w
  refine ⟨m2, h1, ?_⟩
  rw [lc_open, cf_L_X10_open, cf_L_X11_open]
  simp only [sl_rdx_at (v := 1) (k := 1) rfl hL (show n + 1 < L by omega), sl_rdx_at (v := 2) (k := 2) rfl hL (show n + 2 < L by omega), sl_rdx_at (v := 3) (k := 3) rfl hL (show n + 3 < L by omega), sl_rdx_at (v := 4) (k := 4) rfl hL (show n + 4 < L by omega), sl_rdx_at (v := 5) (k := 5) rfl hL (show n + 5 < L by omega)]
  exact h2
theorem lz_feed {K L n : Nat} {xs : Nat → Int32} {X : sl_S → sl_L → Option (sl_PL × sl_L)} {u w : Option sl_V} {m : sl_L} (hL : L ≤ 3072) (hn : n + 6 ≤ L) (hq : ∀ c d, y_R K c d → y_Q K c d (f_X10_feed (xs (n + 1)) (xs (n + 2)) (xs (n + 3)) (xs (n + 4)) (xs (n + 5)) c) (f_X11_feed (xs (n + 1)) (xs (n + 2)) (xs (n + 3)) (xs (n + 4)) (xs (n + 5)) d)) (hA : ∀ x, f_X10_feed (xs (n + 1)) (xs (n + 2)) (xs (n + 3)) (xs (n + 4)) (xs (n + 5)) m.1 = some x → x.1.2.2 ≠ 2) (h : y_R K m.1 m.1) :
    ∃ m2, y_R (K + 1) m2 m2 ∧ sl_Lg L xs fa_L sl_stp (sl_LC L xs X) 388 (209, sl_lo7 (sl_i n) u w, []) m = X (23, sl_lo7 (sl_i n + 6) u w, []) (m2, m.2) := by
  obtain ⟨m2, h1, h2⟩ := sl_alike (FA := F_X10_feed) (FB := F_X11_feed) (as1 := [.inr (.inl (some (10, 0))), .inl (xs (n + 1)), .inl (xs (n + 2)), .inl (xs (n + 3)), .inl (xs (n + 4)), .inl (xs (n + 5))]) (as2 := [.inr (.inl (some (11, 0))), .inl (xs (n + 1)), .inl (xs (n + 2)), .inl (xs (n + 3)), .inl (xs (n + 4)), .inl (xs (n + 5))]) h hq hA X (sl_i n) u w
  refine ⟨m2, h1, ?_⟩
  rw [lc_feed, cf_L_X10_feed, cf_L_X11_feed]
  simp only [sl_rdx_at (v := 1) (k := 1) rfl hL (show n + 1 < L by omega), sl_rdx_at (v := 2) (k := 2) rfl hL (show n + 2 < L by omega), sl_rdx_at (v := 3) (k := 3) rfl hL (show n + 3 < L by omega), sl_rdx_at (v := 4) (k := 4) rfl hL (show n + 4 < L by omega), sl_rdx_at (v := 5) (k := 5) rfl hL (show n + 5 < L by omega)]
  exact h2
theorem lz_cut {K L n : Nat} {xs : Nat → Int32} {X : sl_S → sl_L → Option (sl_PL × sl_L)} {u w : Option sl_V} {m : sl_L} (hL : L ≤ 3072) (hn : n + 6 ≤ L) (hq : ∀ c d, y_R K c d → y_Q K c d (f_X10_cut (xs (n + 1)) c) (f_X11_cut (xs (n + 1)) d)) (hA : ∀ x, f_X10_cut (xs (n + 1)) m.1 = some x → x.1.2.2 ≠ 2) (h : y_R K m.1 m.1) :
    ∃ m2, y_R (K + 1) m2 m2 ∧ sl_Lg L xs fa_L sl_stp (sl_LC L xs X) 388 (282, sl_lo7 (sl_i n) u w, []) m = X (23, sl_lo7 (sl_i n + 6) u w, []) (m2, m.2) := by
  obtain ⟨m2, h1, h2⟩ := sl_alike (FA := F_X10_cut) (FB := F_X11_cut) (as1 := [.inr (.inl (some (10, 0))), .inl (xs (n + 1))]) (as2 := [.inr (.inl (some (11, 0))), .inl (xs (n + 1))]) h hq hA X (sl_i n) u w
  refine ⟨m2, h1, ?_⟩
  rw [lc_cut, cf_L_X10_cut, cf_L_X11_cut]
  simp only [sl_rdx_at (v := 1) (k := 1) rfl hL (show n + 1 < L by omega)]
  exact h2
theorem lz_take {K L n : Nat} {xs : Nat → Int32} {X : sl_S → sl_L → Option (sl_PL × sl_L)} {u w : Option sl_V} {m : sl_L} (hL : L ≤ 3072) (hn : n + 6 ≤ L) (hq : ∀ c d, y_R K c d → y_Q K c d (f_X10_take  c) (f_X11_take  d)) (hA : ∀ x, f_X10_take  m.1 = some x → x.1.2.2 ≠ 2) (h : y_R K m.1 m.1) :
    ∃ m2, y_R (K + 1) m2 m2 ∧ sl_Lg L xs fa_L sl_stp (sl_LC L xs X) 388 (307, sl_lo7 (sl_i n) u w, []) m = X (23, sl_lo7 (sl_i n + 6) u w, []) (m2, m.2) := by
  obtain ⟨m2, h1, h2⟩ := sl_alike (FA := F_X10_take) (FB := F_X11_take) (as1 := [.inr (.inl (some (10, 0)))]) (as2 := [.inr (.inl (some (11, 0)))]) h hq hA X (sl_i n) u w
  refine ⟨m2, h1, ?_⟩
  rw [lc_take, cf_L_X10_take, cf_L_X11_take]
  exact h2
theorem lz_tick {K L n : Nat} {xs : Nat → Int32} {X : sl_S → sl_L → Option (sl_PL × sl_L)} {u w : Option sl_V} {m : sl_L} (hL : L ≤ 3072) (hn : n + 6 ≤ L) (hq : ∀ c d, y_R K c d → y_Q K c d (f_X10_tick  c) (f_X11_tick  d)) (hA : ∀ x, f_X10_tick  m.1 = some x → x.1.2.2 ≠ 2) (h : y_R K m.1 m.1) :
    ∃ m2, y_R (K + 1) m2 m2 ∧ sl_Lg L xs fa_L sl_stp (sl_LC L xs X) 388 (376, sl_lo7 (sl_i n) u w, []) m = X (23, sl_lo7 (sl_i n + 6) u w, []) (m2, m.2) := by
  obtain ⟨m2, h1, h2⟩ := sl_alike (FA := F_X10_tick) (FB := F_X11_tick) (as1 := [.inr (.inl (some (10, 0)))]) (as2 := [.inr (.inl (some (11, 0)))]) h hq hA X (sl_i n) u w
  refine ⟨m2, h1, ?_⟩
  rw [lc_tick, cf_L_X10_tick, cf_L_X11_tick]
  exact h2
theorem lz_round {K L n : Nat} {xs : Nat → Int32} {X : sl_S → sl_L → Option (sl_PL × sl_L)} {u w : Option sl_V} {m : sl_L} (hL : L ≤ 3072) (hn : n + 6 ≤ L) (hq : ∀ c d, y_R K c d → y_Q K c d (f_X10_round  c) (f_X11_round  d)) (hA : ∀ x, f_X10_round  m.1 = some x → x.1.2.2 ≠ 2) (h : y_R K m.1 m.1) :
    ∃ m2, y_R (K + 1) m2 m2 ∧ sl_Lg L xs fa_L sl_stp (sl_LC L xs X) 388 (469, sl_lo7 (sl_i n) u w, []) m = X (23, sl_lo7 (sl_i n + 6) u w, []) (m2, m.2) := by
  obtain ⟨m2, h1, h2⟩ := sl_alike1 (FA := F_X10_round) (FB := F_X11_round) (as1 := [.inr (.inl (some (10, 0)))]) (as2 := [.inr (.inl (some (11, 0)))]) h hq hA X (sl_i n) u w
  refine ⟨m2, h1, ?_⟩
  rw [lc_round, cf_L_X10_round, cf_L_X11_round]
  exact h2
theorem lz_count {K L n : Nat} {xs : Nat → Int32} {X : sl_S → sl_L → Option (sl_PL × sl_L)} {u w : Option sl_V} {m : sl_L} (hL : L ≤ 3072) (hn : n + 6 ≤ L) (hq : ∀ c d, y_R K c d → y_Q K c d (f_X10_count (xs (n + 1)) c) (f_X11_count (xs (n + 1)) d)) (hA : ∀ x, f_X10_count (xs (n + 1)) m.1 = some x → x.1.2.2 ≠ 2) (h : y_R K m.1 m.1) :
    ∃ m2, y_R (K + 1) m2 m2 ∧ sl_Lg L xs fa_L sl_stp (sl_LC L xs X) 388 (914, sl_lo7 (sl_i n) u w, []) m = X (23, sl_lo7 (sl_i n + 6) u w, []) (m2, m.2) := by
  obtain ⟨m2, h1, h2⟩ := sl_alike (FA := F_X10_count) (FB := F_X11_count) (as1 := [.inr (.inl (some (10, 0))), .inl (xs (n + 1))]) (as2 := [.inr (.inl (some (11, 0))), .inl (xs (n + 1))]) h hq hA X (sl_i n) u w
  refine ⟨m2, h1, ?_⟩
  rw [lc_count, cf_L_X10_count, cf_L_X11_count]
  simp only [sl_rdx_at (v := 1) (k := 1) rfl hL (show n + 1 < L by omega)]
  exact h2
theorem lz_stuff {K L n : Nat} {xs : Nat → Int32} {X : sl_S → sl_L → Option (sl_PL × sl_L)} {u w : Option sl_V} {m : sl_L} (hL : L ≤ 3072) (hn : n + 6 ≤ L) (hq : ∀ c d, y_R K c d → y_Q K c d (f_X10_stuff  c) (f_X11_stuff  d)) (hA : ∀ x, f_X10_stuff  m.1 = some x → x.1.2.2 ≠ 2) (h : y_R K m.1 m.1) :
    ∃ m2, y_R (K + 1) m2 m2 ∧ sl_Lg L xs fa_L sl_stp (sl_LC L xs X) 388 (939, sl_lo7 (sl_i n) u w, []) m = X (23, sl_lo7 (sl_i n + 6) u w, []) (m2, m.2) := by
  obtain ⟨m2, h1, h2⟩ := sl_alike (FA := F_X10_stuff) (FB := F_X11_stuff) (as1 := [.inr (.inl (some (10, 0)))]) (as2 := [.inr (.inl (some (11, 0)))]) h hq hA X (sl_i n) u w
  refine ⟨m2, h1, ?_⟩
  rw [lc_stuff, cf_L_X10_stuff, cf_L_X11_stuff]
  exact h2
theorem lz_unstuff {K L n : Nat} {xs : Nat → Int32} {X : sl_S → sl_L → Option (sl_PL × sl_L)} {u w : Option sl_V} {m : sl_L} (hL : L ≤ 3072) (hn : n + 6 ≤ L) (hq : ∀ c d, y_R K c d → y_Q K c d (f_X10_unstuff  c) (f_X11_unstuff  d)) (hA : ∀ x, f_X10_unstuff  m.1 = some x → x.1.2.2 ≠ 2) (h : y_R K m.1 m.1) :
    ∃ m2, y_R (K + 1) m2 m2 ∧ sl_Lg L xs fa_L sl_stp (sl_LC L xs X) 388 (952, sl_lo7 (sl_i n) u w, []) m = X (23, sl_lo7 (sl_i n + 6) u w, []) (m2, m.2) := by
  obtain ⟨m2, h1, h2⟩ := sl_alike (FA := F_X10_unstuff) (FB := F_X11_unstuff) (as1 := [.inr (.inl (some (10, 0)))]) (as2 := [.inr (.inl (some (11, 0)))]) h hq hA X (sl_i n) u w
  refine ⟨m2, h1, ?_⟩
  rw [lc_unstuff, cf_L_X10_unstuff, cf_L_X11_unstuff]
  exact h2
theorem lz_fault {K L n : Nat} {xs : Nat → Int32} {X : sl_S → sl_L → Option (sl_PL × sl_L)} {u w : Option sl_V} {m : sl_L} (hL : L ≤ 3072) (hn : n + 6 ≤ L) (hq : ∀ c d, y_R K c d → y_Q K c d (f_X10_fault (xs (n + 1)) c) (f_X11_fault (xs (n + 1)) d)) (hA : ∀ x, f_X10_fault (xs (n + 1)) m.1 = some x → x.1.2.2 ≠ 2) (h : y_R K m.1 m.1) :
    ∃ m2, y_R (K + 1) m2 m2 ∧ sl_Lg L xs fa_L sl_stp (sl_LC L xs X) 388 (965, sl_lo7 (sl_i n) u w, []) m = X (23, sl_lo7 (sl_i n + 6) u w, []) (m2, m.2) := by
  obtain ⟨m2, h1, h2⟩ := sl_alike (FA := F_X10_fault) (FB := F_X11_fault) (as1 := [.inr (.inl (some (10, 0))), .inl (xs (n + 1))]) (as2 := [.inr (.inl (some (11, 0))), .inl (xs (n + 1))]) h hq hA X (sl_i n) u w
  refine ⟨m2, h1, ?_⟩
  rw [lc_fault, cf_L_X10_fault, cf_L_X11_fault]
  simp only [sl_rdx_at (v := 1) (k := 1) rfl hL (show n + 1 < L by omega)]
  exact h2
theorem lz_check {K L n : Nat} {xs : Nat → Int32} {X : sl_S → sl_L → Option (sl_PL × sl_L)} {u w : Option sl_V} {m : sl_L} (hL : L ≤ 3072) (hn : n + 6 ≤ L) (hq : ∀ c d, y_R K c d → y_Q K c d (f_X10_check  c) (f_X11_check  d)) (hA : ∀ x, f_X10_check  m.1 = some x → x.1.2.2 ≠ 2) (h : y_R K m.1 m.1) :
    ∃ m2, y_R (K + 1) m2 m2 ∧ sl_Lg L xs fa_L sl_stp (sl_LC L xs X) 388 (990, sl_lo7 (sl_i n) u w, []) m = X (23, sl_lo7 (sl_i n + 6) u w, []) (m2, m.2) := by
  obtain ⟨m2, h1, h2⟩ := sl_alike (FA := F_X10_check) (FB := F_X11_check) (as1 := [.inr (.inl (some (10, 0)))]) (as2 := [.inr (.inl (some (11, 0)))]) h hq hA X (sl_i n) u w
  refine ⟨m2, h1, ?_⟩
  rw [lc_check, cf_L_X10_check, cf_L_X11_check]
  exact h2
theorem lz_out {K L n : Nat} {xs : Nat → Int32} {X : sl_S → sl_L → Option (sl_PL × sl_L)} {u w : Option sl_V} {m : sl_L} (hL : L ≤ 3072) (hn : n + 6 ≤ L) (hq : ∀ c d, y_R K c d → y_Q K c d (f_X10_out (xs (n + 1)) c) (f_X11_out (xs (n + 1)) d)) (hA : ∀ x, f_X10_out (xs (n + 1)) m.1 = some x → x.1.2.2 ≠ 2) (h : y_R K m.1 m.1) :
    ∃ m2, y_R (K + 1) m2 m2 ∧ sl_Lg L xs fa_L sl_stp (sl_LC L xs X) 388 (1003, sl_lo7 (sl_i n) u w, []) m = X (23, sl_lo7 (sl_i n + 6) u w, []) (m2, m.2) := by
  obtain ⟨m2, h1, h2⟩ := sl_alike (FA := F_X10_out) (FB := F_X11_out) (as1 := [.inr (.inl (some (10, 0))), .inl (xs (n + 1))]) (as2 := [.inr (.inl (some (11, 0))), .inl (xs (n + 1))]) h hq hA X (sl_i n) u w
  refine ⟨m2, h1, ?_⟩
  rw [lc_out, cf_L_X10_out, cf_L_X11_out]
  simp only [sl_rdx_at (v := 1) (k := 1) rfl hL (show n + 1 < L by omega)]
  exact h2
