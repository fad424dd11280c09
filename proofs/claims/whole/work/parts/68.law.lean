/-! ===== the cases with handlers, whole ===== -/
theorem lz_give {K L n : Nat} {xs : Nat → Int32} {X : sl_S → sl_L → Option (sl_PL × sl_L)} {u w : Option sl_V} {m : sl_L} (hL : L ≤ 3072) (hn : n + 6 ≤ L) (hq : ∀ c d, y_R K c d → y_Q K c d (f_X10_give (xs (n + 1)) c) (f_X11_give (xs (n + 1)) d)) (h : y_R K m.1 m.1) :
    ∃ (m2 : sl_L) (u' w' : Option sl_V), y_R (K + 1) m2.1 m2.1 ∧ m2.2.1 ≤ m.2.1 + 1 ∧ m2.2.2 ≤ m.2.2 + 6 ∧ sl_Lg L xs fa_L sl_stp (sl_LC L xs X) 388 (320, sl_lo7 (sl_i n) u w, []) m = X (23, sl_lo7 (sl_i n + 6) u' w', []) m2 := by
  obtain ⟨r, a, m1, m2, e1, e2, e3, e4, e5, b1, b2⟩ := sl_alike2 (FA := F_X10_give) (FB := F_X11_give) (as1 := [.inr (.inl (some (10, 0))), .inl (xs (n + 1))]) (as2 := [.inr (.inl (some (11, 0))), .inl (xs (n + 1))]) h hq
  refine ⟨(m2, m1.2), some (.inl r), some (.inl a), e3, b1, b2, ?_⟩
  rw [lp_give]
  simp only [sl_rdx_at (v := 1) (k := 1) rfl hL (show n + 1 < L by omega)]
  show (sl_wA F_X10_give [.inr (.inl (some (10, 0))), .inl (xs (n + 1))] m).bind (fun x1 => sl_LK L xs X (331, sl_lo7 (sl_i n) u w, [.inl x1.1.1]) x1.2) = _
  rw [e1, Option.bind_some]
  show sl_Lr L xs sl_stp (sl_LX X) 400 (331, sl_lo7 (sl_i n) u w, [.inl r]) m1 = _
  rw [sl_Lg_eq, lq_give, cf_L_X11_give, cf_L_X11_thrown]
  simp only [sl_rdx_at (v := 1) (k := 1) rfl hL (show n + 1 < L by omega)]
  have l1 : sl_lf F_X11_give [.inr (.inl (some (11, 0))), .inl (xs (n + 1))] m1 = some ((a, 0, 0), (m2, m1.2)) := by unfold sl_lf; rw [e2, Option.bind_some]
  have l2 : sl_lf F_X11_thrown [.inr (.inl (some (11, 0)))] (m2, m1.2) = some ((m2.1 11 0 0, 0, 0), (m2, m1.2)) := by
    unfold sl_lf
    rw [show F_X11_thrown [.inr (.inl (some (11, 0)))] (m2, m1.2).1 = some ((m2.1 11 0 0, 0, 0), m2) from rfl, Option.bind_some]
  rw [l1, Option.bind_some]
  show (sl_lf F_X11_thrown [.inr (.inl (some (11, 0)))] (m2, m1.2)).bind _ = _
  rw [l2, Option.bind_some]
  show sl_cm2 X (sl_i n) r a (m2.1 11 0 0) (m2, m1.2) = _
  unfold sl_cm2
  rw [if_pos e4]
  by_cases hr : r = 0
  · rw [if_pos hr, if_pos]
    show lg_cmp m2.2 a.toInt64 = 0
    rw [e5 hr]
    unfold lg_cmp
    simp
  · rw [if_neg hr]
