/-! ===== one case whole: take ===== -/
theorem lz_take {K L : Nat} {xs : Nat → Int32} {X : sl_S → sl_L → Option (sl_PL × sl_L)} {i : Int32} {u w : Option sl_V} {m : sl_L} (hq : ∀ c d, y_R K c d → y_Q K c d (f_X10_take c) (f_X11_take d)) (hA : ∀ x, f_X10_take m.1 = some x → x.1.2.2 ≠ 2) (h : y_R K m.1 m.1) :
    ∃ m2, y_R (K + 1) m2 m2 ∧ sl_Lg L xs fa_L sl_stp (sl_LC L xs X) 388 (307, sl_lo7 i u w, []) m = X (23, sl_lo7 (i + 6) u w, []) (m2, m.2) := by
  obtain ⟨m2, h1, h2⟩ := sl_alike (FA := F_X10_take) (FB := F_X11_take) (as1 := [.inr (.inl (some (10, 0)))]) (as2 := [.inr (.inl (some (11, 0)))]) h hq hA X i u w
  refine ⟨m2, h1, ?_⟩
  rw [lc_take, cf_L_X10_take, cf_L_X11_take]
  exact h2
