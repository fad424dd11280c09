/-! ===== a call of both through a method with handler, alike ===== -/
theorem y_R_out {K : Nat} {c d : sl_M} (h : y_R K c d) (v w : Int64) : y_R K (c.1, v) (d.1, w) := h
theorem sl_alike2 {K : Nat} {FA FB : List sl_V → sl_M → Option (sl_PL × sl_M)} {as1 as2 : List sl_V} {m : sl_L} (h : y_R K m.1 m.1) (hq : ∀ c d, y_R K c d → y_Q K c d (FA as1 c) (FB as2 d)) :
    ∃ (r a : Int32) (m1 : sl_L) (m2 : sl_M), sl_wA FA as1 m = some ((r, 0, 0), m1) ∧ FB as2 m1.1 = some ((a, 0, 0), m2) ∧ y_R (K + 1) m2 m2 ∧ m2.1 11 0 0 = r ∧ (r = 0 → m2.2 = a.toInt64) ∧ m1.2.1 ≤ m.2.1 + 1 ∧ m1.2.2 ≤ m.2.2 + 6 := by
  obtain ⟨c', d', _, hc, _, hA⟩ := hq m.1 m.1 h
  have h1 : y_R K m.1 c' := y_R_x h (y_sm_refl _ _) hc
  rcases hA with ⟨a, e1, -, -⟩ | ⟨b, e1, -, -⟩
  · have h2 : y_R K m.1 (c'.1, a.toInt64) := y_R_out h1 m.1.2 a.toInt64
    obtain ⟨c2, m2, hR, hc2, hd, hB⟩ := hq m.1 (c'.1, a.toInt64) h2
    rcases hB with ⟨a2, f1, f2, f3⟩ | ⟨b2, f1, f2, f3⟩
    · rw [e1] at f1
      cases f1
      refine ⟨0, a, ((c'.1, a.toInt64), m.2), m2, ?_, f2, y_R_x (c := (c'.1, a.toInt64)) (y_R_out hR a.toInt64 m2.2) hd (y_sm_refl _ _), f3, fun _ => hd.1, Nat.le_succ _, by show m.2.2 ≤ m.2.2 + 6; omega⟩
      unfold sl_wA
      rw [e1, Option.bind_some, if_neg (show ¬ ((0 : Nat) = 2) by decide)]
    · rw [e1] at f1
      cases f1
  · obtain ⟨c2, m2, hR, hc2, hd, hB⟩ := hq m.1 c' h1
    rcases hB with ⟨a2, f1, f2, f3⟩ | ⟨b2, f1, f2, f3⟩
    · rw [e1] at f1
      cases f1
    · rw [e1] at f1
      cases f1
      refine ⟨1, b2, (c', m.2.1 + 1, m.2.2 + 6), m2, ?_, f2, y_R_x hR hd (y_sm_refl _ _), f3, fun h => absurd h (by decide), Nat.le_refl _, Nat.le_refl _⟩
      unfold sl_wA
      rw [e1, Option.bind_some, if_pos rfl]
