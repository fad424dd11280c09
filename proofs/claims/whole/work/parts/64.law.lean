/-! ===== a call of both, alike ===== -/
theorem sl_alike {K : Nat} {FA FB : List sl_V → sl_M → Option (sl_PL × sl_M)} {as1 as2 : List sl_V} {m : sl_L} (h : y_R K m.1 m.1) (hq : ∀ c d, y_R K c d → y_Q K c d (FA as1 c) (FB as2 d)) (hA : ∀ x, FA as1 m.1 = some x → x.1.2.2 ≠ 2) (X : sl_S → sl_L → Option (sl_PL × sl_L)) (i : Int32) (u w : Option sl_V) :
    ∃ m2, y_R (K + 1) m2 m2 ∧ (sl_lf FA as1 m).bind (fun q1 => (sl_lf FB as2 q1.2).bind (fun q2 => sl_cmp X u w i q1.1.1 q2.1.1 q2.2)) = X (23, sl_lo7 (i + 6) u w, []) (m2, m.2) := by
  obtain ⟨m1, m2, hR, -, -, hc⟩ := y_call h hq
  rcases hc with ⟨a, e1, e2, -⟩ | ⟨b, e1, -⟩
  · refine ⟨m2, hR, ?_⟩
    have l1 : sl_lf FA as1 m = some ((a, 0, 0), (m1, m.2)) := by unfold sl_lf; rw [e1, Option.bind_some]
    have l2 : sl_lf FB as2 (m1, m.2) = some ((a, 0, 0), (m2, m.2)) := by unfold sl_lf; rw [show (m1, m.2).1 = m1 from rfl, e2, Option.bind_some]
    rw [l1, Option.bind_some]
    show (sl_lf FB as2 (m1, m.2)).bind _ = _
    rw [l2, Option.bind_some]
    show sl_cmp X u w i a a (m2, m.2) = _
    unfold sl_cmp
    rw [if_pos rfl]
  · exact absurd rfl (hA _ e1)
/-- the same for a call that the law's table lets throw -/
theorem sl_alike1 {K : Nat} {FA FB : List sl_V → sl_M → Option (sl_PL × sl_M)} {as1 as2 : List sl_V} {m : sl_L} (h : y_R K m.1 m.1) (hq : ∀ c d, y_R K c d → y_Q K c d (FA as1 c) (FB as2 d)) (hA : ∀ x, FA as1 m.1 = some x → x.1.2.2 ≠ 2) (X : sl_S → sl_L → Option (sl_PL × sl_L)) (i : Int32) (u w : Option sl_V) :
    ∃ m2, y_R (K + 1) m2 m2 ∧ (sl_lf FA as1 m).bind (fun q1 => if q1.1.2.2 = 2 then some ((0, 0, 2), q1.2) else (sl_lf FB as2 q1.2).bind (fun q2 => sl_cmp X u w i q1.1.1 q2.1.1 q2.2)) = X (23, sl_lo7 (i + 6) u w, []) (m2, m.2) := by
  obtain ⟨m2, hR, e⟩ := sl_alike h hq hA X i u w
  refine ⟨m2, hR, ?_⟩
  rw [← e]
  cases hl : sl_lf FA as1 m with
  | none => rfl
  | some q =>
    obtain ⟨m1, e1, -⟩ := sl_lf_in hl
    rw [Option.bind_some, Option.bind_some, if_neg (hA _ e1)]
