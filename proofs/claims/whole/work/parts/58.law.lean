/-! ===== one round of the law's loop ===== -/
theorem sl_wA_mo {F : List sl_V → sl_M → Option (sl_PL × sl_M)} {as : List sl_V} {m : sl_L} {x : sl_PL × sl_L} (h : sl_wA F as m = some x) : m.2.1 ≤ x.2.2.1 ∧ m.2.2 ≤ x.2.2.2 := by
  obtain ⟨q, -, h2⟩ := Option.bind_eq_some_iff.mp h
  split at h2
  · cases h2
    exact ⟨Nat.le_succ _, by show m.2.2 ≤ m.2.2 + 6; omega⟩
  · cases h2
    exact ⟨Nat.le_refl _, Nat.le_refl _⟩
def sl_w3 (F : List sl_V → sl_M → Option (sl_PL × sl_M)) (k : sl_S → sl_L → Option (sl_PL × sl_L)) : sl_S → sl_L → Option (sl_PL × sl_L)
  | (pc, lo, .inr (.inl (some (40, 0))) :: .inl a0 :: .inr (.inl (some (10, 0))) :: r), m => bif Nat.ble (sl_cs r) 8 then (sl_wA F [.inr (.inl (some (10, 0))), .inl a0] m).bind (fun x1 => k (pc + 3, lo, .inl x1.1.1 :: r) x1.2) else none
  | _, _ => none
theorem sl_w3_in {F : List sl_V → sl_M → Option (sl_PL × sl_M)} {k : sl_S → sl_L → Option (sl_PL × sl_L)} {S : sl_S} {m : sl_L} {x : sl_PL × sl_L} (h : sl_w3 F k S m = some x) : ∃ (a0 : Int32) (r : List sl_V) (x1 : sl_PL × sl_L), S = (S.1, S.2.1, .inr (.inl (some (40, 0))) :: .inl a0 :: .inr (.inl (some (10, 0))) :: r) ∧ sl_cs r ≤ 8 ∧ sl_wA F [.inr (.inl (some (10, 0))), .inl a0] m = some x1 ∧ k (S.1 + 3, S.2.1, .inl x1.1.1 :: r) x1.2 = some x := by
  unfold sl_w3 at h
  split at h
  · rename_i pc lo a0 r
    rw [Bool.cond_eq_ite] at h
    split at h
    · rename_i hc
      obtain ⟨x1, h1, h2⟩ := Option.bind_eq_some_iff.mp h
      exact ⟨a0, r, x1, rfl, Nat.le_of_ble_eq_true hc, h1, h2⟩
    · cases h
  · cases h
def sl_w4 (F : List sl_V → sl_M → Option (sl_PL × sl_M)) (k : sl_S → sl_L → Option (sl_PL × sl_L)) : sl_S → sl_L → Option (sl_PL × sl_L)
  | (pc, lo, .inr (.inl (some (40, 0))) :: .inl a1 :: .inl a0 :: .inr (.inl (some (10, 0))) :: r), m => bif Nat.ble (sl_cs r) 8 then (sl_wA F [.inr (.inl (some (10, 0))), .inl a0, .inl a1] m).bind (fun x1 => k (pc + 3, lo, .inl x1.1.1 :: r) x1.2) else none
  | _, _ => none
theorem sl_w4_in {F : List sl_V → sl_M → Option (sl_PL × sl_M)} {k : sl_S → sl_L → Option (sl_PL × sl_L)} {S : sl_S} {m : sl_L} {x : sl_PL × sl_L} (h : sl_w4 F k S m = some x) : ∃ (a0 a1 : Int32) (r : List sl_V) (x1 : sl_PL × sl_L), S = (S.1, S.2.1, .inr (.inl (some (40, 0))) :: .inl a1 :: .inl a0 :: .inr (.inl (some (10, 0))) :: r) ∧ sl_cs r ≤ 8 ∧ sl_wA F [.inr (.inl (some (10, 0))), .inl a0, .inl a1] m = some x1 ∧ k (S.1 + 3, S.2.1, .inl x1.1.1 :: r) x1.2 = some x := by
  unfold sl_w4 at h
  split at h
  · rename_i pc lo a1 a0 r
    rw [Bool.cond_eq_ite] at h
    split at h
    · rename_i hc
      obtain ⟨x1, h1, h2⟩ := Option.bind_eq_some_iff.mp h
      exact ⟨a0, a1, r, x1, rfl, Nat.le_of_ble_eq_true hc, h1, h2⟩
    · cases h
  · cases h
def sl_w5 (F : List sl_V → sl_M → Option (sl_PL × sl_M)) (k : sl_S → sl_L → Option (sl_PL × sl_L)) : sl_S → sl_L → Option (sl_PL × sl_L)
  | (pc, lo, .inr (.inl (some (40, 0))) :: .inl a2 :: .inl a1 :: .inl a0 :: .inr (.inl (some (10, 0))) :: r), m => bif Nat.ble (sl_cs r) 8 then (sl_wA F [.inr (.inl (some (10, 0))), .inl a0, .inl a1, .inl a2] m).bind (fun x1 => k (pc + 3, lo, .inl x1.1.1 :: r) x1.2) else none
  | _, _ => none
theorem sl_w5_in {F : List sl_V → sl_M → Option (sl_PL × sl_M)} {k : sl_S → sl_L → Option (sl_PL × sl_L)} {S : sl_S} {m : sl_L} {x : sl_PL × sl_L} (h : sl_w5 F k S m = some x) : ∃ (a0 a1 a2 : Int32) (r : List sl_V) (x1 : sl_PL × sl_L), S = (S.1, S.2.1, .inr (.inl (some (40, 0))) :: .inl a2 :: .inl a1 :: .inl a0 :: .inr (.inl (some (10, 0))) :: r) ∧ sl_cs r ≤ 8 ∧ sl_wA F [.inr (.inl (some (10, 0))), .inl a0, .inl a1, .inl a2] m = some x1 ∧ k (S.1 + 3, S.2.1, .inl x1.1.1 :: r) x1.2 = some x := by
  unfold sl_w5 at h
  split at h
  · rename_i pc lo a2 a1 a0 r
    rw [Bool.cond_eq_ite] at h
    split at h
    · rename_i hc
      obtain ⟨x1, h1, h2⟩ := Option.bind_eq_some_iff.mp h
      exact ⟨a0, a1, a2, r, x1, rfl, Nat.le_of_ble_eq_true hc, h1, h2⟩
    · cases h
  · cases h
section SLLX
variable (L : Nat) (xs : Nat → Int32) (X : sl_S → sl_L → Option (sl_PL × sl_L))
def sl_stp (pc : Nat) : Bool := Nat.beq pc 23 || Nat.beq pc 328 || Nat.beq pc 409 || Nat.beq pc 502 || Nat.beq pc 582 || Nat.beq pc 662 || Nat.beq pc 730 || Nat.beq pc 792 || Nat.beq pc 860
def sl_LX (S : sl_S) (m : sl_L) : Option (sl_PL × sl_L) := bif Nat.beq S.1 23 then X S m else none
def sl_LK (S : sl_S) (m : sl_L) : Option (sl_PL × sl_L) := sl_Lr L xs sl_stp (sl_LX X) 400 S m
def sl_LC (S : sl_S) (m : sl_L) : Option (sl_PL × sl_L) := bif Nat.beq S.1 328 then sl_w3 F_X10_give (sl_LK L xs X) S m else bif Nat.beq S.1 409 then sl_w5 F_X10_carry (sl_LK L xs X) S m else bif Nat.beq S.1 502 then sl_w5 F_X10_noise (sl_LK L xs X) S m else bif Nat.beq S.1 582 then sl_w5 F_X10_frame (sl_LK L xs X) S m else bif Nat.beq S.1 662 then sl_w5 F_X10_octet (sl_LK L xs X) S m else bif Nat.beq S.1 730 then sl_w3 F_X10_line (sl_LK L xs X) S m else bif Nat.beq S.1 792 then sl_w4 F_X10_state (sl_LK L xs X) S m else bif Nat.beq S.1 860 then sl_w4 F_X10_taken (sl_LK L xs X) S m else sl_LX X S m
def sl_LI (S : sl_S) (m : sl_L) : Option (sl_PL × sl_L) := sl_Lr L xs sl_stp (sl_LC L xs X) 400 S m
end SLLX
