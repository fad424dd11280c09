/-! ===== reads of the script, in range ===== -/
theorem sl_rdx_in {L n : Nat} {xs : Nat → Int32} {f : Int32 → Option (sl_PL × sl_L)} (hL : L ≤ 3072) (h : n < L) : sl_rdx L xs (sl_i n) f = f (xs n) := by
  unfold sl_rdx
  have e : (sl_i n).toNatClampNeg = n := i_nat (by omega)
  have h0 : (0 : Int32) ≤ sl_i n := by
    rw [show (0 : Int32) = sl_i 0 from rfl, i_le (by omega) (by omega)]
    exact Nat.zero_le _
  rw [if_pos ⟨h0, by rw [e]; exact h⟩, e]
theorem sl_rdx_at {L n k : Nat} {xs : Nat → Int32} {f : Int32 → Option (sl_PL × sl_L)} {v : Int32} (hv : v = sl_i k) (hL : L ≤ 3072) (h : n + k < L) : sl_rdx L xs (sl_i n + v) f = f (xs (n + k)) := by
  rw [hv, i_add]
  exact sl_rdx_in hL h
