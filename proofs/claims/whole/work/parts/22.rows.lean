/-! rows of bytes: class rows (kind 20), model arrays (kind 30) -/
def y_rb (m : sl_M) (r j : Nat) : Nat := sl_b8 (m.1 20 r j)
def y_mb (m : sl_M) (w j : Nat) : Nat := sl_b8 (m.1 30 w j)
theorem y_rb_lt (m : sl_M) (r j : Nat) : y_rb m r j < 256 := b8_lt _
theorem y_mb_lt (m : sl_M) (w j : Nat) : y_mb m w j < 256 := b8_lt _
theorem y_rb_up {m : sl_M} {r j r' j' : Nat} {x : Int32} (h1 : r' = r) (h2 : j' = j) : y_rb (sl_up m 20 r j (sl_sx x)) r' j' = sl_b8 x := by
  unfold y_rb; rw [up_eq rfl h1 h2, b8_sx]
theorem y_rb_ne {m : sl_M} {c r j r' j' : Nat} {x : Int32} (h : c ≠ 20 ∨ r' ≠ r ∨ j' ≠ j) : y_rb (sl_up m c r j x) r' j' = y_rb m r' j' := by
  unfold y_rb; rw [up_ne (by omega)]
theorem y_mb_up {m : sl_M} {r j r' j' : Nat} {x : Int32} (h1 : r' = r) (h2 : j' = j) : y_mb (sl_up m 30 r j (sl_sx x)) r' j' = sl_b8 x := by
  unfold y_mb; rw [up_eq rfl h1 h2, b8_sx]
theorem y_mb_ne {m : sl_M} {c r j r' j' : Nat} {x : Int32} (h : c ≠ 30 ∨ r' ≠ r ∨ j' ≠ j) : y_mb (sl_up m c r j x) r' j' = y_mb m r' j' := by
  unfold y_mb; rw [up_ne (by omega)]
/-- the same but for the cells that S names -/
def y_sm (S : Nat → Nat → Nat → Prop) (m m' : sl_M) : Prop := m'.2 = m.2 ∧ ∀ k w p, ¬ S k w p → m'.1 k w p = m.1 k w p
theorem y_sm_refl (S : Nat → Nat → Nat → Prop) (m : sl_M) : y_sm S m m := ⟨rfl, fun _ _ _ _ => rfl⟩
theorem y_sm_tr {S T U : Nat → Nat → Nat → Prop} {m n o : sl_M} (h1 : y_sm S m n) (h2 : y_sm T n o) (hs : ∀ k w p, S k w p → U k w p) (ht : ∀ k w p, T k w p → U k w p) : y_sm U m o :=
  ⟨h2.1.trans h1.1, fun k w p h => (h2.2 k w p (fun q => h (ht k w p q))).trans (h1.2 k w p (fun q => h (hs k w p q)))⟩
theorem y_sm_mono {S U : Nat → Nat → Nat → Prop} {m n : sl_M} (h1 : y_sm S m n) (hs : ∀ k w p, S k w p → U k w p) : y_sm U m n :=
  ⟨h1.1, fun k w p h => h1.2 k w p (fun q => h (hs k w p q))⟩
theorem y_sm_up {S U : Nat → Nat → Nat → Prop} {m n : sl_M} {c i k : Nat} {x : Int32} (h1 : y_sm S m n) (hs : ∀ k w p, S k w p → U k w p) (hu : U c i k) : y_sm U m (sl_up n c i k x) :=
  ⟨h1.1, fun k' w' p' h => by
    rw [up_ne]
    · exact h1.2 k' w' p' (fun q => h (hs k' w' p' q))
    · by_cases h1 : k' = c
      · by_cases h2 : w' = i
        · by_cases h3 : p' = k
          · subst h1; subst h2; subst h3; exact absurd hu h
          · omega
        · omega
      · omega⟩
theorem y_sm_g {S : Nat → Nat → Nat → Prop} {m n : sl_M} (h : y_sm S m n) {k w p : Nat} (hn : ¬ S k w p) : n.1 k w p = m.1 k w p := h.2 k w p hn
theorem y_sm_rb {S : Nat → Nat → Nat → Prop} {m n : sl_M} (h : y_sm S m n) {r j : Nat} (hn : ¬ S 20 r j) : y_rb n r j = y_rb m r j := by
  unfold y_rb; rw [h.2 _ _ _ hn]
theorem y_sm_mb {S : Nat → Nat → Nat → Prop} {m n : sl_M} (h : y_sm S m n) {r j : Nat} (hn : ¬ S 30 r j) : y_mb n r j = y_mb m r j := by
  unfold y_mb; rw [h.2 _ _ _ hn]
theorem y_lr0 : sl_lr 0 = 1200 := rfl
theorem y_lr1 : sl_lr 1 = 1205 := rfl
theorem y_lr2 {e : Nat} (h : e < 2) : sl_lr (2 + e) = 65 := by
  have : e = 0 ∨ e = 1 := by omega
  rcases this with h | h <;> subst h <;> rfl
theorem y_lr4 {e : Nat} (h : e < 2) : sl_lr (4 + e) = 3000 := by
  have : e = 0 ∨ e = 1 := by omega
  rcases this with h | h <;> subst h <;> rfl
theorem y_lr6 {e : Nat} (h : e < 2) : sl_lr (6 + e) = 3000 := by
  have : e = 0 ∨ e = 1 := by omega
  rcases this with h | h <;> subst h <;> rfl
theorem y_lr8 {e : Nat} (h : e < 2) : sl_lr (8 + e) = 3840 := by
  have : e = 0 ∨ e = 1 := by omega
  rcases this with h | h <;> subst h <;> rfl
theorem y_lr10 {e : Nat} (h : e < 2) : sl_lr (10 + e) = 120 := by
  have : e = 0 ∨ e = 1 := by omega
  rcases this with h | h <;> subst h <;> rfl
theorem y_lr12 {e : Nat} (h : e < 2) : sl_lr (12 + e) = 120 := by
  have : e = 0 ∨ e = 1 := by omega
  rcases this with h | h <;> subst h <;> rfl
theorem y_lr14 (f : Nat) : sl_lr (14 + f) = 67 := by
  unfold sl_lr
  rw [show Nat.ble 14 (14 + f) = true from Nat.ble_eq_true_of_le (Nat.le_add_right 14 f)]; rfl
theorem y_at (m : sl_M) {r i L : Nat} (hl : m.1 6 r 1 = sl_i L) (hi : i < L) (hc : L ≤ sl_lr r) :
    f_X6_at r (sl_i i) m = some ((sl_i (y_rb m r i), 0, 0), m) := y_at_in hl hi hc (y_lr_lt r)
theorem y_clear (m : sl_M) (r : Nat) : f_X6_clear r m = some ((sl_i 0, 0, 0), sl_up m 6 r 1 (sl_i 0)) := by
  rw [e_X6_clear]; rfl
theorem y_add (m : sl_M) {r L : Nat} (v : Int32) (hl : m.1 6 r 1 = sl_i L) (hc : L < sl_lr r) :
    f_X6_add r v m = some ((sl_i 1, 0, 0), sl_up (sl_up m 20 r L (sl_sx v)) 6 r 1 (sl_i (L + 1))) := by
  have hb := y_lr_lt r
  rw [e_X6_add, hl]
  simp (disch := omega) only [i_lit, i_ofNat, i_add, i_mul, i_sub, i_addn, i_subm, i_subm', i_le, i_lt, i_nat, i_eq, i_div, i_nle, i_nlt, i_len, i_ltn, i_neq, i_eqn, i_and1, i_and63, i_and255, b8_sx, ob_some, if_true, if_false, and_self, true_and, if_pos, if_neg]
theorem y_addFull (m : sl_M) {r L : Nat} (v : Int32) (hl : m.1 6 r 1 = sl_i L) (hc : sl_lr r ≤ L) (hL : L < 2147483648) :
    f_X6_add r v m = some ((sl_i 0, 0, 0), m) := by
  have hb := y_lr_lt r
  rw [e_X6_add, hl]
  simp (disch := omega) only [i_lit, i_ofNat, i_add, i_mul, i_sub, i_addn, i_subm, i_subm', i_le, i_lt, i_nat, i_eq, i_div, i_nle, i_nlt, i_len, i_ltn, i_neq, i_eqn, i_and1, i_and63, i_and255, b8_sx, ob_some, if_true, if_false, and_self, true_and, if_pos, if_neg]
theorem y_put (m : sl_M) {r i : Nat} (v : Int32) (hc : i < sl_lr r) :
    f_X6_put r (sl_i i) v m = some ((sl_i 0, 0, 0), sl_up m 20 r i (sl_sx v)) := by
  have hb := y_lr_lt r
  rw [e_X6_put]
  simp (disch := omega) only [i_lit, i_ofNat, i_add, i_mul, i_sub, i_addn, i_subm, i_subm', i_le, i_lt, i_nat, i_eq, i_div, i_nle, i_nlt, i_len, i_ltn, i_neq, i_eqn, i_and1, i_and63, i_and255, b8_sx, ob_some, if_true, if_false, and_self, true_and, if_pos, if_neg]
theorem y_hasRoom (m : sl_M) {r L n : Nat} (hl : m.1 6 r 1 = sl_i L) (hc : L ≤ sl_lr r) (hn : n < 2147483648) :
    f_X6_hasRoom r (sl_i n) m = some ((sl_i (if L + n ≤ sl_lr r then 1 else 0), 0, 0), m) := by
  have hb := y_lr_lt r
  rw [e_X6_hasRoom, hl]
  simp (disch := omega) only [i_lit, i_ofNat, i_sub, i_lt]
  by_cases h : L + n ≤ sl_lr r
  · rw [if_neg (by omega), if_pos h]
  · rw [if_pos (by omega), if_neg h]
theorem y_addPart3 (r f s n L LF : Nat) (hrf : r ≠ f) (hs : s + n ≤ LF) (hLF : LF ≤ sl_lr f) (hr : L + n ≤ sl_lr r) : ∀ k i fuel (m : sl_M), i + k = n → k < fuel →
    m.1 6 r 1 = sl_i (L + i) → m.1 6 f 1 = sl_i LF →
    ∃ m', b_X6_addPart_3 fuel r f (sl_i s) (sl_i n) (sl_i i) m = some ((sl_i 0, 0, 0), m') ∧ m'.1 6 r 1 = sl_i (L + n) ∧
      (∀ j, i ≤ j → j < n → y_rb m' r (L + j) = y_rb m f (s + j)) ∧
      y_sm (fun k w p => (k = 6 ∧ w = r ∧ p = 1) ∨ (k = 20 ∧ w = r ∧ L + i ≤ p ∧ p < L + n)) m m' := by
  intro k
  have hb := y_lr_lt r
  have hb2 := y_lr_lt f
  induction k with
  | zero =>
    intro i fuel m hi hf hl hlf
    obtain ⟨f2, rfl⟩ : ∃ f2, fuel = f2 + 1 := ⟨fuel - 1, by omega⟩
    have : i = n := by omega
    subst this
    refine ⟨m, ?_, hl, fun j h1 h2 => by omega, y_sm_refl _ _⟩
    rw [e_X6_addPart_3]
    simp (disch := omega) only [i_lit, i_ofNat, i_add, i_mul, i_sub, i_addn, i_subm, i_subm', i_le, i_lt, i_nat, i_eq, i_div, i_nle, i_nlt, i_len, i_ltn, i_neq, i_eqn, i_and1, i_and63, i_and255, b8_sx, ob_some, if_true, if_false, and_self, true_and, if_pos, if_neg]
  | succ k ih =>
    intro i fuel m hi hf hl hlf
    obtain ⟨f2, rfl⟩ : ∃ f2, fuel = f2 + 1 := ⟨fuel - 1, by omega⟩
    obtain ⟨m', h1, h2, h3, h4⟩ := ih (i + 1) f2 (sl_up (sl_up m 20 r (L + i) (sl_sx (sl_i (y_rb m f (s + i))))) 6 r 1 (sl_i (L + i + 1))) (by omega) (by omega)
      (by rw [up_eq rfl rfl rfl]; rfl) (by rw [up_ne (by omega), up_ne (by omega)]; exact hlf)
    refine ⟨m', ?_, h2, ?_, ?_⟩
    · rw [e_X6_addPart_3]
      simp (disch := omega) only [i_lit, i_ofNat, i_add, i_mul, i_sub, i_addn, i_subm, i_subm', i_le, i_lt, i_nat, i_eq, i_div, i_nle, i_nlt, i_len, i_ltn, i_neq, i_eqn, i_and1, i_and63, i_and255, b8_sx, ob_some, if_true, if_false, and_self, true_and, if_pos, if_neg]
      rw [y_at m hlf (by omega) hLF, ob_some, y_add m _ hl (by omega), ob_some]
      exact h1
    · intro j hj hj2
      by_cases h : j = i
      · subst h
        rw [y_sm_rb h4 (by omega), y_rb_ne (by omega), y_rb_up rfl rfl, b8_i]
        have := y_rb_lt m f (s + j); omega
      · rw [h3 j (by omega) hj2, y_rb_ne (by omega), y_rb_ne (by omega)]
    · refine ⟨h4.1, fun k w p h => ?_⟩
      rw [h4.2 k w p (by omega), up_ne (by omega), up_ne (by omega)]
theorem y_addPart (m : sl_M) {r f s n L LF : Nat} (hl : m.1 6 r 1 = sl_i L) (hlf : m.1 6 f 1 = sl_i LF) (hrf : r ≠ f) (hs : s + n ≤ LF) (hLF : LF ≤ sl_lr f) (hr : L + n ≤ sl_lr r) (hn : n < 90000) :
    ∃ m', f_X6_addPart r f (sl_i s) (sl_i n) m = some ((sl_i 0, 0, 0), m') ∧ m'.1 6 r 1 = sl_i (L + n) ∧
      (∀ j, j < n → y_rb m' r (L + j) = y_rb m f (s + j)) ∧
      y_sm (fun k w p => (k = 6 ∧ w = r ∧ p = 1) ∨ (k = 20 ∧ w = r ∧ L ≤ p ∧ p < L + n)) m m' := by
  obtain ⟨m', h1, h2, h3, h4⟩ := y_addPart3 r f s n L LF hrf hs hLF hr n 0 99999 m (by omega) (by omega) hl hlf
  refine ⟨m', ?_, h2, fun j hj => h3 j (by omega) hj, h4⟩
  rw [e_X6_addPart]; exact h1
