/-! ===== a round of the law's loop is the machine's ===== -/
section SLLZ
variable {p : Program} {l : Launch} {e : Env} {s : State} {mid : MethodId} {below : List Frame} {meth : Method} {c : Code} {b L : Nat} {xs : Nat → Int32} {D : va_G} {cA : Nat → ClassId} {x : sl_PL × sl_L} {m0 : sl_L} {Q : State → Prop} {X : sl_S → sl_L → Option (sl_PL × sl_L)}
theorem sl_Lst {stop : Nat → Bool} {C9 : sl_S → sl_L → Option (sl_PL × sl_L)} (hst : l.stackTraces = false) (hbl : b < s.heap.size) (hKK : sl_KK D cA s.heap.size s) (hx1 : x.1 = (1, 0, 0)) (hCst : ∀ S m, C9 S m = some x → m.2.1 ≤ x.2.2.1 ∧ m.2.2 ≤ x.2.2.2) (N : Nat) (S : sl_S) (m : sl_L) (h : sl_Lr L xs stop C9 N S m = some x) : m.2.1 ≤ x.2.2.1 ∧ m.2.2 ≤ x.2.2.2 := by
  have hx2 : x.1.2.2 ≠ 2 := by rw [hx1]; exact (by decide : (0 : Nat) ≠ 2)
  have g := sl_run_st (th9 := 1) sl_moL (fun j y na rk rc th rv e => by
    obtain ⟨Y1, B1, mL1, ret1, fr1, lc1, q1, q2, q3⟩ := hL_L (Hb := s.heap) (D := D) (cA := cA) hst hbl _ (sl_tC_at nC_L tC_L e)
    exact ⟨q3.1, fun _ => Nat.one_ne_zero⟩) (fun p k a j n ts e h56 => absurd h56 (sl_LS_at e).2.2.2.2.2.2.2.1) (fun S m h => ⟨(hCst S m h).1, (hCst S m h).2, fun _ => hx2⟩) N S m h
  exact ⟨g.1, g.2.1⟩
theorem sl_LX_or {P : Prop} {S : sl_S} {m : sl_L} (h : sl_LX X S m = some x) (k : X S m = some x → P) : P := by
  unfold sl_LX at h
  rw [Bool.cond_eq_ite] at h
  split at h
  · exact k h
  · cases h
theorem sl_LC_st (hst : l.stackTraces = false) (hbl : b < s.heap.size) (hKK : sl_KK D cA s.heap.size s) (hx1 : x.1 = (1, 0, 0)) (hXst : ∀ S m, X S m = some x → m.2.1 ≤ x.2.2.1 ∧ m.2.2 ≤ x.2.2.2) (S : sl_S) (m : sl_L) (h : sl_LC L xs X S m = some x) : m.2.1 ≤ x.2.2.1 ∧ m.2.2 ≤ x.2.2.2 := by
  have hK : ∀ S m, sl_LK L xs X S m = some x → m.2.1 ≤ x.2.2.1 ∧ m.2.2 ≤ x.2.2.2 := fun S m h => sl_Lst hst hbl hKK hx1 (fun S m h => sl_LX_or h (hXst S m)) _ _ _ h
  unfold sl_LC at h
  rw [Bool.cond_eq_ite] at h
  split at h
  · obtain ⟨a0, r, x1, -, -, h1, h2⟩ := sl_w3_in h
    have g1 := sl_wA_mo h1
    have g2 := hK _ _ h2
    have g2 : x1.2.2.1 ≤ x.2.2.1 ∧ x1.2.2.2 ≤ x.2.2.2 := g2
    exact ⟨Nat.le_trans g1.1 g2.1, Nat.le_trans g1.2 g2.2⟩
  rw [Bool.cond_eq_ite] at h
  split at h
  · obtain ⟨a0, a1, a2, r, x1, -, -, h1, h2⟩ := sl_w5_in h
    have g1 := sl_wA_mo h1
    have g2 := hK _ _ h2
    have g2 : x1.2.2.1 ≤ x.2.2.1 ∧ x1.2.2.2 ≤ x.2.2.2 := g2
    exact ⟨Nat.le_trans g1.1 g2.1, Nat.le_trans g1.2 g2.2⟩
  rw [Bool.cond_eq_ite] at h
  split at h
  · obtain ⟨a0, a1, a2, r, x1, -, -, h1, h2⟩ := sl_w5_in h
    have g1 := sl_wA_mo h1
    have g2 := hK _ _ h2
    have g2 : x1.2.2.1 ≤ x.2.2.1 ∧ x1.2.2.2 ≤ x.2.2.2 := g2
    exact ⟨Nat.le_trans g1.1 g2.1, Nat.le_trans g1.2 g2.2⟩
  rw [Bool.cond_eq_ite] at h
  split at h
  · obtain ⟨a0, a1, a2, r, x1, -, -, h1, h2⟩ := sl_w5_in h
    have g1 := sl_wA_mo h1
    have g2 := hK _ _ h2
    have g2 : x1.2.2.1 ≤ x.2.2.1 ∧ x1.2.2.2 ≤ x.2.2.2 := g2
    exact ⟨Nat.le_trans g1.1 g2.1, Nat.le_trans g1.2 g2.2⟩
  rw [Bool.cond_eq_ite] at h
  split at h
  · obtain ⟨a0, a1, a2, r, x1, -, -, h1, h2⟩ := sl_w5_in h
    have g1 := sl_wA_mo h1
    have g2 := hK _ _ h2
    have g2 : x1.2.2.1 ≤ x.2.2.1 ∧ x1.2.2.2 ≤ x.2.2.2 := g2
    exact ⟨Nat.le_trans g1.1 g2.1, Nat.le_trans g1.2 g2.2⟩
  rw [Bool.cond_eq_ite] at h
  split at h
  · obtain ⟨a0, r, x1, -, -, h1, h2⟩ := sl_w3_in h
    have g1 := sl_wA_mo h1
    have g2 := hK _ _ h2
    have g2 : x1.2.2.1 ≤ x.2.2.1 ∧ x1.2.2.2 ≤ x.2.2.2 := g2
    exact ⟨Nat.le_trans g1.1 g2.1, Nat.le_trans g1.2 g2.2⟩
  rw [Bool.cond_eq_ite] at h
  split at h
  · obtain ⟨a0, a1, r, x1, -, -, h1, h2⟩ := sl_w4_in h
    have g1 := sl_wA_mo h1
    have g2 := hK _ _ h2
    have g2 : x1.2.2.1 ≤ x.2.2.1 ∧ x1.2.2.2 ≤ x.2.2.2 := g2
    exact ⟨Nat.le_trans g1.1 g2.1, Nat.le_trans g1.2 g2.2⟩
  rw [Bool.cond_eq_ite] at h
  split at h
  · obtain ⟨a0, a1, r, x1, -, -, h1, h2⟩ := sl_w4_in h
    have g1 := sl_wA_mo h1
    have g2 := hK _ _ h2
    have g2 : x1.2.2.1 ≤ x.2.2.1 ∧ x1.2.2.2 ≤ x.2.2.2 := g2
    exact ⟨Nat.le_trans g1.1 g2.1, Nat.le_trans g1.2 g2.2⟩
  exact sl_LX_or h (hXst S m)
theorem sl_LC_ok (hst : l.stackTraces = false) (hX : va_X b L xs s s.heap) (hbl : b < s.heap.size) (hC : sl_Cx p s mid #[Value.ref b] c cL_law 7 RL D cA) (hKK : sl_KK D cA s.heap.size s) (hend : ∀ (pc : Nat) (H : Heap) (ls : Array Slot), decode cL_law pc = .ok (.ireturn, 1) → W p l e room_1 s mid #[Value.ref b] below meth c H [] 601024 7293034 Q (F0 mid pc ls [.int 1])) (hlk : meth.locks = false) (hx1 : x.1 = (1, 0, 0)) (hR : x.2.2.1 ≤ 601024 ∧ x.2.2.2 ≤ 7293034) (hXst : ∀ S m, X S m = some x → m.2.1 ≤ x.2.2.1 ∧ m.2.2 ≤ x.2.2.2) (hXok : ∀ S m, X S m = some x → sl_G p l e room_1 s mid #[Value.ref b] below meth c (sl_ad s.heap.size b) s.heap.size 331 s.heap D cA sl_ln sl_rdL sl_VL sl_ML sl_cL sl_sL 7 x Q m0 S m) (S : sl_S) (m : sl_L) (h : sl_LC L xs X S m = some x) : sl_G p l e room_1 s mid #[Value.ref b] below meth c (sl_ad s.heap.size b) s.heap.size 331 s.heap D cA sl_ln sl_rdL sl_VL sl_ML sl_cL sl_sL 7 x Q m0 S m := by
  have hK : ∀ S m, sl_LK L xs X S m = some x → m.2.1 ≤ x.2.2.1 ∧ m.2.2 ≤ x.2.2.2 := fun S m h => sl_Lst hst hbl hKK hx1 (fun S m h => sl_LX_or h (hXst S m)) _ _ _ h
  have hKok : ∀ S m, sl_LK L xs X S m = some x → sl_G p l e room_1 s mid #[Value.ref b] below meth c (sl_ad s.heap.size b) s.heap.size 331 s.heap D cA sl_ln sl_rdL sl_VL sl_ML sl_cL sl_sL 7 x Q m0 S m := fun S m h => sl_Lok hst hX hbl hC hKK hend hlk hx1 hR (fun S m h => sl_LX_or h (hXst S m)) (fun S m h => sl_LX_or h (hXok S m)) _ _ _ h
  unfold sl_LC at h
  rw [Bool.cond_eq_ite] at h
  split at h
  · rename_i hpc
    have hpc := Nat.eq_of_beq_eq_true hpc
    obtain ⟨a0, r, x1, hS, hcs, h1, h2⟩ := sl_w3_in h
    have g1 := sl_wA_mo h1
    have g2 : x1.2.2.1 ≤ x.2.2.1 ∧ x1.2.2.2 ≤ x.2.2.2 := hK _ _ h2
    rw [hS, hpc]
    rw [hpc] at h2
    intro H locs ls q1 q2 q3 q4
    exact sl_wcall (as := [.inr (.inl (some (10, 0))), .inl a0, .inr (.inl (some (40, 0)))]) (r := r) (m := m) (x1 := x1) (n := 3) hC hKK (fun _ _ => rfl) (by decide +kernel : decode cL_law 328 = .ok (.invokestatic 62, 3)) (wm_give hst hbl h1 q4) (sl_gw_at 737 (by decide +kernel) (by decide +kernel)) (sl_gw_at 44 (by decide +kernel) (by decide +kernel)) (sl_gw_at 735 (by decide +kernel) (by decide +kernel)) (sl_gw_at 736 (by decide +kernel) (by decide +kernel)) ⟨by decide +kernel, by decide +kernel, by decide +kernel⟩ ⟨by decide, by decide⟩ rfl hcs g1 (fun _ _ => ⟨by show _ ≤ 601024; omega, by show _ ≤ 7293034; omega⟩) (hKok _ _ h2) H locs ls q1 q2 q3 q4
  rw [Bool.cond_eq_ite] at h
  split at h
  · rename_i hpc
    have hpc := Nat.eq_of_beq_eq_true hpc
    obtain ⟨a0, a1, a2, r, x1, hS, hcs, h1, h2⟩ := sl_w5_in h
    have g1 := sl_wA_mo h1
    have g2 : x1.2.2.1 ≤ x.2.2.1 ∧ x1.2.2.2 ≤ x.2.2.2 := hK _ _ h2
    rw [hS, hpc]
    rw [hpc] at h2
    intro H locs ls q1 q2 q3 q4
    exact sl_wcall (as := [.inr (.inl (some (10, 0))), .inl a0, .inl a1, .inl a2, .inr (.inl (some (40, 0)))]) (r := r) (m := m) (x1 := x1) (n := 5) hC hKK (fun _ _ => rfl) (by decide +kernel : decode cL_law 409 = .ok (.invokestatic 75, 3)) (wm_carry hst hbl h1 q4) (sl_gw_at 750 (by decide +kernel) (by decide +kernel)) (sl_gw_at 44 (by decide +kernel) (by decide +kernel)) (sl_gw_at 748 (by decide +kernel) (by decide +kernel)) (sl_gw_at 749 (by decide +kernel) (by decide +kernel)) ⟨by decide +kernel, by decide +kernel, by decide +kernel⟩ ⟨by decide, by decide⟩ rfl hcs g1 (fun _ _ => ⟨by show _ ≤ 601024; omega, by show _ ≤ 7293034; omega⟩) (hKok _ _ h2) H locs ls q1 q2 q3 q4
  rw [Bool.cond_eq_ite] at h
  split at h
  · rename_i hpc
    have hpc := Nat.eq_of_beq_eq_true hpc
    obtain ⟨a0, a1, a2, r, x1, hS, hcs, h1, h2⟩ := sl_w5_in h
    have g1 := sl_wA_mo h1
    have g2 : x1.2.2.1 ≤ x.2.2.1 ∧ x1.2.2.2 ≤ x.2.2.2 := hK _ _ h2
    rw [hS, hpc]
    rw [hpc] at h2
    intro H locs ls q1 q2 q3 q4
    exact sl_wcall (as := [.inr (.inl (some (10, 0))), .inl a0, .inl a1, .inl a2, .inr (.inl (some (40, 0)))]) (r := r) (m := m) (x1 := x1) (n := 5) hC hKK (fun _ _ => rfl) (by decide +kernel : decode cL_law 502 = .ok (.invokestatic 83, 3)) (wm_noise hst hbl h1 q4) (sl_gw_at 760 (by decide +kernel) (by decide +kernel)) (sl_gw_at 44 (by decide +kernel) (by decide +kernel)) (sl_gw_at 758 (by decide +kernel) (by decide +kernel)) (sl_gw_at 759 (by decide +kernel) (by decide +kernel)) ⟨by decide +kernel, by decide +kernel, by decide +kernel⟩ ⟨by decide, by decide⟩ rfl hcs g1 (fun _ _ => ⟨by show _ ≤ 601024; omega, by show _ ≤ 7293034; omega⟩) (hKok _ _ h2) H locs ls q1 q2 q3 q4
  rw [Bool.cond_eq_ite] at h
  split at h
  · rename_i hpc
    have hpc := Nat.eq_of_beq_eq_true hpc
    obtain ⟨a0, a1, a2, r, x1, hS, hcs, h1, h2⟩ := sl_w5_in h
    have g1 := sl_wA_mo h1
    have g2 : x1.2.2.1 ≤ x.2.2.1 ∧ x1.2.2.2 ≤ x.2.2.2 := hK _ _ h2
    rw [hS, hpc]
    rw [hpc] at h2
    intro H locs ls q1 q2 q3 q4
    exact sl_wcall (as := [.inr (.inl (some (10, 0))), .inl a0, .inl a1, .inl a2, .inr (.inl (some (40, 0)))]) (r := r) (m := m) (x1 := x1) (n := 5) hC hKK (fun _ _ => rfl) (by decide +kernel : decode cL_law 582 = .ok (.invokestatic 86, 3)) (wm_frame hst hbl h1 q4) (sl_gw_at 767 (by decide +kernel) (by decide +kernel)) (sl_gw_at 44 (by decide +kernel) (by decide +kernel)) (sl_gw_at 765 (by decide +kernel) (by decide +kernel)) (sl_gw_at 766 (by decide +kernel) (by decide +kernel)) ⟨by decide +kernel, by decide +kernel, by decide +kernel⟩ ⟨by decide, by decide⟩ rfl hcs g1 (fun _ _ => ⟨by show _ ≤ 601024; omega, by show _ ≤ 7293034; omega⟩) (hKok _ _ h2) H locs ls q1 q2 q3 q4
  rw [Bool.cond_eq_ite] at h
  split at h
  · rename_i hpc
    have hpc := Nat.eq_of_beq_eq_true hpc
    obtain ⟨a0, a1, a2, r, x1, hS, hcs, h1, h2⟩ := sl_w5_in h
    have g1 := sl_wA_mo h1
    have g2 : x1.2.2.1 ≤ x.2.2.1 ∧ x1.2.2.2 ≤ x.2.2.2 := hK _ _ h2
    rw [hS, hpc]
    rw [hpc] at h2
    intro H locs ls q1 q2 q3 q4
    exact sl_wcall (as := [.inr (.inl (some (10, 0))), .inl a0, .inl a1, .inl a2, .inr (.inl (some (40, 0)))]) (r := r) (m := m) (x1 := x1) (n := 5) hC hKK (fun _ _ => rfl) (by decide +kernel : decode cL_law 662 = .ok (.invokestatic 89, 3)) (wm_octet hst hbl h1 q4) (sl_gw_at 774 (by decide +kernel) (by decide +kernel)) (sl_gw_at 44 (by decide +kernel) (by decide +kernel)) (sl_gw_at 772 (by decide +kernel) (by decide +kernel)) (sl_gw_at 773 (by decide +kernel) (by decide +kernel)) ⟨by decide +kernel, by decide +kernel, by decide +kernel⟩ ⟨by decide, by decide⟩ rfl hcs g1 (fun _ _ => ⟨by show _ ≤ 601024; omega, by show _ ≤ 7293034; omega⟩) (hKok _ _ h2) H locs ls q1 q2 q3 q4
  rw [Bool.cond_eq_ite] at h
  split at h
  · rename_i hpc
    have hpc := Nat.eq_of_beq_eq_true hpc
    obtain ⟨a0, r, x1, hS, hcs, h1, h2⟩ := sl_w3_in h
    have g1 := sl_wA_mo h1
    have g2 : x1.2.2.1 ≤ x.2.2.1 ∧ x1.2.2.2 ≤ x.2.2.2 := hK _ _ h2
    rw [hS, hpc]
    rw [hpc] at h2
    intro H locs ls q1 q2 q3 q4
    exact sl_wcall (as := [.inr (.inl (some (10, 0))), .inl a0, .inr (.inl (some (40, 0)))]) (r := r) (m := m) (x1 := x1) (n := 3) hC hKK (fun _ _ => rfl) (by decide +kernel : decode cL_law 730 = .ok (.invokestatic 92, 3)) (wm_line hst hbl h1 q4) (sl_gw_at 781 (by decide +kernel) (by decide +kernel)) (sl_gw_at 44 (by decide +kernel) (by decide +kernel)) (sl_gw_at 779 (by decide +kernel) (by decide +kernel)) (sl_gw_at 780 (by decide +kernel) (by decide +kernel)) ⟨by decide +kernel, by decide +kernel, by decide +kernel⟩ ⟨by decide, by decide⟩ rfl hcs g1 (fun _ _ => ⟨by show _ ≤ 601024; omega, by show _ ≤ 7293034; omega⟩) (hKok _ _ h2) H locs ls q1 q2 q3 q4
  rw [Bool.cond_eq_ite] at h
  split at h
  · rename_i hpc
    have hpc := Nat.eq_of_beq_eq_true hpc
    obtain ⟨a0, a1, r, x1, hS, hcs, h1, h2⟩ := sl_w4_in h
    have g1 := sl_wA_mo h1
    have g2 : x1.2.2.1 ≤ x.2.2.1 ∧ x1.2.2.2 ≤ x.2.2.2 := hK _ _ h2
    rw [hS, hpc]
    rw [hpc] at h2
    intro H locs ls q1 q2 q3 q4
    exact sl_wcall (as := [.inr (.inl (some (10, 0))), .inl a0, .inl a1, .inr (.inl (some (40, 0)))]) (r := r) (m := m) (x1 := x1) (n := 4) hC hKK (fun _ _ => rfl) (by decide +kernel : decode cL_law 792 = .ok (.invokestatic 95, 3)) (wm_state hst hbl h1 q4) (sl_gw_at 788 (by decide +kernel) (by decide +kernel)) (sl_gw_at 44 (by decide +kernel) (by decide +kernel)) (sl_gw_at 786 (by decide +kernel) (by decide +kernel)) (sl_gw_at 787 (by decide +kernel) (by decide +kernel)) ⟨by decide +kernel, by decide +kernel, by decide +kernel⟩ ⟨by decide, by decide⟩ rfl hcs g1 (fun _ _ => ⟨by show _ ≤ 601024; omega, by show _ ≤ 7293034; omega⟩) (hKok _ _ h2) H locs ls q1 q2 q3 q4
  rw [Bool.cond_eq_ite] at h
  split at h
  · rename_i hpc
    have hpc := Nat.eq_of_beq_eq_true hpc
    obtain ⟨a0, a1, r, x1, hS, hcs, h1, h2⟩ := sl_w4_in h
    have g1 := sl_wA_mo h1
    have g2 : x1.2.2.1 ≤ x.2.2.1 ∧ x1.2.2.2 ≤ x.2.2.2 := hK _ _ h2
    rw [hS, hpc]
    rw [hpc] at h2
    intro H locs ls q1 q2 q3 q4
    exact sl_wcall (as := [.inr (.inl (some (10, 0))), .inl a0, .inl a1, .inr (.inl (some (40, 0)))]) (r := r) (m := m) (x1 := x1) (n := 4) hC hKK (fun _ _ => rfl) (by decide +kernel : decode cL_law 860 = .ok (.invokestatic 99, 3)) (wm_taken hst hbl h1 q4) (sl_gw_at 803 (by decide +kernel) (by decide +kernel)) (sl_gw_at 44 (by decide +kernel) (by decide +kernel)) (sl_gw_at 801 (by decide +kernel) (by decide +kernel)) (sl_gw_at 802 (by decide +kernel) (by decide +kernel)) ⟨by decide +kernel, by decide +kernel, by decide +kernel⟩ ⟨by decide, by decide⟩ rfl hcs g1 (fun _ _ => ⟨by show _ ≤ 601024; omega, by show _ ≤ 7293034; omega⟩) (hKok _ _ h2) H locs ls q1 q2 q3 q4
  exact sl_LX_or h (hXok S m)
theorem sl_LI_st (hst : l.stackTraces = false) (hbl : b < s.heap.size) (hKK : sl_KK D cA s.heap.size s) (hx1 : x.1 = (1, 0, 0)) (hXst : ∀ S m, X S m = some x → m.2.1 ≤ x.2.2.1 ∧ m.2.2 ≤ x.2.2.2) (S : sl_S) (m : sl_L) (h : sl_LI L xs X S m = some x) : m.2.1 ≤ x.2.2.1 ∧ m.2.2 ≤ x.2.2.2 := sl_Lst hst hbl hKK hx1 (sl_LC_st hst hbl hKK hx1 hXst) _ _ _ h
theorem sl_LI_ok (hst : l.stackTraces = false) (hX : va_X b L xs s s.heap) (hbl : b < s.heap.size) (hC : sl_Cx p s mid #[Value.ref b] c cL_law 7 RL D cA) (hKK : sl_KK D cA s.heap.size s) (hend : ∀ (pc : Nat) (H : Heap) (ls : Array Slot), decode cL_law pc = .ok (.ireturn, 1) → W p l e room_1 s mid #[Value.ref b] below meth c H [] 601024 7293034 Q (F0 mid pc ls [.int 1])) (hlk : meth.locks = false) (hx1 : x.1 = (1, 0, 0)) (hR : x.2.2.1 ≤ 601024 ∧ x.2.2.2 ≤ 7293034) (hXst : ∀ S m, X S m = some x → m.2.1 ≤ x.2.2.1 ∧ m.2.2 ≤ x.2.2.2) (hXok : ∀ S m, X S m = some x → sl_G p l e room_1 s mid #[Value.ref b] below meth c (sl_ad s.heap.size b) s.heap.size 331 s.heap D cA sl_ln sl_rdL sl_VL sl_ML sl_cL sl_sL 7 x Q m0 S m) (S : sl_S) (m : sl_L) (h : sl_LI L xs X S m = some x) : sl_G p l e room_1 s mid #[Value.ref b] below meth c (sl_ad s.heap.size b) s.heap.size 331 s.heap D cA sl_ln sl_rdL sl_VL sl_ML sl_cL sl_sL 7 x Q m0 S m := sl_Lok hst hX hbl hC hKK hend hlk hx1 hR (sl_LC_st hst hbl hKK hx1 hXst) (sl_LC_ok hst hX hbl hC hKK hend hlk hx1 hR hXst hXok) _ _ _ h
end SLLZ
