/-! class and model as they are made -/
theorem y_lk_ne (c i k : Nat) : ∀ L : List (Nat × Nat × Nat × Int32), (∀ e, e ∈ L → ¬ (e.1 = c ∧ e.2.1 = i ∧ e.2.2.1 = k)) → sl_lk L c i k = sl_i 0
  | [], _ => rfl
  | e :: r, h => by
    have h1 : (Nat.beq e.1 c && (Nat.beq e.2.1 i && Nat.beq e.2.2.1 k)) = false := by
      have h2 := h e List.mem_cons_self
      cases q : (Nat.beq e.1 c && (Nat.beq e.2.1 i && Nat.beq e.2.2.1 k)) with
      | false => rfl
      | true =>
        rw [Bool.and_eq_true, Bool.and_eq_true] at q
        exact absurd ⟨Nat.eq_of_beq_eq_true q.1, Nat.eq_of_beq_eq_true q.2.1, Nat.eq_of_beq_eq_true q.2.2⟩ h2
    rw [sl_lk, h1, cond_false]
    exact y_lk_ne c i k r (fun e he => h e (List.mem_cons_of_mem _ he))
def y_m0P (k w p : Nat) : Prop := (k = 8 ∧ w = 0 ∧ p ≤ 4) ∨ (k = 3 ∧ p = 1) ∨ (k = 6 ∧ p = 1 ∧ (w = 8 ∨ w = 9)) ∨ (k = 11 ∧ w = 0 ∧ 7 ≤ p) ∨ (k = 50 ∧ w = 0 ∧ 1 ≤ p ∧ p ≤ 15)
theorem y_m0z {k w p : Nat} (h : ¬ y_m0P k w p) : sl_m0.1 k w p = sl_i 0 := by
  refine y_lk_ne k w p sl_K0 (fun e he hq => ?_)
  have hall : ∀ e, e ∈ sl_K0 → (e.1 = 8 ∧ e.2.1 = 0 ∧ e.2.2.1 ≤ 4) ∨ (e.1 = 3 ∧ e.2.2.1 = 1) ∨ (e.1 = 6 ∧ e.2.2.1 = 1 ∧ (e.2.1 = 8 ∨ e.2.1 = 9)) ∨ (e.1 = 11 ∧ e.2.1 = 0 ∧ 7 ≤ e.2.2.1) ∨ (e.1 = 50 ∧ e.2.1 = 0 ∧ 1 ≤ e.2.2.1 ∧ e.2.2.1 ≤ 15) := by decide +kernel
  have := hall e he
  unfold y_m0P at h
  omega
theorem y_m0hv : y_hv sl_m0 := by
  have : ∀ k : Fin 16, (sl_m0.1 50 0 k.val).toBitVec = y_c4 (BitVec.ofNat 32 k.val) := by decide +kernel
  intro k hk
  exact this ⟨k, hk⟩
theorem y_start : y_R 0 sl_m0 sl_m0 := by
  have hS : y_gS 1 8 4 16 3 sl_m0 sl_m0 := ⟨⟨rfl, rfl, rfl, rfl, rfl⟩, ⟨rfl, rfl, rfl, rfl, rfl⟩, by omega, by omega, by omega, by omega, by omega, by omega, by omega, by omega, by omega, by omega⟩
  have hfr : ∀ e, e < 2 → ∀ j, j < 40 → y_fr (40 * e + j) sl_m0 sl_m0 := by
    intro e he j hj
    exact ⟨0, 0, 0, 0, 0, ⟨y_m0z (by unfold y_m0P; omega), y_m0z (by unfold y_m0P; omega), by omega⟩, ⟨y_m0z (by unfold y_m0P; omega), y_m0z (by unfold y_m0P; omega)⟩, ⟨y_m0z (by unfold y_m0P; omega), y_m0z (by unfold y_m0P; omega)⟩,
      ⟨y_m0z (by unfold y_m0P; omega), y_m0z (by unfold y_m0P; omega)⟩, ⟨y_m0z (by unfold y_m0P; omega), y_m0z (by unfold y_m0P; omega), by omega⟩, fun i hi => by omega, fun h => absurd rfl h, fun h => by omega, by omega⟩
  have hN : ∀ e, e < 2 → y_E 1 8 4 16 3 e 0 0 0 sl_m0 sl_m0 ∧ y_H e 0 sl_m0 sl_m0 := by
    intro e he
    refine y_newE 1 8 4 16 3 e sl_m0 sl_m0 he hS y_m0hv (hfr e he) (y_m0z (by unfold y_m0P; omega)) (y_m0z (by unfold y_m0P; omega)) (y_m0z (by unfold y_m0P; omega)) (fun p _ _ => y_m0z (by unfold y_m0P; omega)) (y_m0z (by unfold y_m0P; omega)) (y_m0z (by unfold y_m0P; omega))
      (fun s _ => y_m0z (by unfold y_m0P; omega)) (y_m0z (by unfold y_m0P; omega)) (y_m0z (by unfold y_m0P; omega)) ?_ (fun k _ _ => y_m0z (by unfold y_m0P; omega)) (y_m0z (by unfold y_m0P; omega)) (y_m0z (by unfold y_m0P; omega)) (y_m0z (by unfold y_m0P; omega)) (y_m0z (by unfold y_m0P; omega)) (y_m0z (by unfold y_m0P; omega)) (fun s _ => y_m0z (by unfold y_m0P; omega))
    rcases y_e01 he with h | h <;> subst h <;> rfl
  refine ⟨1, 8, 4, 16, 3, fun k hk => ?_, ⟨0, 0, ⟨y_m0z (by unfold y_m0P; omega), y_m0z (by unfold y_m0P; omega), by omega, fun j hj => by omega⟩, ⟨y_m0z (by unfold y_m0P; omega), y_m0z (by unfold y_m0P; omega), by omega, fun j hj => by omega⟩, ?_, rfl⟩, fun e he => ?_⟩
  · rw [y_m0z (by unfold y_m0P; omega), y_m0z (by unfold y_m0P; omega)]
  · rw [y_m0z (by unfold y_m0P; omega), y_m0z (by unfold y_m0P; omega)]
  · exact ⟨⟨0, 0, (hN e he).1⟩, by have := (hN e he).2; exact this⟩
/-- one call of both in one memory, one behind the other -/
theorem y_call {K : Nat} {m : sl_M} {A B : sl_M → Option (sl_PL × sl_M)} (h : y_R K m m) (hq : ∀ c d, y_R K c d → y_Q K c d (A c) (B d)) :
    ∃ m1 m2, y_R (K + 1) m2 m2 ∧ m2.2 = m.2 ∧ m1.2 = m.2 ∧ ((∃ a, A m = some ((a, 0, 0), m1) ∧ B m1 = some ((a, 0, 0), m2) ∧ m2.1 11 0 0 = sl_i 0) ∨ (∃ b, A m = some ((sl_i 0, 0, 2), m1) ∧ B m1 = some ((b, 0, 0), m2) ∧ m2.1 11 0 0 = sl_i 1)) := by
  obtain ⟨c', d', _, hc, _, hA⟩ := hq m m h
  have h1 : y_R K m c' := y_R_x h (y_sm_refl _ _) hc
  obtain ⟨c2, m2, hR, hc2, hd, hB⟩ := hq m c' h1
  have hcc : c2 = c' := by
    rcases hA with ⟨a, q, _⟩ | ⟨b, q, _⟩ <;> rcases hB with ⟨a2, q2, _⟩ | ⟨b2, q2, _⟩ <;> exact (congrArg (fun z => z.2) (Option.some.inj (q2.symm.trans q)))
  subst hcc
  refine ⟨c2, m2, y_R_x hR hd (y_sm_refl _ _), by rw [hd.1, hc.1], hc.1, ?_⟩
  rcases hB with ⟨a, q1, q2, q3⟩ | ⟨b, q1, q2, q3⟩
  · exact .inl ⟨a, q1, q2, q3⟩
  · exact .inr ⟨b, q1, q2, q3⟩
