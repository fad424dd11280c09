/-! ===== one round of the law, whole; the rounds one behind the other ===== -/
theorem y_round_n (K : Nat) (c d : sl_M) (hK : K < 8000) (h : y_R K c d) : ∃ (a : Int32) (c' : sl_M), f_X10_round c = some ((a, 0, 0), c') := by
  obtain ⟨c1, d1, a, r1, r2, r3, r4, r5, r6⟩ := y_ticks K c (sl_up d 11 0 0 (sl_i 0)) (by omega) (y_R_thr h)
  obtain ⟨mo, sp, wi, si, ti, fi, n, nh, hW⟩ := y_R_W r3
  have hn0 := (hW.2.2 0 (by omega)).1.2.1.2.1.2.2
  have hn1 := (hW.2.2 1 (by omega)).1.2.1.2.1.2.2
  have hgo : ∃ c' d' a, b_X10_round_9 99999 (sl_i 0) (sl_i 0) c1 = some ((sl_i a, 0, 0), c') ∧ b_X11_round_12 99999 (sl_i 0) d1 = some ((sl_i a, 0, 0), d') ∧ y_R (K + 1) c' d' ∧ y_sm y_zc c1 c' ∧ y_sm y_zm d1 d' ∧ d'.1 11 0 0 = d1.1 11 0 0 := by
    by_cases h0 : n 0 = 0
    · exact y_r2 mo sp wi si ti (K + 1) (by omega) 90 0 0 99999 99999 fi n nh c1 d1 (by omega) (by omega) (by omega) (by omega) hW (fun j hj => by omega) (by split <;> omega)
    · exact y_r1 mo sp wi si ti (K + 1) (by omega) (n 0 - 1) 0 0 99999 99999 fi n nh c1 d1 (by omega) (by omega) (by omega) (by omega) (by omega) hW
  obtain ⟨c', d', b, s1, s2, s3, s4, s5, s6⟩ := hgo
  refine ⟨sl_i b, c', ?_⟩
  rw [e_X10_round, r1, ob_some]; exact s1
theorem y_R_up {K : Nat} {c d : sl_M} (h : y_R K c d) : y_R (K + 1) c d := by
  have hT : y_gT c d := by obtain ⟨mo, sp, wi, si, ti, h1, h2, h3⟩ := h; exact h2
  exact y_R_T (K' := K + 1) h (Nat.le_succ K) (y_sm_refl _ _) (y_sm_refl _ _) hT
section SLLZ
variable {K L n : Nat} {xs : Nat → Int32} {X : sl_S → sl_L → Option (sl_PL × sl_L)} {u w : Option sl_V} {m : sl_L} {b base : Nat} {Hb : Heap} {D : va_G} {cA : Nat → ClassId} {l : Launch}
def sl_ZP (K L n : Nat) (xs : Nat → Int32) (X : sl_S → sl_L → Option (sl_PL × sl_L)) (u w : Option sl_V) (m : sl_L) (t : Nat) : Prop := ∃ (m2 : sl_L) (u' w' : Option sl_V), y_R (K + 1) m2.1 m2.1 ∧ m2.2.1 ≤ m.2.1 + 1 ∧ m2.2.2 ≤ m.2.2 + 6 ∧ sl_Lg L xs fa_L sl_stp (sl_LC L xs X) 388 (t, sl_lo7 (sl_i n) u w, []) m = X (23, sl_lo7 (sl_i n + 6) u' w', []) m2
theorem lr_open (hst : l.stackTraces = false) (hb : b < base) (Hb : Heap) (D : va_G) (cA : Nat → ClassId) (hL : L ≤ 3072) (hn : n + 6 ≤ L) (hK : K ≤ 600) (h : y_R K m.1 m.1) : sl_ZP K L n xs X u w m 136 := by
  obtain ⟨m2, h1, h2⟩ := lz_open (X := X) (u := u) (w := w) hL hn (fun c d q => q_open K _ _ _ _ _ c d q) (fun x hx => ((sc_X10_open (Hb := Hb) (D := D) (cA := cA) hst hb).1 [.inr (.inl (some (10, 0))), .inl (xs (n + 1)), .inl (xs (n + 2)), .inl (xs (n + 3)), .inl (xs (n + 4)), .inl (xs (n + 5))] m.1 x hx).2.2 rfl) h
  exact ⟨(m2, m.2), u, w, h1, Nat.le_succ _, Nat.le_add_right _ _, h2⟩
theorem lr_feed (hst : l.stackTraces = false) (hb : b < base) (Hb : Heap) (D : va_G) (cA : Nat → ClassId) (hL : L ≤ 3072) (hn : n + 6 ≤ L) (hK : K ≤ 600) (h : y_R K m.1 m.1) : sl_ZP K L n xs X u w m 209 := by
  obtain ⟨m2, h1, h2⟩ := lz_feed (X := X) (u := u) (w := w) hL hn (fun c d q => q_feed K _ _ _ _ _ c d q) (fun x hx => ((sc_X10_feed (Hb := Hb) (D := D) (cA := cA) hst hb).1 [.inr (.inl (some (10, 0))), .inl (xs (n + 1)), .inl (xs (n + 2)), .inl (xs (n + 3)), .inl (xs (n + 4)), .inl (xs (n + 5))] m.1 x hx).2.2 rfl) h
  exact ⟨(m2, m.2), u, w, h1, Nat.le_succ _, Nat.le_add_right _ _, h2⟩
theorem lr_cut (hst : l.stackTraces = false) (hb : b < base) (Hb : Heap) (D : va_G) (cA : Nat → ClassId) (hL : L ≤ 3072) (hn : n + 6 ≤ L) (hK : K ≤ 600) (h : y_R K m.1 m.1) : sl_ZP K L n xs X u w m 282 := by
  obtain ⟨m2, h1, h2⟩ := lz_cut (X := X) (u := u) (w := w) hL hn (fun c d q => q_cut K _ c d q) (fun x hx => ((sc_X10_cut (Hb := Hb) (D := D) (cA := cA) hst hb).1 [.inr (.inl (some (10, 0))), .inl (xs (n + 1))] m.1 x hx).2.2 rfl) h
  exact ⟨(m2, m.2), u, w, h1, Nat.le_succ _, Nat.le_add_right _ _, h2⟩
theorem lr_take (hst : l.stackTraces = false) (hb : b < base) (Hb : Heap) (D : va_G) (cA : Nat → ClassId) (hL : L ≤ 3072) (hn : n + 6 ≤ L) (hK : K ≤ 600) (h : y_R K m.1 m.1) : sl_ZP K L n xs X u w m 307 := by
  obtain ⟨m2, h1, h2⟩ := lz_take (X := X) (u := u) (w := w) hL hn (fun c d q => q_take K c d q) (fun x hx => ((sc_X10_take (Hb := Hb) (D := D) (cA := cA) hst hb).1 [.inr (.inl (some (10, 0)))] m.1 x hx).2.2 rfl) h
  exact ⟨(m2, m.2), u, w, h1, Nat.le_succ _, Nat.le_add_right _ _, h2⟩
theorem lr_give (hL : L ≤ 3072) (hn : n + 6 ≤ L) (hK : K ≤ 600) (h : y_R K m.1 m.1) : sl_ZP K L n xs X u w m 320 :=
  lz_give (X := X) (u := u) (w := w) hL hn (fun c d q => q_give K _ c d q) h
theorem lr_tick (hst : l.stackTraces = false) (hb : b < base) (Hb : Heap) (D : va_G) (cA : Nat → ClassId) (hL : L ≤ 3072) (hn : n + 6 ≤ L) (hK : K ≤ 600) (h : y_R K m.1 m.1) : sl_ZP K L n xs X u w m 376 := by
  obtain ⟨m2, h1, h2⟩ := lz_tick (X := X) (u := u) (w := w) hL hn (fun c d q => q_tick K c d (by omega) q) (fun x hx => ((sc_X10_tick (Hb := Hb) (D := D) (cA := cA) hst hb).1 [.inr (.inl (some (10, 0)))] m.1 x hx).2.2 rfl) h
  exact ⟨(m2, m.2), u, w, h1, Nat.le_succ _, Nat.le_add_right _ _, h2⟩
theorem lr_carry (hL : L ≤ 3072) (hn : n + 6 ≤ L) (hK : K ≤ 600) (h : y_R K m.1 m.1) : sl_ZP K L n xs X u w m 389 :=
  lz_carry (X := X) (u := u) (w := w) hL hn (fun c d q => q_carry K _ _ _ c d (by omega) q) h
theorem lr_round (hst : l.stackTraces = false) (hb : b < base) (Hb : Heap) (D : va_G) (cA : Nat → ClassId) (hL : L ≤ 3072) (hn : n + 6 ≤ L) (hK : K ≤ 600) (h : y_R K m.1 m.1) : sl_ZP K L n xs X u w m 469 := by
  obtain ⟨m2, h1, h2⟩ := lz_round (X := X) (u := u) (w := w) hL hn (fun c d q => q_round K c d (by omega) q) (fun x hx => by
    obtain ⟨a, c', e⟩ := y_round_n K m.1 m.1 (by omega) h
    rw [e] at hx
    cases hx
    exact (show ¬ ((0 : Nat) = 2) by decide)) h
  exact ⟨(m2, m.2), u, w, h1, Nat.le_succ _, Nat.le_add_right _ _, h2⟩
theorem lr_noise (hL : L ≤ 3072) (hn : n + 6 ≤ L) (hK : K ≤ 600) (h : y_R K m.1 m.1) : sl_ZP K L n xs X u w m 482 :=
  lz_noise (X := X) (u := u) (w := w) hL hn (fun c d q => q_noise K _ _ _ c d (by omega) q) h
theorem lr_frame (hL : L ≤ 3072) (hn : n + 6 ≤ L) (hK : K ≤ 600) (h : y_R K m.1 m.1) : sl_ZP K L n xs X u w m 562 :=
  lz_frame (X := X) (u := u) (w := w) hL hn (fun c d q => q_frame K _ _ _ c d q) h
theorem lr_octet (hL : L ≤ 3072) (hn : n + 6 ≤ L) (hK : K ≤ 600) (h : y_R K m.1 m.1) : sl_ZP K L n xs X u w m 642 :=
  lz_octet (X := X) (u := u) (w := w) hL hn (fun c d q => q_octet K _ _ _ c d q) h
theorem lr_line (hL : L ≤ 3072) (hn : n + 6 ≤ L) (hK : K ≤ 600) (h : y_R K m.1 m.1) : sl_ZP K L n xs X u w m 722 :=
  lz_line (X := X) (u := u) (w := w) hL hn (fun c d q => q_line K _ c d q) h
theorem lr_state (hL : L ≤ 3072) (hn : n + 6 ≤ L) (hK : K ≤ 600) (h : y_R K m.1 m.1) : sl_ZP K L n xs X u w m 778 :=
  lz_state (X := X) (u := u) (w := w) hL hn (fun c d q => q_state K _ _ c d (by omega) q) h
theorem lr_taken (hL : L ≤ 3072) (hn : n + 6 ≤ L) (hK : K ≤ 600) (h : y_R K m.1 m.1) : sl_ZP K L n xs X u w m 846 :=
  lz_taken (X := X) (u := u) (w := w) hL hn (fun c d q => q_taken K _ _ c d q) h
theorem lr_count (hst : l.stackTraces = false) (hb : b < base) (Hb : Heap) (D : va_G) (cA : Nat → ClassId) (hL : L ≤ 3072) (hn : n + 6 ≤ L) (hK : K ≤ 600) (h : y_R K m.1 m.1) : sl_ZP K L n xs X u w m 914 := by
  obtain ⟨m2, h1, h2⟩ := lz_count (X := X) (u := u) (w := w) hL hn (fun c d q => q_count K _ c d q) (fun x hx => ((sc_X10_count (Hb := Hb) (D := D) (cA := cA) hst hb).1 [.inr (.inl (some (10, 0))), .inl (xs (n + 1))] m.1 x hx).2.2 rfl) h
  exact ⟨(m2, m.2), u, w, h1, Nat.le_succ _, Nat.le_add_right _ _, h2⟩
theorem lr_stuff (hst : l.stackTraces = false) (hb : b < base) (Hb : Heap) (D : va_G) (cA : Nat → ClassId) (hL : L ≤ 3072) (hn : n + 6 ≤ L) (hK : K ≤ 600) (h : y_R K m.1 m.1) : sl_ZP K L n xs X u w m 939 := by
  obtain ⟨m2, h1, h2⟩ := lz_stuff (X := X) (u := u) (w := w) hL hn (fun c d q => q_stuff K c d q) (fun x hx => ((sc_X10_stuff (Hb := Hb) (D := D) (cA := cA) hst hb).1 [.inr (.inl (some (10, 0)))] m.1 x hx).2.2 rfl) h
  exact ⟨(m2, m.2), u, w, h1, Nat.le_succ _, Nat.le_add_right _ _, h2⟩
theorem lr_unstuff (hst : l.stackTraces = false) (hb : b < base) (Hb : Heap) (D : va_G) (cA : Nat → ClassId) (hL : L ≤ 3072) (hn : n + 6 ≤ L) (hK : K ≤ 600) (h : y_R K m.1 m.1) : sl_ZP K L n xs X u w m 952 := by
  obtain ⟨m2, h1, h2⟩ := lz_unstuff (X := X) (u := u) (w := w) hL hn (fun c d q => q_unstuff K c d q) (fun x hx => ((sc_X10_unstuff (Hb := Hb) (D := D) (cA := cA) hst hb).1 [.inr (.inl (some (10, 0)))] m.1 x hx).2.2 rfl) h
  exact ⟨(m2, m.2), u, w, h1, Nat.le_succ _, Nat.le_add_right _ _, h2⟩
theorem lr_fault (hst : l.stackTraces = false) (hb : b < base) (Hb : Heap) (D : va_G) (cA : Nat → ClassId) (hL : L ≤ 3072) (hn : n + 6 ≤ L) (hK : K ≤ 600) (h : y_R K m.1 m.1) : sl_ZP K L n xs X u w m 965 := by
  obtain ⟨m2, h1, h2⟩ := lz_fault (X := X) (u := u) (w := w) hL hn (fun c d q => q_fault K _ c d q) (fun x hx => ((sc_X10_fault (Hb := Hb) (D := D) (cA := cA) hst hb).1 [.inr (.inl (some (10, 0))), .inl (xs (n + 1))] m.1 x hx).2.2 rfl) h
  exact ⟨(m2, m.2), u, w, h1, Nat.le_succ _, Nat.le_add_right _ _, h2⟩
theorem lr_check (hst : l.stackTraces = false) (hb : b < base) (Hb : Heap) (D : va_G) (cA : Nat → ClassId) (hL : L ≤ 3072) (hn : n + 6 ≤ L) (hK : K ≤ 600) (h : y_R K m.1 m.1) : sl_ZP K L n xs X u w m 990 := by
  obtain ⟨m2, h1, h2⟩ := lz_check (X := X) (u := u) (w := w) hL hn (fun c d q => q_check K c d q) (fun x hx => ((sc_X10_check (Hb := Hb) (D := D) (cA := cA) hst hb).1 [.inr (.inl (some (10, 0)))] m.1 x hx).2.2 rfl) h
  exact ⟨(m2, m.2), u, w, h1, Nat.le_succ _, Nat.le_add_right _ _, h2⟩
theorem lr_out (hst : l.stackTraces = false) (hb : b < base) (Hb : Heap) (D : va_G) (cA : Nat → ClassId) (hL : L ≤ 3072) (hn : n + 6 ≤ L) (hK : K ≤ 600) (h : y_R K m.1 m.1) : sl_ZP K L n xs X u w m 1003 := by
  obtain ⟨m2, h1, h2⟩ := lz_out (X := X) (u := u) (w := w) hL hn (fun c d q => q_out K _ c d q) (fun x hx => ((sc_X10_out (Hb := Hb) (D := D) (cA := cA) hst hb).1 [.inr (.inl (some (10, 0))), .inl (xs (n + 1))] m.1 x hx).2.2 rfl) h
  exact ⟨(m2, m.2), u, w, h1, Nat.le_succ _, Nat.le_add_right _ _, h2⟩
theorem lr_dflt (h : y_R K m.1 m.1) : sl_ZP K L n xs X u w m 1028 :=
  ⟨m, u, w, y_R_up h, Nat.le_succ _, Nat.le_add_right _ _, ld_law L xs fa_L X (sl_i n) u w m⟩
theorem lr_all (hst : l.stackTraces = false) (hb : b < base) (Hb : Heap) (D : va_G) (cA : Nat → ClassId) (hL : L ≤ 3072) (hn : n + 6 ≤ L) (hK : K ≤ 600) (h : y_R K m.1 m.1) {t : Nat} (ht : t ∈ [136, 209, 282, 307, 320, 376, 389, 469, 482, 562, 642, 722, 778, 846, 914, 939, 952, 965, 990, 1003]) : sl_ZP K L n xs X u w m t ∧ sl_stp t = false := by
  simp only [List.mem_cons, List.not_mem_nil, or_false] at ht
  rcases ht with h1 | h1 | h1 | h1 | h1 | h1 | h1 | h1 | h1 | h1 | h1 | h1 | h1 | h1 | h1 | h1 | h1 | h1 | h1 | h1
  · subst h1; exact ⟨lr_open hst hb Hb D cA hL hn hK h, rfl⟩
  · subst h1; exact ⟨lr_feed hst hb Hb D cA hL hn hK h, rfl⟩
  · subst h1; exact ⟨lr_cut hst hb Hb D cA hL hn hK h, rfl⟩
  · subst h1; exact ⟨lr_take hst hb Hb D cA hL hn hK h, rfl⟩
  · subst h1; exact ⟨lr_give hL hn hK h, rfl⟩
  · subst h1; exact ⟨lr_tick hst hb Hb D cA hL hn hK h, rfl⟩
  · subst h1; exact ⟨lr_carry hL hn hK h, rfl⟩
  · subst h1; exact ⟨lr_round hst hb Hb D cA hL hn hK h, rfl⟩
  · subst h1; exact ⟨lr_noise hL hn hK h, rfl⟩
  · subst h1; exact ⟨lr_frame hL hn hK h, rfl⟩
  · subst h1; exact ⟨lr_octet hL hn hK h, rfl⟩
  · subst h1; exact ⟨lr_line hL hn hK h, rfl⟩
  · subst h1; exact ⟨lr_state hL hn hK h, rfl⟩
  · subst h1; exact ⟨lr_taken hL hn hK h, rfl⟩
  · subst h1; exact ⟨lr_count hst hb Hb D cA hL hn hK h, rfl⟩
  · subst h1; exact ⟨lr_stuff hst hb Hb D cA hL hn hK h, rfl⟩
  · subst h1; exact ⟨lr_unstuff hst hb Hb D cA hL hn hK h, rfl⟩
  · subst h1; exact ⟨lr_fault hst hb Hb D cA hL hn hK h, rfl⟩
  · subst h1; exact ⟨lr_check hst hb Hb D cA hL hn hK h, rfl⟩
  · subst h1; exact ⟨lr_out hst hb Hb D cA hL hn hK h, rfl⟩
theorem sl_swz_in {Y : sl_S → sl_L → Option (sl_PL × sl_L)} {lo : List (Option sl_V)} {r : List sl_V} {j : Nat} {y : Int32} : ∀ (ts : List Nat) (i : Nat), (∃ t, t ∈ ts ∧ sl_sw Y lo m j y r i ts = Y (t, lo, r) m) ∨ sl_sw Y lo m j y r i ts = Y (j, lo, r) m
  | [], _ => .inr rfl
  | t :: ts, i => by
    unfold sl_sw
    split
    · exact .inl ⟨t, List.mem_cons_self, rfl⟩
    · rcases sl_swz_in ts (i + 1) with ⟨t', h1, h2⟩ | h2
      · exact .inl ⟨t', List.mem_cons_of_mem _ h1, h2⟩
      · exact .inr h2
theorem i_gt6 (hL : L ≤ 3072) (hn : n ≤ 3072) : (sl_i n > Int32.ofNat L - 6) = (L < n + 6) := by
  by_cases h6 : 6 ≤ L
  · rw [show Int32.ofNat L - 6 = sl_i L - sl_i 6 from rfl, i_sub h6, gt_iff_lt, i_lt (by omega) (by omega)]
    exact propext ⟨fun h => by omega, fun h => by omega⟩
  · refine (eq_true ?_).trans (eq_true (by omega : L < n + 6)).symm
    have h1 : Int32.ofNat L - 6 < sl_i 0 := by
      have h5 : ∀ k : Fin 6, Int32.ofNat k.val - 6 < sl_i 0 := by decide
      exact h5 ⟨L, by omega⟩
    have h2 : sl_i 0 ≤ sl_i n := by
      rw [i_le (by omega) (by omega)]
      exact Nat.zero_le _
    exact Int32.lt_of_lt_of_le h1 h2
theorem sl_LI_end (hL : L ≤ 3072) (hn : n ≤ 3072) (h : L < n + 6) : sl_LI L xs X (23, sl_lo7 (sl_i n) u w, []) m = some ((1, 0, 0), m) := by
  unfold sl_LI
  rw [sl_Lg_eq, lh_law, if_pos ((i_gt6 hL hn).mpr h)]
theorem sl_LI_one (hst : l.stackTraces = false) (hb : b < base) (Hb : Heap) (D : va_G) (cA : Nat → ClassId) (hL : L ≤ 3072) (hn : n + 6 ≤ L) (hK : K ≤ 600) (h : y_R K m.1 m.1) : ∃ (m2 : sl_L) (u' w' : Option sl_V), y_R (K + 1) m2.1 m2.1 ∧ m2.2.1 ≤ m.2.1 + 1 ∧ m2.2.2 ≤ m.2.2 + 6 ∧ sl_LI L xs X (23, sl_lo7 (sl_i n) u w, []) m = X (23, sl_lo7 (sl_i (n + 6)) u' w', []) m2 := by
  have e0 : sl_LI L xs X (23, sl_lo7 (sl_i n) u w, []) m = sl_tsw (fun s' m' => bif sl_stp s'.1 then sl_LC L xs X s' m' else sl_Lg L xs fa_L sl_stp (sl_LC L xs X) 388 s' m') (sl_lo7 (sl_i n) u w) [.inl (xs n &&& 31)] m 1028 [136, 209, 282, 307, 320, 376, 389, 469, 482, 562, 642, 722, 778, 846, 914, 939, 952, 965, 990, 1003] := by
    unfold sl_LI
    rw [sl_Lg_eq, lh_law, if_neg (fun q => absurd ((i_gt6 hL (by omega)).mp q) (by omega)), sl_rdx_in hL (by omega)]
  have e1 : ∀ t, sl_ZP K L n xs X u w m t → sl_stp t = false → sl_LI L xs X (23, sl_lo7 (sl_i n) u w, []) m = (fun (s' : sl_S) m' => bif sl_stp s'.1 then sl_LC L xs X s' m' else sl_Lg L xs fa_L sl_stp (sl_LC L xs X) 388 s' m') (t, sl_lo7 (sl_i n) u w, []) m → ∃ (m2 : sl_L) (u' w' : Option sl_V), y_R (K + 1) m2.1 m2.1 ∧ m2.2.1 ≤ m.2.1 + 1 ∧ m2.2.2 ≤ m.2.2 + 6 ∧ sl_LI L xs X (23, sl_lo7 (sl_i n) u w, []) m = X (23, sl_lo7 (sl_i (n + 6)) u' w', []) m2 := by
    intro t h1 h2 h3
    obtain ⟨m2, u', w', g1, g2, g3, g4⟩ := h1
    refine ⟨m2, u', w', g1, g2, g3, ?_⟩
    rw [h3]
    show (bif sl_stp t then sl_LC L xs X (t, sl_lo7 (sl_i n) u w, []) m else sl_Lg L xs fa_L sl_stp (sl_LC L xs X) 388 (t, sl_lo7 (sl_i n) u w, []) m) = _
    rw [h2, cond_false, g4, show (6 : Int32) = sl_i 6 from rfl, i_add]
  unfold sl_tsw at e0
  dsimp only at e0
  rcases sl_swz_in (m := m) (Y := fun s' m' => bif sl_stp s'.1 then sl_LC L xs X s' m' else sl_Lg L xs fa_L sl_stp (sl_LC L xs X) 388 s' m') (lo := sl_lo7 (sl_i n) u w) (r := []) (j := 1028) (y := xs n &&& 31) [136, 209, 282, 307, 320, 376, 389, 469, 482, 562, 642, 722, 778, 846, 914, 939, 952, 965, 990, 1003] 0 with ⟨t, h1, h2⟩ | h2
  · obtain ⟨g1, g2⟩ := lr_all (xs := xs) (X := X) (u := u) (w := w) hst hb Hb D cA hL hn hK h h1
    exact e1 t g1 g2 (e0.trans h2)
  · exact e1 1028 (lr_dflt h) rfl (e0.trans h2)
theorem sl_LN_run (hst : l.stackTraces = false) (hb : b < base) (Hb : Heap) (D : va_G) (cA : Nat → ClassId) (hL : L ≤ 3072) : ∀ (N K : Nat) (u w : Option sl_V) (m : sl_L), L < 6 * (K + N) → 6 * K ≤ L → y_R K m.1 m.1 → ∃ mx : sl_L, sl_LN L xs N (23, sl_lo7 (sl_i (6 * K)) u w, []) m = some ((1, 0, 0), mx) ∧ mx.2.1 ≤ m.2.1 + N ∧ mx.2.2 ≤ m.2.2 + 6 * N := by
  intro N
  induction N with
  | zero => intro K u w m h1 h2 _; omega
  | succ N ih =>
    intro K u w m h1 h2 h3
    show ∃ mx : sl_L, sl_LI L xs (sl_LN L xs N) (23, sl_lo7 (sl_i (6 * K)) u w, []) m = some ((1, 0, 0), mx) ∧ mx.2.1 ≤ m.2.1 + (N + 1) ∧ mx.2.2 ≤ m.2.2 + 6 * (N + 1)
    by_cases h4 : 6 * K + 6 ≤ L
    · obtain ⟨m2, u', w', g1, g2, g3, g4⟩ := sl_LI_one (xs := xs) (X := sl_LN L xs N) (u := u) (w := w) hst hb Hb D cA hL h4 (by omega) h3
      obtain ⟨mx, i1, i2, i3⟩ := ih (K + 1) u' w' m2 (by omega) (by omega) g1
      refine ⟨mx, ?_, by omega, by omega⟩
      rw [g4, show 6 * K + 6 = 6 * (K + 1) by omega]
      exact i1
    · exact ⟨m, sl_LI_end hL (by omega) (by omega), by omega, by omega⟩
end SLLZ
