/-! ===== the law's start: both objects and the row of one long made; then its loop ===== -/
def sl_tb0 (pc : Nat) : Option sl_E := bif Nat.blt pc 23 then tb_L pc else none
theorem sl_tb0_in {pc : Nat} {E : sl_E} (h : sl_tb0 pc = some E) : tb_L pc = some E ∧ pc < 23 := by
  unfold sl_tb0 at h
  cases hb : Nat.blt pc 23 with
  | true => rw [hb, cond_true] at h; exact ⟨h, Nat.blt_eq.mp hb⟩
  | false => rw [hb, cond_false] at h; cases h
def sl_tb0k (k : Nat) : Bool := !([47, 48, 49, 50, 56, 62, 63].contains k)
theorem sl_tb0_all : (List.range 23).all (fun pc => match tb_L pc with
  | some (k, _, _, _, _) => sl_tb0k k
  | none => true) = true := by decide +kernel
theorem sl_tb0_no {pc k j n : Nat} {a : Int32} {ts : List Nat} (h : sl_tb0 pc = some (k, a, j, n, ts)) (hk : [47, 48, 49, 50, 56, 62, 63].contains k = true) : False := by
  obtain ⟨h1, h2⟩ := sl_tb0_in h
  have h3 := List.all_eq_true.mp sl_tb0_all pc (List.mem_range.mpr h2)
  rw [h1] at h3
  have h4 : sl_tb0k k = true := h3
  unfold sl_tb0k at h4
  rw [hk] at h4
  cases h4
def cl_L0 (p : Nat) : Option sl_C := bif Nat.beq p 38 then some (61, 1, 0, 0, 0, 11) else bif Nat.beq p 41 then some (89, 1, 0, 0, 0, 12) else none
def fa_L0 (y : Nat) (as : List sl_V) (m : sl_D) : Option (sl_PL × sl_D) := bif Nat.beq y 61 then dF_X10_init as m else dF_X11_init as m
theorem cf0_X10 : fa_L0 61 = dF_X10_init := by
  funext as m
  unfold fa_L0
  rw [show Nat.beq 61 61 = true from rfl, cond_true]
theorem cf0_X11 : fa_L0 89 = dF_X11_init := by
  funext as m
  unfold fa_L0
  rw [show Nat.beq 89 61 = false from rfl, cond_false]
theorem hnw_L : sl_hnw RL nw_L := by
  intro j ci h
  have h1 := sl_tA (N := 40) (L := [(8, 10), (39, 11)]) (fun p h => by unfold nw_L; rw [Nat.ble_eq.mpr h]; rfl) (by decide +kernel) _ _ h
  clear h
  simp only [List.mem_cons, List.not_mem_nil, or_false] at h1
  rcases h1 with h1 | h1
  · cases h1; exact ⟨by decide, sl_gw_at 63 (by decide +kernel) (by decide +kernel), sl_gw_at 64 (by decide +kernel) (by decide +kernel), sl_gw_at 45 (by decide +kernel) (by decide +kernel)⟩
  · cases h1; exact ⟨by decide, sl_gw_at 808 (by decide +kernel) (by decide +kernel), sl_gw_at 809 (by decide +kernel) (by decide +kernel), sl_gw_at 55 (by decide +kernel) (by decide +kernel)⟩
theorem hL_L0 {base b : Nat} {Hb : Heap} {D : va_G} {cA : Nat → ClassId} {l : Launch} (hst : l.stackTraces = false) (hb : b < base) (j y na rk rc th rv : Nat) (e : cl_L0 j = some (y, na, rk, rc, th, rv)) : ∃ (Y1 : MethodName) (B1 : ByteArray) (mL1 : Nat) (ret1 : Option FieldType) (fr1 lc1 : Nat), sl_cok RL j (ck_L j) Y1 B1 mL1 ret1 na rv fr1 lc1 room_1.frames room_1.locals ∧ (th ≠ 0 → ck_L j = 0) ∧ sl_CC (sl_ad base b) base 331 Hb D cA sl_ln sl_rdD sl_VD sl_MD sl_cD sl_sD l th Y1 B1 mL1 ret1 fr1 lc1 rk rc (fa_L0 y) := by
  unfold cl_L0 at e
  cases h1 : Nat.beq j 38 with
  | true =>
    rw [h1, cond_true] at e
    cases e
    have hj := Nat.eq_of_beq_eq_true h1
    subst hj
    exact ⟨yX10_init, cX10_init, 1, (sl_rt 0 ""), 4, 87, cy2_X10_init (sl_gw_at 65 (by decide +kernel) (by decide +kernel)) ⟨by decide, by decide⟩, fun h => absurd rfl h, by rw [cf0_X10]; exact dc_X10_init hst hb⟩
  | false =>
    rw [h1, cond_false] at e
    cases h2 : Nat.beq j 41 with
    | true =>
      rw [h2, cond_true] at e
      cases e
      have hj := Nat.eq_of_beq_eq_true h2
      subst hj
      exact ⟨yX11_init, cX11_init, 4, (sl_rt 0 ""), 1, 22, cy2_X11_init (sl_gw_at 810 (by decide +kernel) (by decide +kernel)) ⟨by decide, by decide⟩, fun h => absurd rfl h, by rw [cf0_X11]; exact dc_X11_init hst hb⟩
    | false => rw [h2, cond_false] at e; cases e
section SLL0
variable {M : Type} (rd : M → Nat → Nat → Nat → sl_V) (wr : M → Nat → Nat → Nat → sl_V → Option M) (al : M → Nat → Int32 → Option ((Nat × Nat) × M)) (fa : Nat → List sl_V → M → Option (sl_PL × M)) (C9 : sl_S → M → Option (sl_PL × M))
def sl_g0 (N : Nat) (S : sl_S) (m : M) : Option (sl_PL × M) := sl_run sl_tb0 (fun _ => none) (fun _ => none) cl_L0 nw_L rd wr al sl_ln 0 (fun _ => 0) fa (fun pc => Nat.beq pc 23) C9 N S m
def sl_r0 (N : Nat) (S : sl_S) (m : M) : Option (sl_PL × M) := bif Nat.beq S.1 23 then C9 S m else sl_g0 rd wr al fa C9 N S m
theorem sl_g0_run {m d1 d3 d5 : M} {x2 x4 : sl_PL × M} (h1 : al m 10 0 = some ((10, 0), d1)) (h2 : fa 61 [.inr (.inl (some (10, 0)))] d1 = some x2) (h3 : al x2.2 11 0 = some ((11, 0), d3)) (h4 : fa 89 [.inr (.inl (some (11, 0)))] d3 = some x4) (h5 : al x4.2 103 1 = some ((40, 0), d5)) : sl_g0 rd wr al fa C9 400 (0, [some (.inr (.inl (some (41, 0)))), none, none, none, none, none, none], []) m = C9 (23, sl_lo7 0 none none, []) d5 := by
  have e1 : sl_g0 rd wr al fa C9 400 (0, [some (.inr (.inl (some (41, 0)))), none, none, none, none, none, none], []) m = sl_alo (sl_r0 rd wr al fa C9 399) 0 3 [some (.inr (.inl (some (41, 0)))), none, none, none, none, none, none] (al m 10 0) [] := rfl
  rw [e1, h1]
  have e2 : sl_alo (sl_r0 rd wr al fa C9 399) 0 3 [some (.inr (.inl (some (41, 0)))), none, none, none, none, none, none] (some ((10, 0), d1)) [] = (fa 61 [.inr (.inl (some (10, 0)))] d1).bind (fun q => sl_back (sl_r0 rd wr al fa C9 397) 4 3 [some (.inr (.inl (some (41, 0)))), none, none, none, none, none, none] 0 0 q [.inr (.inl (some (10, 0)))]) := rfl
  rw [e2, h2, Option.bind_some]
  have e3 : sl_back (sl_r0 rd wr al fa C9 397) 4 3 [some (.inr (.inl (some (41, 0)))), none, none, none, none, none, none] 0 0 x2 [.inr (.inl (some (10, 0)))] = sl_alo (sl_r0 rd wr al fa C9 395) 8 3 [some (.inr (.inl (some (41, 0)))), some (.inr (.inl (some (10, 0)))), none, none, none, none, none] (al x2.2 11 0) [] := rfl
  rw [e3, h3]
  have e4 : sl_alo (sl_r0 rd wr al fa C9 395) 8 3 [some (.inr (.inl (some (41, 0)))), some (.inr (.inl (some (10, 0)))), none, none, none, none, none] (some ((11, 0), d3)) [] = (fa 89 [.inr (.inl (some (11, 0)))] d3).bind (fun q => sl_back (sl_r0 rd wr al fa C9 393) 12 3 [some (.inr (.inl (some (41, 0)))), some (.inr (.inl (some (10, 0)))), none, none, none, none, none] 0 0 q [.inr (.inl (some (11, 0)))]) := rfl
  rw [e4, h4, Option.bind_some]
  have e5 : sl_back (sl_r0 rd wr al fa C9 393) 12 3 [some (.inr (.inl (some (41, 0)))), some (.inr (.inl (some (10, 0)))), none, none, none, none, none] 0 0 x4 [.inr (.inl (some (11, 0)))] = sl_alo (sl_r0 rd wr al fa C9 390) 17 2 [some (.inr (.inl (some (41, 0)))), some (.inr (.inl (some (10, 0)))), some (.inr (.inl (some (11, 0)))), none, none, none, none] (al x4.2 103 1) [] := rfl
  rw [e5, h5]
  rfl
end SLL0
theorem sl_L0_ok {p : Program} {l : Launch} {e : Env} {s : State} {mid : MethodId} {below : List Frame} {meth : Method} {c : Code} {b L : Nat} {xs : Nat → Int32} {D : va_G} {cA : Nat → ClassId} {Q : State → Prop} (hst : l.stackTraces = false) (hX : va_X b L xs s s.heap) (hbl : b < s.heap.size) (hC : sl_Cx p s mid #[Value.ref b] c cL_law 7 RL D cA) (hKK : sl_KK D cA s.heap.size s) (hend : ∀ (pc : Nat) (H : Heap) (ls : Array Slot), decode cL_law pc = .ok (.ireturn, 1) → W p l e room_1 s mid #[Value.ref b] below meth c H [] 601024 7293034 Q (F0 mid pc ls [.int 1])) (hlk : meth.locks = false) (hL : L ≤ 3072) :
    W p l e room_1 s mid #[Value.ref b] below meth c s.heap [] 0 0 Q (entryFrame mid ([Value.ref b] : List Value).toArray 7) := by
  obtain ⟨d1, d3, d5, x2, x4, h1, h2, h3, h4, h5, c1, c2, c3, c4⟩ := sl_made2
  obtain ⟨mx, g1, g2, g3⟩ := sl_LN_run (L := L) (xs := xs) hst hbl s.heap D cA hL 513 0 none none (sl_m0, 331, 78833) (by omega) (by omega) y_start
  have g2 : mx.2.1 ≤ 331 + 513 := g2
  have g3 : mx.2.2 ≤ 78833 + 6 * 513 := g3
  have G := sl_LN_ok (x := ((1, 0, 0), mx)) (m0 := (sl_m0, 0, 0)) (Q := Q) hst hX hbl hC hKK hend hlk rfl ⟨by show mx.2.1 ≤ 601024; omega, by show mx.2.2 ≤ 7293034; omega⟩ 513 _ _ g1
  have hrun : sl_g0 sl_rdD sl_wrD sl_alD fa_L0 (fun S m => @ite _ (S = (23, sl_lo7 0 none none, []) ∧ m = d5) (Classical.propDecidable _) (some ((1, 0, 0), d5)) none) 400 (0, [some (.inr (.inl (some (41, 0)))), none, none, none, none, none, none], []) (0, 0, [], []) = some ((1, 0, 0), d5) := by
    rw [sl_g0_run sl_rdD sl_wrD sl_alD fa_L0 _ h1 (by rw [cf0_X10]; exact h2) h3 (by rw [cf0_X11]; exact h4) h5, if_pos ⟨rfl, rfl⟩]
  have hC9 : ∀ (S : sl_S) (m : sl_D), (@ite _ (S = (23, sl_lo7 0 none none, []) ∧ m = d5) (Classical.propDecidable _) (some (((1, 0, 0), d5) : sl_PL × sl_D)) none) = some ((1, 0, 0), d5) → S = (23, sl_lo7 0 none none, []) ∧ m = d5 := by
    intro S m h
    split at h
    · rename_i q; exact q
    · cases h
  have hx2 : ¬ (((1, 0, 0), d5) : sl_PL × sl_D).1.2.2 = 2 := by
    show ¬ ((0 : Nat) = 2)
    decide
  have GD : sl_G p l e room_1 s mid #[Value.ref b] below meth c (sl_ad s.heap.size b) s.heap.size 331 s.heap D cA sl_ln sl_rdD sl_VD sl_MD sl_cD sl_sD 7 (((1, 0, 0), d5) : sl_PL × sl_D) Q (0, 0, [], []) (0, [some (.inr (.inl (some (41, 0)))), none, none, none, none, none, none], []) (0, 0, [], []) := by
    unfold sl_g0 at hrun
    refine sl_run_ok (th9 := 1) (ck := ck_L) hC hKK (sl_memD hbl) sl_moD (fun _ _ => rfl) (fun pc E ht => ok_L (sl_tb0_in ht).1) (fun pc k a j n ts ht => ?_) (fun j ci k h => by cases h) (fun j ci k t h => by cases h) hnw_L (fun j y na rk rc th rv e => ?_) (fun _ _ _ _ _ _ _ _ _ => Nat.one_ne_zero) (fun p k a j n ts e h56 => absurd h56 (sl_LS_at (sl_tb0_in e).1).2.2.2.2.2.2.2.1)
      ⟨?_, ?_⟩ (fun h => absurd h hx2) (fun h => absurd h hx2) hlk (fun X pc lo st m1 k a j n ts ht hk ih hop => (sl_tb0_no ht hk).elim) (fun S m h => ?_) (fun S m h => ?_) 400 _ _ hrun
    · obtain ⟨q1, q2, q3, q4, -, -, -, -, q5, -⟩ := sl_LS_at (sl_tb0_in ht).1
      exact ⟨q1, fun h => absurd h q2, fun h => absurd h q3, fun h => by rw [q5 h]; exact ⟨by decide, fun ty h => by cases ty <;> first | exact absurd h (by decide) | exact sl_gw_at 1123 (by decide +kernel) (by decide +kernel)⟩, fun h => absurd h q4⟩
    · obtain ⟨Y1, B1, mL1, ret1, fr1, lc1, q1, q2, q3⟩ := hL_L0 hst hbl j y na rk rc th rv e
      exact ⟨Y1, B1, mL1, ret1, fr1, lc1, q1, q2, q3.1, q3.2⟩
    · rw [if_neg hx2]
      show d5.1 - 0 + 0 ≤ 601024
      omega
    · rw [if_neg hx2]
      show d5.2.1 - 0 + 0 ≤ 7293034
      omega
    · obtain ⟨-, q⟩ := hC9 S m h
      rw [q]
      exact ⟨Nat.le_refl _, Nat.le_refl _, fun _ => hx2⟩
    · obtain ⟨q0, q⟩ := hC9 S m h
      rw [q0, q]
      intro H locs ls a1 a2 a3 a4 a5 a6 a7 a8 a9 a10
      have gg := G H locs ls (fun q h => h) (Nat.zero_le _) (Nat.zero_le _) (Nat.le_refl 331) a5 ((sl_HP_L (m := (sl_m0, 331, 78833)) (Nat.le_refl 331)).mpr (sl_HP_S c1 c3 c4 a6)) a7 (fun q hq => (a8 q hq).1) (fun q hq => (a9 q hq).1) a10
      have ec : sl_cD d5 - sl_cD (0, 0, [], []) = 331 := by show d5.1 - 0 = 331; omega
      have es : sl_sD d5 - sl_sD (0, 0, [], []) = 78833 := by show d5.2.1 - 0 = 78833; omega
      rw [ec, es]
      exact gg
  obtain ⟨ls, hls1, hls2⟩ := sl_entry (sl_ad s.heap.size b) mid (as := [.inr (.inl (some (41, 0)))]) (mL := 7) rfl (by decide)
  have hls1 : entryFrame mid ([Value.ref b] : List Value).toArray 7 = F0 mid 0 ls [] := hls1
  rw [hls1]
  refine GD s.heap [] ls (fun q h => h) (Nat.le_refl _) (Nat.le_refl _) ⟨fun e h => (List.not_mem_nil h).elim, fun e h => (List.not_mem_nil h).elim⟩ (Nat.le_refl _) ⟨?_, fun _ => rfl, fun q _ => rfl, fun c1 i1 h => ?_⟩ hls2 (fun q hq => ?_) (fun q hq => by cases hq) (fun z hz => by cases hz)
  · show s.heap.size + min 0 331 ≤ s.heap.size
    omega
  · obtain ⟨-, h9⟩ := h
    rcases h9 with h9 | h9
    · have h9 : c1 = 41 := h9
      subst h9
      exact ⟨fun h => absurd h (by decide), fun _ h => absurd rfl h⟩
    · exact absurd h9 (Nat.not_lt_zero _)
  · simp only [List.mem_cons, List.not_mem_nil, or_false, Option.some.injEq, Sum.inr.injEq, Sum.inl.injEq, reduceCtorEq] at hq
    subst hq
    exact ⟨by decide, .inl rfl⟩
