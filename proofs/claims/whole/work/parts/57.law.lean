/-! ===== the law's runs ===== -/
def sl_LS (tb : Nat → Option sl_E) (N : Nat) : Bool := (List.range N).all (fun pc => match tb pc with
  | some (k, _, j, _, _) => decide ((k = 3 ∨ k = 4 → j < 7) ∧ k ≠ 59 ∧ k ≠ 60 ∧ k ≠ 61 ∧ k ≠ 48 ∧ k ≠ 49 ∧ k ≠ 50 ∧ k ≠ 56 ∧ (k = 55 → j = 103) ∧ (k = 47 → j = 2))
  | none => true)
set_option maxRecDepth 100000 in
theorem sl_LS_L : sl_LS tb_L 1036 = true := by decide +kernel
theorem sl_LS_at {pc k j n : Nat} {a : Int32} {ts : List Nat} (ht : tb_L pc = some (k, a, j, n, ts)) : (k = 3 ∨ k = 4 → j < 7) ∧ k ≠ 59 ∧ k ≠ 60 ∧ k ≠ 61 ∧ k ≠ 48 ∧ k ≠ 49 ∧ k ≠ 50 ∧ k ≠ 56 ∧ (k = 55 → j = 103) ∧ (k = 47 → j = 2) := by
  have hlt : pc < 1036 := by
    rcases Nat.lt_or_ge pc 1036 with q | q
    · exact q
    · rw [tb_L_N pc q] at ht; cases ht
  have h1 := List.all_eq_true.mp sl_LS_L pc (List.mem_range.mpr hlt)
  rw [ht] at h1
  exact of_decide_eq_true h1
def sl_Lr (L : Nat) (xs : Nat → Int32) (stop : Nat → Bool) (C9 : sl_S → sl_L → Option (sl_PL × sl_L)) (N : Nat) (S : sl_S) (m : sl_L) : Option (sl_PL × sl_L) := sl_run tb_L (fun _ => none) (fun _ => none) cl_LL (fun _ => none) sl_rdL sl_wrL sl_alL sl_ln L xs (fun y => sl_lf (fa_L y)) stop C9 N S m
section SLLW
variable {p : Program} {l : Launch} {e : Env} {s : State} {mid : MethodId} {below : List Frame} {meth : Method} {c : Code} {b L : Nat} {xs : Nat → Int32} {D : va_G} {cA : Nat → ClassId} {x : sl_PL × sl_L} {m0 : sl_L} {Q : State → Prop}
theorem sl_Lok {stop : Nat → Bool} {C9 : sl_S → sl_L → Option (sl_PL × sl_L)} (hst : l.stackTraces = false) (hX : va_X b L xs s s.heap) (hbl : b < s.heap.size) (hC : sl_Cx p s mid #[Value.ref b] c cL_law 7 RL D cA) (hKK : sl_KK D cA s.heap.size s) (hend : ∀ (pc : Nat) (H : Heap) (ls : Array Slot), decode cL_law pc = .ok (.ireturn, 1) → W p l e room_1 s mid #[Value.ref b] below meth c H [] 601024 7293034 Q (F0 mid pc ls [.int 1])) (hlk : meth.locks = false) (hx1 : x.1 = (1, 0, 0)) (hR : x.2.2.1 ≤ 601024 ∧ x.2.2.2 ≤ 7293034)
    (hCst : ∀ S m, C9 S m = some x → m.2.1 ≤ x.2.2.1 ∧ m.2.2 ≤ x.2.2.2) (hCC : ∀ S m, C9 S m = some x → sl_G p l e room_1 s mid #[Value.ref b] below meth c (sl_ad s.heap.size b) s.heap.size 331 s.heap D cA sl_ln sl_rdL sl_VL sl_ML sl_cL sl_sL 7 x Q m0 S m) (N : Nat) (S : sl_S) (m : sl_L) (h : sl_Lr L xs stop C9 N S m = some x) :
    sl_G p l e room_1 s mid #[Value.ref b] below meth c (sl_ad s.heap.size b) s.heap.size 331 s.heap D cA sl_ln sl_rdL sl_VL sl_ML sl_cL sl_sL 7 x Q m0 S m := by
  have hx2 : x.1.2.2 ≠ 2 := by rw [hx1]; exact (by decide : (0 : Nat) ≠ 2)
  have hRc : x.2.2.1 - m0.2.1 ≤ 601024 ∧ x.2.2.2 - m0.2.2 ≤ 7293034 := ⟨by omega, by omega⟩
  refine sl_run_ok (th9 := 1) (ck := ck_L) hC hKK (sl_memL hbl) sl_moL (fun _ _ => rfl) (fun pc E ht => ok_L ht) (fun pc k a j n ts ht => ?_) (fun j ci k h => by cases h) (fun j ci k t h => by cases h) (fun j ci h => by cases h) (fun j y na rk rc th rv e => ?_) (fun _ _ _ _ _ _ _ _ _ => Nat.one_ne_zero) (fun p k a j n ts e h56 => absurd h56 (sl_LS_at e).2.2.2.2.2.2.2.1)
    ⟨by rw [if_neg hx2]; exact hRc.1, by rw [if_neg hx2]; exact hRc.2⟩ (fun h => absurd h hx2) (fun h => absurd h hx2) hlk (fun X pc lo st m1 k a j n ts ht hk ih hop => ?_) (fun S m h => ⟨(hCst S m h).1, (hCst S m h).2, fun _ => hx2⟩) hCC N S m h
  · obtain ⟨g1, g2, g3, g4, -, -, -, -, g5, -⟩ := sl_LS_at ht
    exact ⟨g1, fun h => absurd h g2, fun h => absurd h g3, fun h => by rw [g5 h]; exact ⟨by decide, fun ty h => by cases ty <;> first | exact absurd h (by decide) | exact sl_gw_at 1123 (by decide +kernel) (by decide +kernel)⟩, fun h => absurd h g4⟩
  · obtain ⟨Y1, B1, mL1, ret1, fr1, lc1, q1, q2, q3⟩ := hL_L hst hbl _ (sl_tC_at nC_L tC_L e)
    exact ⟨Y1, B1, mL1, ret1, fr1, lc1, q1, q2, q3.1, q3.2⟩
  · have hd9 := ok_L ht
    obtain ⟨-, -, -, -, g48, g49, g50, g56, -, g47⟩ := sl_LS_at ht
    obtain ⟨hx, hb9, -⟩ := hC
    simp only [List.contains_cons, List.contains_nil, Bool.or_false, Bool.or_eq_true, beq_iff_eq] at hk
    rcases hk with rfl | rfl | rfl | rfl | rfl | rfl | rfl
    · obtain ⟨hdg, rfl⟩ := sl_d1 hd9 rfl
      have hj := g47 rfl
      subst hj
      replace hop : sl_iret st m1 2 = some x := hop
      unfold sl_iret at hop
      split at hop
      · rename_i v
        replace hop : (if v = 0 ∨ v = 1 then some ((v, 0, 0), m1) else none) = some x := hop
        split at hop
        · cases hop
          have hv : v = 1 := congrArg Prod.fst hx1
          subst hv
          intro H locs ls a1 a2 a3 a4 a5 a6 a7 a8 a9 a10
          refine va_forget (fun q hq => a10 q hq) (W.widen (k := 601024) (n := 7293034) hRc.1 hRc.2 ?_)
          exact hend _ _ _ hdg
        · cases hop
      · cases hop
    · exact absurd rfl g48
    · exact absurd rfl g49
    · exact absurd rfl g50
    · exact absurd rfl g56
    · obtain ⟨hdg, rfl⟩ := sl_d1 hd9 rfl
      replace hop : sl_sld X pc 1 lo st m1 L xs = some x := hop
      unfold sl_sld at hop
      split at hop
      · rename_i i q r
        rw [Bool.cond_eq_ite] at hop
        split at hop
        · rename_i h41
          split at hop
          · rename_i hin
            have g := ih _ _ hop
            intro H locs ls a1 a2 a3 a4 a5 a6 a7 a8 a9 a10
            have gg := g H locs ls a1 a2 a3 a4 a5 a6 a7 a8 (fun q hq => a9 q (by
              rcases List.mem_cons.mp hq with hq | hq
              · cases hq
              · exact List.mem_cons_of_mem _ (List.mem_cons_of_mem _ hq))) a10
            have e41 : sl_v (sl_ad s.heap.size b) (.inr (.inl (some q))) = .ref b := by
              show Value.ref (sl_ad s.heap.size b q.1 q.2) = _
              unfold sl_ad
              rw [h41]; rfl
            dsimp only
            rw [List.map_cons, List.map_cons, e41]
            exact va_sld (A := fun q => s.heap.size ≤ q) hx hb9 hX hbl (Nat.not_le.mpr hbl) ⟨a5, fun q hq _ => a6.2.2.1 q hq, fun z hz => a10 z hz⟩ (fun h => by
              rcases h with h | h
              · exact absurd hin.1 (Int32.not_le.mpr h)
              · exact absurd hin.2 (Nat.not_lt.mpr h)) hdg gg
          · cases hop
        · cases hop
      · cases hop
    · obtain ⟨hdg, rfl⟩ := sl_d1 hd9 rfl
      replace hop : sl_sln X pc 1 lo st m1 L = some x := hop
      unfold sl_sln at hop
      split at hop
      · rename_i q r
        rw [Bool.cond_eq_ite] at hop
        split at hop
        · rename_i h41
          have g := ih _ _ hop
          intro H locs ls a1 a2 a3 a4 a5 a6 a7 a8 a9 a10
          have gg := g H locs ls a1 a2 a3 a4 a5 a6 a7 a8 (fun q hq => a9 q (by
            rcases List.mem_cons.mp hq with hq | hq
            · cases hq
            · exact List.mem_cons_of_mem _ hq)) a10
          have e41 : sl_v (sl_ad s.heap.size b) (.inr (.inl (some q))) = .ref b := by
            show Value.ref (sl_ad s.heap.size b q.1 q.2) = _
            unfold sl_ad
            rw [h41]; rfl
          dsimp only
          rw [List.map_cons, e41]
          exact va_slen (A := fun q => s.heap.size ≤ q) hx hb9 hX hbl (Nat.not_le.mpr hbl) ⟨a5, fun q hq _ => a6.2.2.1 q hq, fun z hz => a10 z hz⟩ hdg gg
        · cases hop
      · cases hop
end SLLW
