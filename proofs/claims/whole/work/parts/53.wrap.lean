/-- what the handler's three instructions are -/
def sl_hnd (cc : ByteArray) (h mL : Nat) : Prop := (∃ i, i < mL ∧ decode cc h = .ok (.astore i, 2) ∧ decode cc (h + 2) = .ok (.iconst 1, 1) ∧ decode cc (h + 2 + 1) = .ok (.ireturn, 1)) ∨ (∃ k : Fin 4, (k : Nat) < mL ∧ decode cc h = .ok (.astore_n k, 1) ∧ decode cc (h + 1) = .ok (.iconst 1, 1) ∧ decode cc (h + 1 + 1) = .ok (.ireturn, 1))
theorem sl_wMet {base b : Nat} {Hb : Heap} {D : va_G} {cA : Nat → ClassId} {l : Launch} {tb : Nat → Option sl_E} {NT P na mLw jc fr lc mL : Nat} {Y yW : MethodName} {B BW : ByteArray} {ret : Option FieldType} {F : List sl_V → sl_M → Option (sl_PL × sl_M)} {hh : List (Nat × Nat × Nat × Nat)} {x9 : ExceptionTableEntry} (hb : b < base)
    (hcc : sl_CC (sl_ad base b) base 331 Hb D cA sl_ln sl_rd sl_VS sl_MS sl_cS sl_sS l 1 Y B mL ret fr lc 1 0 F) (hpl : plainFor yW = true) (hown : yW.cls = RL) (hNT : ∀ pc, NT ≤ pc → tb pc = none) (hd : sl_okT BW (fun _ => 0) tb NT = true)
    (hS : ∀ pc k a j n ts, tb pc = some (k, a, j, n, ts) → (k = 47 ∧ j = 1) ∨ k = 0 ∨ k = 1 ∨ k = 2 ∨ k = 18 ∨ k = 34 ∨ k = 44) (hc46 : sl_okd BW (fun _ => 0) P (46, 0, jc, 3, []) = true) (hok : sl_cok RL jc 0 Y B mL ret na 11 fr lc (fr + 1) (8 + (mL + 11) + lc)) (h13 : Cond.classLink RL 13 sl_IX ∈ sl_GW)
    (ht9 : tableOf hh = [x9]) (hcov : covers x9 P = true) (hc9 : x9.catchType = 13) (hnd : sl_hnd BW x9.handlerPc mLw)
    {as : List sl_V} {m : sl_L} {x : sl_PL × sl_L} (hF : sl_wF tb P na mLw F as m = some x) (hx2 : x.1.2.2 ≠ 2) (hI : 331 ≤ m.2.1) (hv : ∀ q, .inr (.inl (some q)) ∈ as → sl_VL m q) (hall : as.all sl_c1 = true) (hlen : as.length ≤ mLw) :
    Met l yW (.codeWith yW BW mLw (some .int) hh :: sl_GW) { frames := fr + 1, cells := x.2.2.1 - m.2.1, slots := x.2.2.2 - m.2.2, locals := 8 + (mL + 11) + lc } (sl_Pc (sl_ad base b) base 331 Hb D cA sl_ln sl_rdL sl_VL sl_cL as m) (sl_Qc (sl_ad base b) base 331 Hb D cA sl_ln sl_rdL sl_VL sl_ML sl_cL 1 0 m x) (x.2.2.1 - m.2.1) (x.2.2.2 - m.2.2) (fun q => base ≤ q) := by
  refine sl_ofWH (cc := BW) (maxL := mLw) (ret := some .int) hpl ?_
  intro p e s mid args below meth c s₁ Bd hml htab hv9
  obtain ⟨rfl, hHP, hKK⟩ := hv9
  have hts := atoms_spec (ws := Cond.codeWith yW BW mLw (some .int) hh :: sl_GW) Bd.pre
  have hC : sl_Cx p s mid (as.map (sl_v (sl_ad base b))).toArray c BW mLw RL D cA := ⟨Bd.exec, Bd.bytes, hml, by rw [← hown]; exact findClass_of_methodNamed Bd.named, fun w hw => hts w (List.mem_cons_of_mem _ hw), hKK.1⟩
  have hr := Bd.returns
  have hlk := Bd.notSynchronized
  obtain ⟨ls0, e1, e2⟩ := sl_entry (sl_ad base b) mid hall hlen
  have hn0 : ∀ (S : sl_S) (m : sl_L), (fun (_ : sl_S) (_ : sl_L) => (none : Option (sl_PL × sl_L))) S m = some x → m.2.1 ≤ x.2.2.1 ∧ m.2.2 ≤ x.2.2.2 := fun _ _ h => by cases h
  have hCst : ∀ S m', sl_wC tb P na F S m' = some x → m'.2.1 ≤ x.2.2.1 ∧ m'.2.2 ≤ x.2.2.2 := by
    intro S m' h
    unfold sl_wC at h
    rw [Bool.cond_eq_ite] at h
    split at h
    · obtain ⟨q, -, h2⟩ := Option.bind_eq_some_iff.mp h
      split at h2
      · cases h2
        exact ⟨Nat.le_succ _, by show m'.2.2 ≤ m'.2.2 + 6; omega⟩
      · have g := sl_wst hS hx2 hn0 _ _ _ h2
        exact g
    · cases h
  have g := sl_wok (l := l) (e := e) (R := ({ frames := fr + 1, cells := x.2.2.1 - m.2.1, slots := x.2.2.2 - m.2.2, locals := 8 + (mL + 11) + lc } : Room)) (below := below) (meth := meth) (m0 := m) hb hC hKK hHP.2.2.1 hNT hd hS hx2 rfl hr hlk ⟨Nat.le_refl _, Nat.le_refl _⟩ hCst (fun S m' h => ?_) 20 _ m hF s.heap [] ls0 (fun q h => h) (Nat.le_refl _) (Nat.le_refl _) hI (Nat.le_refl _) hHP e2 (fun q hq => ?_) (fun q hq => by cases hq) (fun z hz => by cases hz)
  · rw [Nat.sub_self, Nat.sub_self] at g
    rw [e1]
    exact g
  · have hmono := hCst _ _ h
    unfold sl_wC at h
    rw [Bool.cond_eq_ite] at h
    split at h
    · rename_i hcond
      simp only [Bool.and_eq_true, Nat.beq_eq, Nat.ble_eq] at hcond
      obtain ⟨hpc, hlen9, hrc, hall9, hcs⟩ := hcond
      obtain ⟨⟨pl, m1⟩, hF1, h2⟩ := Option.bind_eq_some_iff.mp h
      obtain ⟨pc, lo, st⟩ := S
      dsimp only at hpc hlen9 hrc hall9 hcs hF1 h2
      have est : st = ((st.take na).reverse).reverse ++ st.drop na := by rw [List.reverse_reverse, List.take_append_drop]
      rw [est]
      subst hpc
      refine sl_tcall (ck := fun _ => 0) (pl := pl) (m1 := m1) hb hC hKK hHP.2.2.1 hcc hc46 rfl (by rw [hlen9]; exact hok) hrc hall9 hcs hF1 (fun b2 b3 => ?_) (fun hfl => ?_) (fun hfl => ?_)
      · by_cases hfl : pl.2.2 = 2
        · rw [if_pos hfl] at h2
          cases h2
          rw [if_pos hfl, if_pos hfl]
          refine ⟨?_, ?_⟩
          · show m'.2.1 - m.2.1 + 1 ≤ m'.2.1 + 1 - m.2.1
            omega
          · show m'.2.2 - m.2.2 + 6 ≤ m'.2.2 + 6 - m.2.2
            omega
        · rw [if_neg hfl, if_neg hfl]
          exact ⟨by show m'.2.1 - m.2.1 + 0 ≤ x.2.2.1 - m.2.1; omega, by show m'.2.2 - m.2.2 + 0 ≤ x.2.2.2 - m.2.2; omega⟩
      · rw [if_neg hfl] at h2
        exact sl_wok hb hC hKK hHP.2.2.1 hNT hd hS hx2 rfl hr hlk ⟨Nat.le_refl _, Nat.le_refl _⟩ hn0 (fun _ _ h => by cases h) _ _ _ h2
      · rw [if_pos hfl] at h2
        cases h2
        intro H locs ls q ce a2 a3 a4 a5 a6 a7 a10 hce hcv hcl
        obtain ⟨hx, hb9, hml9, hown9, hts9, hK9⟩ := hC
        refine vx_catch (name := sl_IX) (E := sl_IX) (ce := ce) hown9 [] x9 [] (by rw [htab, ht9]; rfl) (fun z hz => by cases hz) hcov (by rw [hc9]; decide) (by rw [hc9]; exact hts9 _ h13) (va_Nw.use rfl (hKK.2.2.1 (.castable sl_IX sl_IX) (by unfold sl_NW; simp))) hce hcv hcl ?_
        have E1 : m'.2.1 - m.2.1 + 1 = m'.2.1 + 1 - m.2.1 := by omega
        have E2 : m'.2.2 - m.2.2 + 6 = m'.2.2 + 6 - m.2.2 := by omega
        rw [E1, E2]
        have fin : ∀ (pc9 : Nat) (ls9 : Array Slot), decode BW pc9 = .ok (.iconst 1, 1) → decode BW (pc9 + 1) = .ok (.ireturn, 1) → W p l e ({ frames := fr + 1, cells := m'.2.1 + 1 - m.2.1, slots := m'.2.2 + 6 - m.2.2, locals := 8 + (mL + 11) + lc } : Room) s mid (as.map (sl_v (sl_ad base b))).toArray below meth c H locs (m'.2.1 + 1 - m.2.1) (m'.2.2 + 6 - m.2.2) (MQ below (sl_Qc (sl_ad base b) base 331 Hb D cA sl_ln sl_rdL sl_VL sl_ML sl_cL 1 0 m (((1, 0, 0), (m1, m'.2.1 + 1, m'.2.2 + 6)) : sl_PL × sl_L)) (as.map (sl_v (sl_ad base b))).toArray s (m'.2.1 + 1 - m.2.1) (m'.2.2 + 6 - m.2.2) (fun q => base ≤ q)) (F0 mid pc9 ls9 []) := fun pc9 ls9 hd1 hd2 => lv_iconst hx hb9 hd1 rfl (W.iret (v := 1) hx hb9 hr (fun t ht9 hW => ⟨rfl, by rw [ht9]; exact a6, by rw [ht9]; exact a5, by show 331 ≤ m'.2.1 + 1; omega, fun q hq => hq, fun h => absurd h (by decide), fun h => absurd h (by decide)⟩) a10 hd2 hlk)
        rcases hnd with ⟨i, hi, d1, d2, d3⟩ | ⟨k, hi, d1, d2, d3⟩
        · exact lv_astore hx hb9 d1 (sl_lh_has a7) hi rfl (fun ls1 _ => fin _ ls1 d2 d3)
        · exact lv_astore_n hx hb9 d1 rfl (sl_lh_has a7) hi rfl (fun ls1 _ => fin _ ls1 d2 d3)
    · cases h
  · have hq : some (.inr (.inl (some q))) ∈ sl_lo mLw as := hq
    unfold sl_lo at hq
    rcases List.mem_append.mp hq with hq | hq
    · obtain ⟨z, hz, he⟩ := List.mem_map.mp hq
      cases he
      exact hv q hz
    · cases List.eq_of_mem_replicate hq
