/-! ===== a call of the class that may throw, at a pc of the law's wrappers ===== -/
section SLW
variable {p : Program} {l : Launch} {e : Env} {R : Room} {s : State} {mid : MethodId} {args : Array Value} {below : List Frame} {meth : Method} {c : Code} {base b : Nat} {Hb : Heap} {D : va_G} {cA : Nat → ClassId} {nL : Nat} {x : sl_PL × sl_L} {Q : State → Prop} {m0 m : sl_L} {cc : ByteArray} {ck : Nat → Nat} {own : String}
theorem sl_tcall {pc j n rv fr lc mL : Nat} {a : Int32} {ts : List Nat} {Y : MethodName} {B : ByteArray} {ret : Option FieldType} {F : List sl_V → sl_M → Option (sl_PL × sl_M)} {as r : List sl_V} {lo : List (Option sl_V)} {pl : sl_PL} {m1 : sl_M} (hb : b < base)
    (hC : sl_Cx p s mid args c cc nL own D cA) (hKK : sl_KK D cA base s) (hsb : ∀ q : Nat, q < base → s.heap[q]? = Hb[q]?) (hcc : sl_CC (sl_ad base b) base 331 Hb D cA sl_ln sl_rd sl_VS sl_MS sl_cS sl_sS l 1 Y B mL ret fr lc 1 0 F)
    (hd : sl_okd cc ck pc (46, a, j, n, ts) = true) (hk : ck j = 0) (hok : sl_cok own j 0 Y B mL ret as.length rv fr lc R.frames R.locals) (hrc : sl_rc rv as = true) (hall : as.all sl_c1 = true) (hsum : sl_cs r ≤ 8) (hF : F as m.1 = some (pl, m1))
    (hR : m0.2.1 ≤ m.2.1 → m0.2.2 ≤ m.2.2 → m.2.1 - m0.2.1 + (if pl.2.2 = 2 then 1 else 0) ≤ R.cells ∧ m.2.2 - m0.2.2 + (if pl.2.2 = 2 then 6 else 0) ≤ R.slots)
    (kn : pl.2.2 ≠ 2 → sl_G p l e R s mid args below meth c (sl_ad base b) base 331 Hb D cA sl_ln sl_rdL sl_VL sl_ML sl_cL sl_sL nL x Q m0 (pc + 3, lo, .inl pl.1 :: r) (m1, m.2))
    (kx : pl.2.2 = 2 → ∀ (H : Heap) (locs : List Loc) (ls : Array Slot) (q : Addr) (ce : Cell), m0.2.1 ≤ m.2.1 → m0.2.2 ≤ m.2.2 → 331 ≤ m.2.1 → s.heap.size ≤ H.size → sl_HP (sl_ad base b) base 331 Hb D cA sl_ln sl_rdL sl_VL sl_cL (m1, m.2.1 + 1, m.2.2 + 6) H → sl_lh (sl_ad base b) ls nL lo → (∀ z ∈ locs, base ≤ z.base) → H[q]? = some ce → ce.vm = .none → s.vm.findClass sl_IX = some ce.cls →
      vx_W p l e R s mid args below meth c H locs (m.2.1 - m0.2.1 + 1) (m.2.2 - m0.2.2 + 6) Q (F0 mid pc ls (r.map (sl_v (sl_ad base b)))) q) :
    sl_G p l e R s mid args below meth c (sl_ad base b) base 331 Hb D cA sl_ln sl_rdL sl_VL sl_ML sl_cL sl_sL nL x Q m0 (pc, lo, as.reverse ++ r) m := by
  obtain ⟨hn3, -⟩ := sl_dcall hd rfl
  subst hn3
  intro H locs ls a1 a2 a3 a4 a5 a6 a7 a8 a9 a10
  have hva : ∀ q, .inr (.inl (some q)) ∈ as → sl_VL m q := fun q hq => a9 q (List.mem_append_left _ (List.mem_reverse.mpr hq))
  obtain ⟨hret, hthr⟩ := sl_ccT hcc hF a4 hva hall (by have := hok.1; omega)
  have hPs : ∀ q : Nat, q < base → H[q]? = s.heap[q]? := fun q hq => by rw [a6.2.2.1 q hq, hsb q hq]
  have hts1 := sl_hTs hC hok.2.1
  have a2 : m0.2.1 ≤ m.2.1 := a2
  have a3 : m0.2.2 ≤ m.2.2 := a3
  have hR := hR a2 a3
  by_cases hfl : pl.2.2 = 2
  · rw [if_pos hfl, if_pos hfl] at hR
    have hM2 := hthr hfl
    obtain ⟨k0, k1, k2, ⟨k3, k4, k5⟩, k6, k7⟩ := hok
    rcases k7 with ⟨e0, q1, q2, q3, q4, ci, hrv, hci, hcls⟩ | ⟨e0, -⟩ | ⟨e0, -⟩ | ⟨e0, -⟩
    · obtain ⟨hx, hb9, hml, hown, hts, hK⟩ := hC
      obtain ⟨i9, as9, rfl⟩ := sl_rc_in hrc hrv
      obtain ⟨hbl, hpc⟩ := sl_pre (as := .inr (.inl (some (ci, i9))) :: as9) hKK a6 hPs
      have hdg : decode cc pc = .ok (.invokevirtual j, 3) := by
        rcases (sl_dcall hd rfl).2 with ⟨-, h⟩ | ⟨h, -⟩ | ⟨h, -⟩
        · exact h
        · omega
        · omega
      obtain ⟨cell, c1, c2, c3, -⟩ := (a6.2.2.2 ci i9 (hva _ List.mem_cons_self)).1 hci
      have hfc := (hK.1 ci _ (sl_cls_at hci)).2.1
      have hst : ((Sum.inr (Sum.inl (some (ci, i9))) :: as9 : List sl_V).reverse ++ r).map (sl_v (sl_ad base b)) = (as9.map (sl_v (sl_ad base b))).reverse ++ .ref (sl_ad base b ci i9) :: r.map (sl_v (sl_ad base b)) := by
        rw [List.reverse_cons, List.append_assoc, List.map_append, List.map_reverse]; rfl
      have hroom := lv_room (m := mid) (pc := pc) (ls := ls) (rest := ((Sum.inr (Sum.inl (some (ci, i9))) :: as9 : List sl_V).reverse ++ r).map (sl_v (sl_ad base b))) (st := r.map (sl_v (sl_ad base b))) (by rw [sl_csum]; exact hsum)
      dsimp only
      rw [hst] at hroom ⊢
      have hG : GoodIn (Cond.code Y B mL ret :: sl_GW) (Cond.code Y B mL ret :: sl_GW) := sl_gin k1
      have hrun := vx_runV (p := p) (l := l) (e := e) (R := R) (H := H) (locs := locs) (cells := m.2.1 - m0.2.1) (slots := m.2.2 - m0.2.2) (below := below) (meth := meth) (As := as9.map (sl_v (sl_ad base b))) (rest := r.map (sl_v (sl_ad base b))) (C := Y.cls) (n := as9.length) (⟨hx, hb9, hml, hown, hts1⟩ : CallFix p mid c cc nL s args (Cond.code Y B mL ret :: sl_GW) own) hM2
        ⟨callB_of as9.length hts1 hG rfl rfl rfl (hts _ k2) (hts _ q1) ⟨k3, k4, by rw [k5, if_neg (by omega)]; simp⟩ k6, hts _ q2, hts _ (sl_gw q3 q4)⟩ ⟨hbl, ⟨cell, c1, by rw [c3]; rfl, by rw [c2, ← hcls]; exact hfc⟩, hpc⟩ (g := F0 mid pc ls ((as9.map (sl_v (sl_ad base b))).reverse ++ .ref (sl_ad base b ci i9) :: r.map (sl_v (sl_ad base b)))) rfl (by rw [List.length_map]) a7.1 rfl hroom hdg
        ⟨hR.1, hR.2⟩
      intro T hT XT
      rcases hrun T hT XT with ⟨v, st₀, t, T', L, h0, X', hL, e1, e2, hf, st⟩ | ⟨q, st₀, t, T', L, E, ce, h0, X', hL, e1, e2, ⟨rfl, hP2, hsz, hI2, hV2⟩, hce, hcv, hcl, st⟩
      · exact hf.elim
      · obtain ⟨t9, s1, s2⟩ := kx hfl T'.heap (locs ++ L) ls q ce a2 a3 a4 (by rw [e1]; rw [h0] at hsz; omega) (by rw [e1]; exact hP2) a7 (fun z hz => by
            rcases List.mem_append.mp hz with hz | hz
            · exact a10 z hz
            · exact hL z hz) (by rw [e1]; exact hce) hcv hcl T' rfl X'
        exact ⟨t9, st.trans s1, s2⟩
    · cases e0
    · cases e0
    · cases e0
  · rw [if_neg hfl, if_neg hfl] at hR
    have hrun := sl_va (l := l) (e := e) (locs := locs) (ls := ls) (below := below) (meth := meth) (cells := m.2.1 - m0.2.1) (slots := m.2.2 - m0.2.2) hC hKK a6 hPs hd rfl (by rw [hk]; exact hok) hts1 hrc rfl hva a7.1 hsum ⟨hR.1, hR.2⟩ (hret hfl)
    refine sl_ret hrun (w := some (.int pl.1)) (fun st v t hq => (Outcome.returned.inj hq.1)) (fun t st0 L h0 hqa hL => ?_)
    obtain ⟨-, hP2, hsz, hI2, hV2, hor⟩ := hqa
    exact kn hfl t.heap (locs ++ L) ls (fun q hq => hV2 q (a1 q hq)) a2 a3 hI2 (by rw [h0] at hsz; omega) hP2 a7 (fun q hq => hV2 q (a8 q hq)) (fun q hq => by
      rcases List.mem_cons.mp hq with h9 | h9
      · cases h9
      · exact hV2 q (a9 q (List.mem_append_right _ h9))) (fun z hz => by
      rcases List.mem_append.mp hz with hz | hz
      · exact a10 z hz
      · exact hL z hz)
end SLW
