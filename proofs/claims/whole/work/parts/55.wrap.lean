/-! ===== the law calls such a method ===== -/
section SLWY
variable {p : Program} {l : Launch} {e : Env} {R : Room} {s : State} {mid : MethodId} {args : Array Value} {below : List Frame} {meth : Method} {c : Code} {base b : Nat} {Hb : Heap} {D : va_G} {cA : Nat → ClassId} {nL : Nat} {x : sl_PL × sl_L} {Q : State → Prop} {m0 m : sl_L} {cc : ByteArray} {own : String}
theorem sl_wcall {pc j n fr lc mLw : Nat} {yW : MethodName} {BW : ByteArray} {hh : List (Nat × Nat × Nat × Nat)} {as r : List sl_V} {lo : List (Option sl_V)} {x1 : sl_PL × sl_L}
    (hC : sl_Cx p s mid args c cc nL own D cA) (hKK : sl_KK D cA base s) (hsb : ∀ q : Nat, q < base → s.heap[q]? = Hb[q]?) (hdg : decode cc pc = .ok (.invokestatic j, 3))
    (hM : Met l yW (.codeWith yW BW mLw (some .int) hh :: sl_GW) { frames := fr, cells := x1.2.2.1 - m.2.1, slots := x1.2.2.2 - m.2.2, locals := lc } (sl_Pc (sl_ad base b) base 331 Hb D cA sl_ln sl_rdL sl_VL sl_cL as m) (sl_Qc (sl_ad base b) base 331 Hb D cA sl_ln sl_rdL sl_VL sl_ML sl_cL 1 0 m x1) (x1.2.2.1 - m.2.1) (x1.2.2.2 - m.2.2) (fun q => base ≤ q))
    (h1 : Cond.codeWith yW BW mLw (some .int) hh ∈ sl_GW) (h2 : Cond.initialized yW.cls ∈ sl_GW) (h3 : Cond.methodLink own j yW ∈ sl_GW) (h4 : Cond.static yW ∈ sl_GW) (hds : yW.cls ≠ "java/lang/invoke/MethodHandle" ∧ yW.cls ≠ "java/lang/invoke/VarHandle" ∧ (parseMethodDescriptor yW.desc).map (fun d => d.parameters.length) = some n) (hfr : fr + 1 ≤ R.frames ∧ 8 + (mLw + 11) + lc ≤ R.locals)
    (hn : as.length = n) (hsum : sl_cs r ≤ 8) (hmo : m.2.1 ≤ x1.2.2.1 ∧ m.2.2 ≤ x1.2.2.2) (hR : m0.2.1 ≤ m.2.1 → m0.2.2 ≤ m.2.2 → x1.2.2.1 - m0.2.1 ≤ R.cells ∧ x1.2.2.2 - m0.2.2 ≤ R.slots)
    (k : sl_G p l e R s mid args below meth c (sl_ad base b) base 331 Hb D cA sl_ln sl_rdL sl_VL sl_ML sl_cL sl_sL nL x Q m0 (pc + 3, lo, .inl x1.1.1 :: r) x1.2) :
    sl_G p l e R s mid args below meth c (sl_ad base b) base 331 Hb D cA sl_ln sl_rdL sl_VL sl_ML sl_cL sl_sL nL x Q m0 (pc, lo, as.reverse ++ r) m := by
  intro H locs ls a1 a2 a3 a4 a5 a6 a7 a8 a9 a10
  have hPs : ∀ q : Nat, q < base → H[q]? = s.heap[q]? := fun q hq => by rw [a6.2.2.1 q hq, hsb q hq]
  have hts1 := sl_hTs hC h1
  have a2 : m0.2.1 ≤ m.2.1 := a2
  have a3 : m0.2.2 ≤ m.2.2 := a3
  obtain ⟨hR1, hR2⟩ := hR a2 a3
  obtain ⟨hm1, hm2⟩ := hmo
  obtain ⟨hx, hb9, hml, hown, hts, hK⟩ := hC
  have hst : ((as.reverse ++ r).map (sl_v (sl_ad base b))) = (as.map (sl_v (sl_ad base b))).reverse ++ r.map (sl_v (sl_ad base b)) := by rw [List.map_append, List.map_reverse]
  have hroom := lv_room (m := mid) (pc := pc) (ls := ls) (rest := (as.reverse ++ r).map (sl_v (sl_ad base b))) (st := r.map (sl_v (sl_ad base b))) (by rw [sl_csum]; exact hsum)
  dsimp only
  rw [hst] at hroom ⊢
  have hG : GoodIn (Cond.codeWith yW BW mLw (some .int) hh :: sl_GW) (va_wsS own j yW (Cond.codeWith yW BW mLw (some .int) hh :: sl_GW)) := by
    have hG0 : GoodIn (Cond.codeWith yW BW mLw (some .int) hh :: sl_GW) (Cond.codeWith yW BW mLw (some .int) hh :: sl_GW) := sl_gin h1
    intro w hw
    unfold va_wsS at hw
    rcases List.mem_append.mp hw with hw | hw
    · simp only [List.mem_cons, List.not_mem_nil, or_false] at hw
      rcases hw with rfl | rfl | rfl <;> first | exact hG0 _ (List.mem_cons_of_mem _ h2) | exact hG0 _ (List.mem_cons_of_mem _ h3) | exact hG0 _ (List.mem_cons_of_mem _ h4)
    · exact hG0 w hw
  have hrun := vx_runSW (p := p) (l := l) (e := e) (R := R) (H := H) (locs := locs) (cells := m.2.1 - m0.2.1) (slots := m.2.2 - m0.2.2) (below := below) (meth := meth) (As := as.map (sl_v (sl_ad base b))) (rest := r.map (sl_v (sl_ad base b))) (n := n) (⟨hx, hb9, hml, hown, hts1⟩ : CallFix p mid c cc nL s args (Cond.codeWith yW BW mLw (some .int) hh :: sl_GW) own) hM
    (vx_cwSW n hts1 hG rfl rfl rfl hds hfr) (sl_pre hKK a6 hPs) (g := F0 mid pc ls ((as.map (sl_v (sl_ad base b))).reverse ++ r.map (sl_v (sl_ad base b)))) rfl (by rw [List.length_map]; exact hn) a7.1 rfl hroom hdg ⟨by omega, by omega⟩
  refine sl_ret hrun (w := some (.int x1.1.1)) (fun st v t hq => (Outcome.returned.inj hq.1)) (fun t st0 L h0 hqa hL => ?_)
  obtain ⟨-, hP2, hsz, hI2, hV2, hor⟩ := hqa
  have g := k t.heap (locs ++ L) ls (fun q hq => hV2 q (a1 q hq)) (Nat.le_trans a2 hm1) (Nat.le_trans a3 hm2) hI2 (by rw [h0] at hsz; omega) hP2 a7 (fun q hq => hV2 q (a8 q hq)) (fun q hq => by
    rcases List.mem_cons.mp hq with h9 | h9
    · cases h9
    · exact hV2 q (a9 q (List.mem_append_right _ h9))) (fun z hz => by
    rcases List.mem_append.mp hz with hz | hz
    · exact a10 z hz
    · exact hL z hz)
  have E1 : sl_cL m - sl_cL m0 + (x1.2.2.1 - m.2.1) = sl_cL x1.2 - sl_cL m0 := by
    show m.2.1 - m0.2.1 + (x1.2.2.1 - m.2.1) = x1.2.2.1 - m0.2.1
    omega
  have E2 : sl_sL m - sl_sL m0 + (x1.2.2.2 - m.2.2) = sl_sL x1.2 - sl_sL m0 := by
    show m.2.2 - m0.2.2 + (x1.2.2.2 - m.2.2) = x1.2.2.2 - m0.2.2
    omega
  rw [E1, E2]
  exact g
end SLWY
