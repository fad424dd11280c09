section SLM
variable {M : Type}
variable {p : Program} {l : Launch} {e : Env} {R : Room} {s : State} {mid : MethodId} {args : Array Value} {below : List Frame} {meth : Method} {c : Code} {ad : Nat → Nat → Nat} {base NA : Nat} {Hb : Heap} {D : va_G} {cA : Nat → ClassId} {ln : Nat → Nat → Nat} {rd : M → Nat → Nat → Nat → sl_V} {VR : M → Nat × Nat → Prop} {MI : M → Prop} {cn sn : M → Nat} {nL : Nat} {x : sl_PL × M} {Q : State → Prop} {m0 : M} {m : M}
variable {wr : M → Nat → Nat → Nat → sl_V → Option M} {al : M → Nat → Int32 → Option ((Nat × Nat) × M)} {cc : ByteArray} {ck : Nat → Nat} {own : String} {X : sl_S → M → Option (sl_PL × M)} {pc n j : Nat} {a : Int32} {ts : List Nat} {lo : List (Option sl_V)} {st : List sl_V}
variable {tb : Nat → Option sl_E} {fl : Nat → Option (Nat × Nat)} {pf : Nat → Option (Nat × Nat × Nat)} {cl : Nat → Option sl_C} {nw : Nat → Option Nat} {sL : Nat} {sf : Nat → Int32} {call : Nat → List sl_V → M → Option (sl_PL × M)} {stop : Nat → Bool} {mask : Nat → List Bool} {k : Nat}

/-! a method -/
theorem sl_lg (ad : Nat → Nat → Nat) : ∀ as : List sl_V, as.all sl_c1 = true → lg_sl (as.map (sl_v ad)) = (as.map (sl_v ad)).map Slot.val
  | [], _ => rfl
  | v :: as, h => by
    simp only [List.all_cons, Bool.and_eq_true] at h
    have ih := sl_lg ad as h.2
    have hc := sl_cat ad h.1
    unfold lg_sl at ih ⊢
    rw [List.map_cons, List.flatMap_cons, ih, List.map_cons, if_neg (by rw [hc]; decide)]
    rfl
theorem sl_entry (ad : Nat → Nat → Nat) (mid : MethodId) {as : List sl_V} {mL : Nat} (hall : as.all sl_c1 = true) (hlen : as.length ≤ mL) : ∃ ls : Array Slot, entryFrame mid (as.map (sl_v ad)).toArray mL = F0 mid 0 ls [] ∧ sl_lh ad ls mL (sl_lo mL as) := by
  have hg := sl_lg ad as hall
  have hl := lv_entry (as.map (sl_v ad)) (n := mL) (by rw [hg, List.length_map, List.length_map]; exact hlen)
  refine ⟨_, lg_entry_eq mid (as.map (sl_v ad)) mL, hl.1, hl.2.1, fun i v hv => ?_⟩
  unfold sl_lo at hv
  have hi : i < as.length := by
    rcases Nat.lt_or_ge i as.length with q | q
    · exact q
    · rw [List.getElem?_append_right (by rw [List.length_map]; exact q)] at hv
      have := List.mem_of_getElem? hv
      have := List.eq_of_mem_replicate this
      cases this
  rw [List.getElem?_append_left (by rw [List.length_map]; exact hi), List.getElem?_map] at hv
  have hv2 : as[i]? = some v := by
    cases h9 : as[i]? with
    | none => rw [h9] at hv; cases hv
    | some z => rw [h9] at hv; cases hv; rfl
  refine ⟨?_, ?_⟩
  · rw [hg, List.getElem?_toArray, List.getElem?_append_left (by rw [List.length_map, List.length_map]; exact hi), List.getElem?_map, List.getElem?_map, hv2]
    rfl
  · exact List.all_eq_true.mp hall v (List.mem_of_getElem? hv2)
def sl_se (B : ByteArray) (own : String) (ret : Option FieldType) (rk rc fr lc pc k j : Nat) : Prop :=
  (k = 47 → rk = 1 ∧ ((j = 1 ∧ ret = some .int) ∨ (j ≠ 1 ∧ ret = some .boolean))) ∧ (k = 48 → rk = 2 ∧ rc = j ∧ ∃ N : String, ret = some (.object N)) ∧ (k = 49 → rk = 3 ∧ rc = j ∧ ∃ N : String, ret = some (.object N)) ∧ (k = 50 → rk = 0 ∧ ret = none) ∧
  (k = 56 → own = RX10 ∧ (∃ is : Nat, (is = 242 ∨ is = 247) ∧ decode B pc = .ok (.new 240, 3) ∧ decode B (pc + 3) = .ok (.dup, 1) ∧ decode B (pc + 4) = .ok (.ldc is, 2) ∧ decode B (pc + 6) = .ok (.invokespecial 244, 3) ∧ decode B (pc + 9) = .ok (.athrow, 1)) ∧ 5 < fr ∧ 82 ≤ lc) ∧ k ≠ 62 ∧ k ≠ 63
theorem sl_tw1 : ∀ w ∈ (vx_atS RX10 244 sl_IX ["java/lang/RuntimeException", "java/lang/Exception"]).filter goodWord, w ∈ lw_tbl := by decide +kernel
theorem sl_tw2 : ∀ w ∈ (vx_atS RX10 244 sl_IX ["java/lang/RuntimeException", "java/lang/Exception"]).filter (fun w => !goodWord w), w ∈ sl_NW := by decide +kernel
theorem sl_tw3 : ∀ w ∈ Cond.classLink RX10 240 sl_IX :: Cond.initialized sl_IX :: vx_atS RX10 244 sl_IX ["java/lang/RuntimeException", "java/lang/Exception"], vx_ot w = true := by decide +kernel
theorem sl_tw4 : Cond.classLink RX10 240 sl_IX ∈ lw_tbl ∧ Cond.initialized sl_IX ∈ lw_tbl := by decide +kernel
theorem sl_HP_grow {H H1 : Heap} (hN : NA ≤ cn m) (hP : sl_HP ad base NA Hb D cA ln rd VR cn m H) (hz : H.size ≤ H1.size) (hq : ∀ q : Nat, q < H.size → H1[q]? = H[q]?) : sl_HP ad base NA Hb D cA ln rd VR cn m H1 := by
  obtain ⟨p1, p2, p3, p4⟩ := hP
  refine ⟨by omega, fun h => absurd h (by omega), fun q h => by rw [hq q (by omega)]; exact p3 q h, fun c1 i1 h => ?_⟩
  have hold := p4 c1 i1 h
  refine ⟨fun hc => ?_, fun hc h41 => ?_⟩
  · obtain ⟨cell, q1, q2⟩ := hold.1 hc
    exact ⟨cell, by rw [hq _ (Array.getElem?_eq_some_iff.mp q1).1]; exact q1, q2⟩
  · have q1 := hold.2 hc h41
    rw [hq _ (Array.getElem?_eq_some_iff.mp q1).1]; exact q1
theorem sl_ofW {l : Launch} {y : MethodName} {ws' : List Cond} {rm : Room} {Pc : Array Value → State → Prop} {Qc : Array Value → State → Outcome → State → Prop} {mc ms : Nat} {free : Addr → Prop} {cc : ByteArray} {maxL : Nat} {ret : Option FieldType} (hy : plainFor y = true)
    (k : ∀ p e s m args below meth c s₁, BodyLoose p l y (headSpec (Cond.code y cc maxL ret :: ws') rm) cc maxL ret e s m args below meth c s₁ → c.maxLocals = maxL → Pc args s →
      W p l e (headSpec (Cond.code y cc maxL ret :: ws') rm).room s m args below meth c s.heap [] 0 0 (MQ below Qc args s mc ms free) (entryFrame m args maxL)) : Met l y (Cond.code y cc maxL ret :: ws') rm Pc Qc mc ms free := by
  apply MetFree.of_bodySF (code := cc) (maxLocals := maxL) (ret := ret) hy
  · intro as1 s1 m1 hb hn
    have hc := atoms_spec hb _ List.mem_cons_self
    obtain ⟨mt, co, q⟩ := Cond.code_spec hn hc
    exact ⟨mt, co, q.1, q.2.1, q.2.2.1, q.2.2.2.1, q.2.2.2.2.1, q.2.2.2.2.2.1⟩
  · intro p e s m args below meth c s₁ B hml hP _
    obtain ⟨t, st, o, b1, b2, b3⟩ := k p e s m args below meth c s₁ B hml hP s₁ (by rw [B.state]; rfl) (Stand.of_body B)
    exact ⟨t, o, st, b1, b2, b3.1, b3.2⟩
theorem sl_meth {Y : MethodName} {B : ByteArray} {mL : Nat} {ret : Option FieldType} {fr lc rk rc th9 : Nat} (hpl : plainFor Y = true) (hpl2 : th9 ≠ 0 → plainName Y.cls = true) (hst : l.stackTraces = false) (hM : sl_Mem ad base NA ln rd VR cn wr al MI sn) (hMo : sl_Mo wr al cn sn) (hd : ∀ pc E, tb pc = some E → sl_okd B ck pc E = true) (hS : ∀ pc k a j n ts, tb pc = some (k, a, j, n, ts) → sl_sd Y.cls mL fr lc k a j) (hse : ∀ pc k a j n ts, tb pc = some (k, a, j, n, ts) → sl_se B Y.cls ret rk rc fr lc pc k j) (hfl : sl_hfl Y.cls fl) (hpf : sl_hpf Y.cls Y.name pf) (hnw : sl_hnw Y.cls nw)
    (hcl : ∀ j y na rk rc th rv, cl j = some (y, na, rk, rc, th, rv) → ∃ (Y1 : MethodName) (B1 : ByteArray) (mL1 : Nat) (ret1 : Option FieldType) (fr1 lc1 : Nat), sl_cok Y.cls j (ck j) Y1 B1 mL1 ret1 na rv fr1 lc1 fr lc ∧ (th ≠ 0 → ck j = 0) ∧ sl_Cp cn sn th (call y) ∧ sl_Ct ad base NA Hb D cA ln rd VR MI cn sn l Y1 B1 mL1 ret1 fr1 lc1 rk rc (call y))
    (h9 : ∀ j y na rk rc th rv, cl j = some (y, na, rk, rc, th, rv) → th ≠ 0 → th9 ≠ 0) (h56 : ∀ p k a j n ts, tb p = some (k, a, j, n, ts) → k = 56 → th9 ≠ 0) (hNA : th9 ≠ 0 → ∀ m, NA ≤ cn m) :
    sl_Ct ad base NA Hb D cA ln rd VR MI cn sn l Y B mL ret fr lc rk rc (fun as m => sl_B tb fl pf cl nw rd wr al ln sL sf call stop mask 100000 (0, sl_lo mL as, []) m) := by
  intro as m x hF hI hv hall hlen
  refine ⟨fun hx2 => ?_, fun hx2 => ?_⟩
  · refine sl_ofW (cc := B) (maxL := mL) (ret := ret) hpl ?_
    intro p e s mid args below meth c s₁ Bd hml hv9
    obtain ⟨rfl, hHP, hKK⟩ := hv9
    have hts := atoms_spec (ws := Cond.code Y B mL ret :: sl_GW) Bd.pre
    have hC : sl_Cx p s mid (as.map (sl_v ad)).toArray c B mL Y.cls D cA := ⟨Bd.exec, Bd.bytes, hml, findClass_of_methodNamed Bd.named, fun w hw => hts w (List.mem_cons_of_mem _ hw), hKK.1⟩
    have hnm : meth.name = Y.name := (name_of_methodNamed Bd.named Bd.method).1
    have hr := Bd.returns
    have hlk := Bd.notSynchronized
    obtain ⟨ls, e1, e2⟩ := sl_entry ad mid hall hlen
    have g := sl_B_ok (l := l) (e := e) (R := ({ frames := fr, cells := cn x.2 - cn m, slots := sn x.2 - sn m, locals := lc } : Room)) (below := below) (meth := meth) (Q := MQ below (sl_Qc ad base NA Hb D cA ln rd VR MI cn rk rc m x) (as.map (sl_v ad)).toArray s (cn x.2 - cn m) (sn x.2 - sn m) (fun q => base ≤ q)) (m0 := m) (sL := sL) (sf := sf) (stop := stop) (mask := mask) hC hKK hM hMo hHP.2.2.1 hd hS hfl (by rw [hnm]; exact hpf) hnw hcl h9 h56
      ⟨by rw [if_neg hx2]; exact Nat.le_refl _, by rw [if_neg hx2]; exact Nat.le_refl _⟩ (fun h => absurd h hx2) (fun h => absurd h hx2) hlk (fun X pc lo st m1 k a j n ts ht hk ih hop => ?_) 100000 _ m hF s.heap [] ls (fun q h => h) (Nat.le_refl _) (Nat.le_refl _) hI (Nat.le_refl _) hHP e2 (fun q hq => ?_) (fun q hq => by cases hq) (fun z hz => by cases hz)
    · rw [Nat.sub_self, Nat.sub_self] at g
      rw [e1]
      exact g
    · obtain ⟨s47, s48, s49, s50, s56, s62, s63⟩ := hse pc k a j n ts ht
      have hd9 := hd _ _ ht
      obtain ⟨hx, hb, -⟩ := hC
      simp only [List.contains_cons, List.contains_nil, Bool.or_false, Bool.or_eq_true, beq_iff_eq] at hk
      rcases hk with rfl | rfl | rfl | rfl | rfl | rfl | rfl
      · obtain ⟨rfl, hj⟩ := s47 rfl
        obtain ⟨hdg, rfl⟩ := sl_d1 hd9 rfl
        replace hop : sl_iret st m1 j = some x := hop
        unfold sl_iret at hop
        split at hop
        · rename_i v
          rcases hj with ⟨rfl, hret⟩ | ⟨hj1, hret⟩
          · replace hop : some ((v, 0, 0), m1) = some x := hop
            cases hop
            intro H locs ls a1 a2 a3 a4 a5 a6 a7 a8 a9 a10
            exact W.iret (v := v) hx hb (hr.trans hret) (fun t ht9 hW => ⟨rfl, by rw [ht9]; exact a6, by rw [ht9]; exact a5, a4, a1, fun h => absurd h (by decide), fun h => absurd h (by decide)⟩) a10 hdg hlk
          · split at hop
            · exact absurd rfl hj1
            · split at hop
              · rename_i hv01
                cases hop
                intro H locs ls a1 a2 a3 a4 a5 a6 a7 a8 a9 a10
                exact W.zret (v := v) hx hb (hr.trans hret) (by rcases hv01 with rfl | rfl <;> rfl) (fun t ht9 hW => ⟨rfl, by rw [ht9]; exact a6, by rw [ht9]; exact a5, a4, a1, fun h => absurd h (by decide), fun h => absurd h (by decide)⟩) a10 hdg hlk
              · cases hop
        · cases hop
      · obtain ⟨rfl, rfl, N, hret⟩ := s48 rfl
        obtain ⟨hdg, rfl⟩ := sl_d1 hd9 rfl
        replace hop : sl_aret st m1 rc = some x := hop
        unfold sl_aret at hop
        split at hop
        · rename_i q
          obtain ⟨c9, i9⟩ := q
          cases hq : ((c9, i9).1 == rc) with
          | false => rw [hq] at hop; cases hop
          | true =>
            rw [hq] at hop
            have hq : c9 = rc := eq_of_beq hq
            subst hq
            replace hop : some ((0, i9, 0), m1) = some x := hop
            cases hop
            intro H locs ls a1 a2 a3 a4 a5 a6 a7 a8 a9 a10
            exact W.aret (v := .ref (ad c9 i9)) hx hb (hr.trans hret) (Or.inl ⟨_, rfl⟩) (Or.inr ⟨_, rfl⟩) (fun t ht9 hW => ⟨rfl, by rw [ht9]; exact a6, by rw [ht9]; exact a5, a4, a1, fun h => a9 _ List.mem_cons_self, fun h => absurd h (by decide)⟩) a10 hdg hlk
        · cases hop
      · obtain ⟨rfl, rfl, N, hret⟩ := s49 rfl
        obtain ⟨hdg, rfl⟩ := sl_d1 hd9 rfl
        replace hop : sl_nret st m1 rc = some x := hop
        unfold sl_nret at hop
        split at hop
        · cases hop
          intro H locs ls a1 a2 a3 a4 a5 a6 a7 a8 a9 a10
          exact W.aret (v := .null) hx hb (hr.trans hret) (Or.inl ⟨_, rfl⟩) (Or.inl rfl) (fun t ht9 hW => ⟨rfl, by rw [ht9]; exact a6, by rw [ht9]; exact a5, a4, a1, fun h => absurd h (by decide), fun _ h => absurd rfl h⟩) a10 hdg hlk
        · rename_i q
          obtain ⟨c9, i9⟩ := q
          cases hq : ((c9, i9).1 == rc) with
          | false => rw [hq] at hop; cases hop
          | true =>
            rw [hq] at hop
            have hq : c9 = rc := eq_of_beq hq
            subst hq
            replace hop : some ((0, i9, 0), m1) = some x := hop
            cases hop
            intro H locs ls a1 a2 a3 a4 a5 a6 a7 a8 a9 a10
            exact W.aret (v := .ref (ad c9 i9)) hx hb (hr.trans hret) (Or.inl ⟨_, rfl⟩) (Or.inr ⟨_, rfl⟩) (fun t ht9 hW => ⟨rfl, by rw [ht9]; exact a6, by rw [ht9]; exact a5, a4, a1, fun h => absurd h (by decide), fun _ _ => a9 _ List.mem_cons_self⟩) a10 hdg hlk
        · cases hop
      · obtain ⟨rfl, hret⟩ := s50 rfl
        obtain ⟨hdg, rfl⟩ := sl_d1 hd9 rfl
        replace hop : sl_vret st m1 = some x := hop
        unfold sl_vret at hop
        split at hop
        · cases hop
          intro H locs ls a1 a2 a3 a4 a5 a6 a7 a8 a9 a10
          exact W.vret hx hb (hr.trans hret) (fun t ht9 hW => ⟨rfl, by rw [ht9]; exact a6, by rw [ht9]; exact a5, a4, a1, fun h => absurd h (by decide), fun h => absurd h (by decide)⟩) a10 hdg hlk
        · cases hop
      · replace hop : sl_thr st m1 = some x := hop
        unfold sl_thr at hop
        split at hop
        · cases hop; exact absurd rfl hx2
        · cases hop
      · exact absurd rfl s62
      · exact absurd rfl s63
    · have hq : some (.inr (.inl (some q))) ∈ sl_lo mL as := hq
      unfold sl_lo at hq
      rcases List.mem_append.mp hq with hq | hq
      · obtain ⟨z, hz, he⟩ := List.mem_map.mp hq
        cases he
        exact hv q hz
      · exact absurd (List.eq_of_mem_replicate hq) (by simp)
  · have h90 : th9 ≠ 0 := fun h0 => (sl_F_cp (nL := mL) hMo (fun j y na rk rc th rv e => ⟨by obtain ⟨_, _, _, _, _, _, _, _, hcp, _⟩ := hcl j y na rk rc th rv e; exact hcp, h9 j y na rk rc th rv e⟩) h56 as m x hF).2.2 h0 hx2
    refine vx_ofW (cc := B) (maxL := mL) (ret := ret) (hpl2 h90) rfl ?_
    intro p e s mid args below meth c s₁ Bd hml htab9 hv9
    obtain ⟨rfl, hHP, hKK⟩ := hv9
    have hts := atoms_spec (ws := Cond.code Y B mL ret :: sl_GW) Bd.pre
    have hC : sl_Cx p s mid (as.map (sl_v ad)).toArray c B mL Y.cls D cA := ⟨Bd.exec, Bd.bytes, hml, findClass_of_methodNamed Bd.named, fun w hw => hts w (List.mem_cons_of_mem _ hw), hKK.1⟩
    have hnm : meth.name = Y.name := (name_of_methodNamed Bd.named Bd.method).1
    have hlk := Bd.notSynchronized
    obtain ⟨ls, e1, e2⟩ := sl_entry ad mid hall hlen
    have g := sl_B_ok (l := l) (e := e) (R := ({ frames := fr, cells := cn x.2 - cn m + 1, slots := sn x.2 - sn m + 6, locals := lc } : Room)) (below := below) (meth := meth) (Q := vx_MQ below (fun _ _ _ _ => False) (sl_XC ad base NA Hb D cA ln rd VR MI cn m x.2) (as.map (sl_v ad)).toArray s (cn x.2 - cn m + 1) (sn x.2 - sn m + 6) (fun q => base ≤ q)) (m0 := m) (sL := sL) (sf := sf) (stop := stop) (mask := mask) hC hKK hM hMo hHP.2.2.1 hd hS hfl (by rw [hnm]; exact hpf) hnw hcl h9 h56
      ⟨by rw [if_pos hx2]; exact Nat.le_refl _, by rw [if_pos hx2]; exact Nat.le_refl _⟩ (fun h => rfl) (fun h x9 hx9 => (htab9 x9 hx9).elim) hlk (fun X pc lo st m1 k a j n ts ht hk ih hop => ?_) 100000 _ m hF s.heap [] ls (fun q h => h) (Nat.le_refl _) (Nat.le_refl _) hI (Nat.le_refl _) hHP e2 (fun q hq => ?_) (fun q hq => by cases hq) (fun z hz => by cases hz)
    · rw [Nat.sub_self, Nat.sub_self] at g
      rw [e1]
      exact g
    · obtain ⟨s47, s48, s49, s50, s56, s62, s63⟩ := hse pc k a j n ts ht
      have hd9 := hd _ _ ht
      obtain ⟨hx, hb, hml2, hown, hts2, hK2⟩ := hC
      simp only [List.contains_cons, List.contains_nil, Bool.or_false, Bool.or_eq_true, beq_iff_eq] at hk
      rcases hk with rfl | rfl | rfl | rfl | rfl | rfl | rfl
      · have hop : sl_iret st m1 j = some x := hop
        obtain ⟨y, hy, h2⟩ := sl_p_iret hop
        cases hy; exact absurd hx2 h2
      · have hop : sl_aret st m1 j = some x := hop
        obtain ⟨y, hy, h2⟩ := sl_p_aret hop
        cases hy; exact absurd hx2 h2
      · have hop : sl_nret st m1 j = some x := hop
        obtain ⟨y, hy, h2⟩ := sl_p_nret hop
        cases hy; exact absurd hx2 h2
      · have hop : sl_vret st m1 = some x := hop
        obtain ⟨y, hy, h2⟩ := sl_p_vret hop
        cases hy; exact absurd hx2 h2
      · replace hop : sl_thr st m1 = some x := hop
        unfold sl_thr at hop
        split at hop
        · cases hop
          obtain ⟨hown9, ⟨is, his, d0, d3, d4, d6, d9⟩, hf5, hl82⟩ := s56 rfl
          rw [hown9] at hown
          intro H locs ls a1 a2 a3 a4 a5 a6 a7 a8 a9 a10
          have hNW : ∀ w ∈ sl_NW, w.before (as.map (sl_v ad)).toArray s = true := fun w hw => va_Nw.use (sl_nw_tab w hw) (hKK.2.2.1 w hw)
          have hat := vx_hat (L := vx_atS RX10 244 sl_IX ["java/lang/RuntimeException", "java/lang/Exception"]) (fun w hw => hts2 w (sl_gw (sl_tw1 w hw) (List.mem_filter.mp hw).2)) sl_tw2 hNW
          have hSS : va_S (fun q => base ≤ q) s.heap H locs := ⟨a5, fun q _ hq => by rw [a6.2.2.1 q (Nat.not_le.mp hq), hHP.2.2.1 q (Nat.not_le.mp hq)], a10⟩
          have hxc : ∀ t : State, s.vm.Alike t.vm → H.size ≤ t.heap.size → (∀ q : Nat, q < H.size → t.heap[q]? = H[q]?) → sl_XC ad base NA Hb D cA ln rd VR MI cn m m1 sl_IX s t := fun t _ hz hq9 => ⟨rfl, sl_HP_grow (hNA (h56 _ _ _ _ _ _ ht rfl) m1) a6 hz hq9, by omega, a4, a1⟩
          rcases his with rfl | rfl
          · obtain ⟨sa, hsa⟩ := hKK.2.2.2.2.2.1
            exact vx_throwS hx hb hst (own := RX10) (cls := sl_IX) (text := "there is no such end") (names := ["java/lang/RuntimeException", "java/lang/Exception"]) hown (by decide +kernel) (by decide +kernel) (hts2 _ (sl_gw sl_tw4.1 (by decide +kernel))) (hts2 _ (sl_gw sl_tw4.2 (by decide +kernel))) hsa hat sl_tw3 hKK.2.2.2.1 hKK.2.2.2.2.1 hSS (a7.1.trans hml2.symm) d0 d3 d4 d6 d9 (fun x9 hx9 => (htab9 x9 hx9).elim) hf5 hl82 (Nat.le_refl _) (Nat.le_refl _) hlk hxc a10 (Nat.le_refl _) (Nat.le_refl _)
          · obtain ⟨sa, hsa⟩ := hKK.2.2.2.2.2.2
            exact vx_throwS hx hb hst (own := RX10) (cls := sl_IX) (text := "there is no such line") (names := ["java/lang/RuntimeException", "java/lang/Exception"]) hown (by decide +kernel) (by decide +kernel) (hts2 _ (sl_gw sl_tw4.1 (by decide +kernel))) (hts2 _ (sl_gw sl_tw4.2 (by decide +kernel))) hsa hat sl_tw3 hKK.2.2.2.1 hKK.2.2.2.2.1 hSS (a7.1.trans hml2.symm) d0 d3 d4 d6 d9 (fun x9 hx9 => (htab9 x9 hx9).elim) hf5 hl82 (Nat.le_refl _) (Nat.le_refl _) hlk hxc a10 (Nat.le_refl _) (Nat.le_refl _)
        · cases hop
      · exact absurd rfl s62
      · exact absurd rfl s63
    · have hq : some (.inr (.inl (some q))) ∈ sl_lo mL as := hq
      unfold sl_lo at hq
      rcases List.mem_append.mp hq with hq | hq
      · obtain ⟨z, hz, he⟩ := List.mem_map.mp hq
        cases he
        exact hv q hz
      · exact absurd (List.eq_of_mem_replicate hq) (by simp)
end SLM
