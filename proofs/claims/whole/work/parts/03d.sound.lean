section SLK
variable {M : Type}
variable {p : Program} {l : Launch} {e : Env} {R : Room} {s : State} {mid : MethodId} {args : Array Value} {below : List Frame} {meth : Method} {c : Code} {ad : Nat → Nat → Nat} {base NA : Nat} {Hb : Heap} {D : va_G} {cA : Nat → ClassId} {ln : Nat → Nat → Nat} {rd : M → Nat → Nat → Nat → sl_V} {VR : M → Nat × Nat → Prop} {MI : M → Prop} {cn sn : M → Nat} {nL : Nat} {x : sl_PL × M} {Q : State → Prop} {m0 : M} {m : M}
variable {wr : M → Nat → Nat → Nat → sl_V → Option M} {al : M → Nat → Int32 → Option ((Nat × Nat) × M)} {cc : ByteArray} {ck : Nat → Nat} {own : String} {X : sl_S → M → Option (sl_PL × M)} {pc n j : Nat} {a : Int32} {ts : List Nat} {lo : List (Option sl_V)} {st : List sl_V}
/-! calls -/
def sl_IX : String := "java/lang/IndexOutOfBoundsException"
def sl_NW : List Cond := [.methodLinkNest RX10 11 yX8_init RX10, .methodLinkNest RX10 18 yX9_init RX10, .methodLinkNest RX10 61 yX3_init RX10, .methodLinkNest RX4 30 yX2_init RX10, .methodLinkNest RX1 25 yX3_init RX10,
  .declares (Bundle.initS "java/lang/RuntimeException"), .declares (Bundle.initS "java/lang/Exception"), .declares (Bundle.initS Bundle.tN), .castable sl_IX sl_IX]
def sl_KK (D : va_G) (cA : Nat → ClassId) (base : Nat) (U : State) : Prop := va_K D sl_cls (sl_tys cA) U ∧ va_AO "SerialLink$Frame" U ∧ (∀ w ∈ sl_NW, va_Nw w U) ∧
  vx_Zq Bundle.tN "UNASSIGNED_STACK" Bundle.steD (fun q => base ≤ q) U U.heap ∧ vx_Zq Bundle.tN "SUPPRESSED_SENTINEL" Bundle.listD (fun q => base ≤ q) U U.heap ∧ (∃ a, vk_R RX10 242 "there is no such end" a U) ∧ (∃ a, vk_R RX10 247 "there is no such line" a U)
theorem sl_nw_warm {s U : State} (hW : s.WarmedH U.vm) : ∀ w ∈ sl_NW, va_Nw w s → va_Nw w U := by
  intro w hw h
  unfold sl_NW at hw
  simp only [List.mem_cons, List.not_mem_nil, or_false] at hw
  rcases hw with rfl | rfl | rfl | rfl | rfl | rfl | rfl | rfl | rfl
  · exact va_Nw.warmM hW h
  · exact va_Nw.warmM hW h
  · exact va_Nw.warmM hW h
  · exact va_Nw.warmM hW h
  · exact va_Nw.warmM hW h
  · exact va_Nw.warmD hW h
  · exact va_Nw.warmD hW h
  · exact va_Nw.warmD hW h
  · exact va_Nw.warmC hW h
theorem sl_nw_tab : ∀ w ∈ sl_NW, w.onTables = true := by
  intro w hw
  unfold sl_NW at hw
  simp only [List.mem_cons, List.not_mem_nil, or_false] at hw
  rcases hw with rfl | rfl | rfl | rfl | rfl | rfl | rfl | rfl | rfl <;> rfl
theorem sl_KK_move {s U : State} {base : Nat} {D : va_G} {cA : Nat → ClassId} (h : sl_KK D cA base s) (hW : s.WarmedH U.vm) (hb : ∀ q : Nat, q < base → U.heap[q]? = s.heap[q]?) : sl_KK D cA base U := by
  obtain ⟨h1, h2, h3, h4, h5, ⟨a1, h6⟩, ⟨a2, h7⟩⟩ := h
  exact ⟨va_K.moved hW.alike h1, va_AO.moved hW.alike h2, fun w hw => sl_nw_warm hW w hw (h3 w hw), vx_Zq.moved hW.alike (h4.kept (fun a _ ha => hb a (Nat.not_le.mp ha))), vx_Zq.moved hW.alike (h5.kept (fun a _ ha => hb a (Nat.not_le.mp ha))), ⟨a1, vk_R.warm hW h6⟩, ⟨a2, vk_R.warm hW h7⟩⟩
theorem sl_KK_blind {base : Nat} {D : va_G} {cA : Nat → ClassId} {U : State} (g : JFrame) (mk : MethodId) (a9 : Array Value) (h : sl_KK D cA base U) : sl_KK D cA base (U.calling g mk a9) := by
  obtain ⟨h1, h2, h3, h4, h5, ⟨a1, h6⟩, ⟨a2, h7⟩⟩ := h
  exact ⟨va_K.moved (u := U) (U := U.calling g mk a9) (Vm.Alike.refl U.vm) h1, va_AO.moved (u := U) (U := U.calling g mk a9) (Vm.Alike.refl U.vm) h2, fun w hw => va_Nw.same (u := U) (U := U.calling g mk a9) (sl_nw_tab w hw) rfl (h3 w hw),
    vx_Zq.moved (u := U) (U := U.calling g mk a9) (Vm.Alike.refl U.vm) h4, vx_Zq.moved (u := U) (U := U.calling g mk a9) (Vm.Alike.refl U.vm) h5, ⟨a1, vk_R.same (u := U) (U := U.calling g mk a9) rfl h6⟩, ⟨a2, vk_R.same (u := U) (U := U.calling g mk a9) rfl h7⟩⟩
section SLJ
variable {M : Type} (ad : Nat → Nat → Nat) (base NA : Nat) (Hb : Heap) (D : va_G) (cA : Nat → ClassId) (ln : Nat → Nat → Nat) (rd : M → Nat → Nat → Nat → sl_V) (VR : M → Nat × Nat → Prop) (MI : M → Prop) (cn sn : M → Nat)
def sl_Pc (as : List sl_V) (m : M) : Array Value → State → Prop := fun v U => v = (as.map (sl_v ad)).toArray ∧ sl_HP ad base NA Hb D cA ln rd VR cn m U.heap ∧ sl_KK D cA base U
def sl_rv (rk rc : Nat) (pl : sl_PL) : Option Value := match rk with
  | 0 => none
  | 1 => some (.int pl.1)
  | 2 => some (.ref (ad rc pl.2.1))
  | _ => if pl.2.2 = 1 then some .null else some (.ref (ad rc pl.2.1))
def sl_okr (rk rc : Nat) (x : sl_PL × M) : Prop := (rk = 2 → VR x.2 (rc, x.1.2.1)) ∧ (3 ≤ rk → x.1.2.2 ≠ 1 → VR x.2 (rc, x.1.2.1))
def sl_Qc (rk rc : Nat) (m : M) (x : sl_PL × M) : Array Value → State → Outcome → State → Prop := fun _ st o t => o = .returned (sl_rv ad rk rc x.1) ∧ sl_HP ad base NA Hb D cA ln rd VR cn x.2 t.heap ∧ st.heap.size ≤ t.heap.size ∧ MI x.2 ∧ (∀ q, VR m q → VR x.2 q) ∧ sl_okr VR rk rc x
def sl_XC (m m1 : M) : String → State → State → Prop := fun E st t => E = sl_IX ∧ sl_HP ad base NA Hb D cA ln rd VR cn m1 t.heap ∧ st.heap.size ≤ t.heap.size ∧ MI m1 ∧ (∀ q, VR m q → VR m1 q)
/-- what a function's answers have at any rate -/
def sl_Cp (th : Nat) (F : List sl_V → M → Option (sl_PL × M)) : Prop := ∀ (as : List sl_V) (m : M) (x : sl_PL × M), F as m = some x → cn m ≤ cn x.2 ∧ sn m ≤ sn x.2 ∧ (th = 0 → x.1.2.2 ≠ 2)
def sl_Ct (l : Launch) (Y : MethodName) (B : ByteArray) (mL : Nat) (ret : Option FieldType) (fr lc rk rc : Nat) (F : List sl_V → M → Option (sl_PL × M)) : Prop :=
  ∀ (as : List sl_V) (m : M) (x : sl_PL × M), F as m = some x → MI m → (∀ q, .inr (.inl (some q)) ∈ as → VR m q) → as.all sl_c1 = true → as.length ≤ mL →
    (x.1.2.2 ≠ 2 → Met l Y (.code Y B mL ret :: sl_GW) { frames := fr, cells := cn x.2 - cn m, slots := sn x.2 - sn m, locals := lc } (sl_Pc ad base NA Hb D cA ln rd VR cn as m) (sl_Qc ad base NA Hb D cA ln rd VR MI cn rk rc m x) (cn x.2 - cn m) (sn x.2 - sn m) (fun q => base ≤ q)) ∧
    (x.1.2.2 = 2 → vx_Met l Y (.code Y B mL ret :: sl_GW) { frames := fr, cells := cn x.2 - cn m + 1, slots := sn x.2 - sn m + 6, locals := lc } (sl_Pc ad base NA Hb D cA ln rd VR cn as m) (fun _ _ _ _ => False) (sl_XC ad base NA Hb D cA ln rd VR MI cn m x.2) (cn x.2 - cn m + 1) (sn x.2 - sn m + 6) (fun q => base ≤ q))
end SLJ
/-- what the tables say of a call; kinds: 0 virtual, 1 static, 2 a constructor, 3 a nest mate's -/
def sl_cok (own : String) (j k9 : Nat) (Y : MethodName) (B : ByteArray) (mL : Nat) (ret : Option FieldType) (na rv fr lc rf rl : Nat) : Prop :=
  na ≤ mL ∧ Cond.code Y B mL ret ∈ sl_GW ∧ Cond.initialized Y.cls ∈ sl_GW ∧ (Y.cls ≠ "java/lang/invoke/MethodHandle" ∧ Y.cls ≠ "java/lang/invoke/VarHandle" ∧ (parseMethodDescriptor Y.desc).map (fun d => d.parameters.length) = some (if rv = 0 then na else na - 1)) ∧ (fr + 1 ≤ rf ∧ 8 + (mL + 11) + lc ≤ rl) ∧
  ((k9 = 0 ∧ Cond.methodLink own j Y ∈ sl_GW ∧ Cond.instanceMethod Y ∈ sl_GW ∧ Cond.selects Y.cls Y Y ∈ lw_tbl ∧ goodWord (Cond.selects Y.cls Y Y) = true ∧ ∃ ci, rv = ci + 1 ∧ ci < 12 ∧ sl_RX ci = Y.cls) ∨
   (k9 = 1 ∧ Cond.methodLink own j Y ∈ sl_GW ∧ Cond.static Y ∈ sl_GW ∧ rv = 0) ∨
   (k9 = 2 ∧ Cond.methodLink own j Y ∈ sl_GW ∧ Cond.instanceMethod Y ∈ sl_GW ∧ Y.name = "<init>" ∧ ret = none ∧ rv ≠ 0) ∨
   (k9 = 3 ∧ (∃ host, Cond.methodLinkNest own j Y host ∈ sl_NW) ∧ Cond.instanceMethod Y ∈ sl_GW ∧ Y.name = "<init>" ∧ ret = none ∧ rv ≠ 0))
theorem sl_pre {H : Heap} {as : List sl_V} (hKK : sl_KK D cA base s) (hP : sl_HP ad base NA Hb D cA ln rd VR cn m H) (hPs : ∀ q : Nat, q < base → H[q]? = s.heap[q]?) : FrameBlind (sl_Pc ad base NA Hb D cA ln rd VR cn as m) ∧ ∀ U : State, U.heap = H → s.WarmedH U.vm → sl_Pc ad base NA Hb D cA ln rd VR cn as m (as.map (sl_v ad)).toArray U := by
  refine ⟨fun a9 U g mk h => ⟨h.1, h.2.1, sl_KK_blind g mk a9 h.2.2⟩, fun U hU hW => ⟨rfl, by rw [hU]; exact hP, sl_KK_move hKK hW (fun q hq => by rw [hU]; exact hPs q hq)⟩⟩
theorem sl_dcall {k9 : Nat} (hd : sl_okd cc ck pc (46, a, j, n, ts) = true) (hk : ck j = k9) : n = 3 ∧ ((k9 = 0 ∧ decode cc pc = .ok (.invokevirtual j, 3)) ∨ (k9 = 1 ∧ decode cc pc = .ok (.invokestatic j, 3)) ∨ ((k9 = 2 ∨ k9 = 3) ∧ decode cc pc = .ok (.invokespecial j, 3))) := by
  obtain ⟨i, hi, ho⟩ := sl_d4 hd rfl rfl rfl rfl
  rw [hk] at ho
  unfold sl_okc at ho
  split at ho <;> first | exact Bool.noConfusion (show false = true from ho) | skip
  · simp only [Bool.and_eq_true, Nat.beq_eq] at ho
    obtain ⟨-, rfl, rfl, h0⟩ := ho
    exact ⟨rfl, Or.inl ⟨h0, hi⟩⟩
  · simp only [Bool.and_eq_true, Nat.beq_eq] at ho
    obtain ⟨-, rfl, rfl, h0⟩ := ho
    exact ⟨rfl, Or.inr (Or.inl ⟨h0, hi⟩)⟩
  · simp only [Bool.and_eq_true, Bool.or_eq_true, Nat.beq_eq] at ho
    rcases ho with ⟨-, rfl, rfl, h0⟩ | ⟨h0, -⟩
    · exact ⟨rfl, Or.inr (Or.inr ⟨h0, hi⟩)⟩
    · exact absurd h0 (by decide)
theorem sl_rc_in {rv ci : Nat} {as : List sl_V} (h : sl_rc rv as = true) (hr : rv = ci + 1) : ∃ i r, as = .inr (.inl (some (ci, i))) :: r := by
  subst hr
  have h : sl_rc1 ci as = true := h
  rcases as with _ | ⟨v, r⟩
  · cases h
  · rcases v with z | (_ | ⟨c9, i9⟩) | y
    · cases h
    · cases h
    · have h9 : c9 = ci := eq_of_beq h
      subst h9
      exact ⟨i9, r, rfl⟩
    · cases h
theorem sl_va {H : Heap} {locs : List Loc} {cells slots mc ms : Nat} {ls : Array Slot} {as r : List sl_V} {Y : MethodName} {B : ByteArray} {mL : Nat} {ret : Option FieldType} {na rv fr lc k9 : Nat} {Qc : Array Value → State → Outcome → State → Prop} {free : Addr → Prop} (hC : sl_Cx p s mid args c cc nL own D cA) (hKK : sl_KK D cA base s) (hP : sl_HP ad base NA Hb D cA ln rd VR cn m H) (hPs : ∀ q : Nat, q < base → H[q]? = s.heap[q]?) (hd : sl_okd cc ck pc (46, a, j, n, ts) = true) (hk : ck j = k9)
    (hok : sl_cok own j k9 Y B mL ret na rv fr lc R.frames R.locals) (hTs : (∀ w ∈ (Cond.code Y B mL ret :: sl_GW : List Cond), w.before args s = true)) (hrc : sl_rc rv as = true) (hna : as.length = na) (hv : ∀ q, .inr (.inl (some q)) ∈ as → VR m q) (hls : ls.size = nL) (hsum : sl_cs r ≤ 8) (hcs : cells + mc ≤ R.cells ∧ slots + ms ≤ R.slots)
    (hMet : Met l Y (.code Y B mL ret :: sl_GW) { frames := fr, cells := mc, slots := ms, locals := lc } (sl_Pc ad base NA Hb D cA ln rd VR cn as m) Qc mc ms free) :
    va_Run p l e R s mid args below meth c H locs cells slots mc ms (F0 mid pc ls ((as.reverse ++ r).map (sl_v ad))) (r.map (sl_v ad)) (Qc (as.map (sl_v ad)).toArray) free := by
  obtain ⟨hx, hb, hml, hown, hts, hK⟩ := hC
  obtain ⟨k0, k1, k2, ⟨k3, k4, k5⟩, k6, k7⟩ := hok
  obtain ⟨rfl, hdd⟩ := sl_dcall hd hk
  obtain ⟨hbl, hpc⟩ := sl_pre (as := as) hKK hP hPs
  have hG : GoodIn (Cond.code Y B mL ret :: sl_GW) (Cond.code Y B mL ret :: sl_GW) := sl_gin k1
  have S : CallFix p mid c cc nL s args (Cond.code Y B mL ret :: sl_GW) own := ⟨hx, hb, hml, hown, hTs⟩
  have hroom := lv_room (m := mid) (pc := pc) (ls := ls) (rest := (as.reverse ++ r).map (sl_v ad)) (st := r.map (sl_v ad)) (by rw [sl_csum]; exact hsum)
  rcases k7 with ⟨e0, q1, q2, q3, q4, ci, hrv, hci, hcls⟩ | ⟨e0, q1, q2, hrv⟩ | ⟨e0, q1, q2, q3, q4, hrv⟩ | ⟨e0, ⟨host, q1⟩, q2, q3, q4, hrv⟩
  · obtain ⟨i9, as9, rfl⟩ := sl_rc_in hrc hrv
    have hdg : decode cc pc = .ok (.invokevirtual j, 3) := by
      rcases hdd with ⟨-, h⟩ | ⟨h, -⟩ | ⟨h, -⟩
      · exact h
      · omega
      · omega
    obtain ⟨cell, c1, c2, c3, -⟩ := (hP.2.2.2 ci i9 (hv _ List.mem_cons_self)).1 hci
    have hfc := (hK.1 ci _ (sl_cls_at hci)).2.1
    have hst : ((Sum.inr (Sum.inl (some (ci, i9))) :: as9 : List sl_V).reverse ++ r).map (sl_v ad) = (as9.map (sl_v ad)).reverse ++ .ref (ad ci i9) :: r.map (sl_v ad) := by
      rw [List.reverse_cons, List.append_assoc, List.map_append, List.map_reverse]; rfl
    rw [hst]
    rw [hst] at hroom
    exact va_runV (As := as9.map (sl_v ad)) (rest := r.map (sl_v ad)) (C := Y.cls) (n := as9.length) S hMet ⟨callB_of as9.length hTs hG rfl rfl rfl (hts _ k2) (hts _ q1) ⟨k3, k4, by rw [k5, if_neg (by omega), ← hna]; simp⟩ k6, hts _ q2, hts _ (sl_gw q3 q4)⟩ ⟨hbl, ⟨cell, c1, by rw [c3]; rfl, by rw [c2, ← hcls]; exact hfc⟩, hpc⟩ rfl (by rw [List.length_map]) hls rfl hroom hdg hcs
  · have hdg : decode cc pc = .ok (.invokestatic j, 3) := by
      rcases hdd with ⟨h, -⟩ | ⟨-, h⟩ | ⟨h, -⟩
      · omega
      · exact h
      · omega
    have hst : (as.reverse ++ r).map (sl_v ad) = (as.map (sl_v ad)).reverse ++ r.map (sl_v ad) := by
      rw [List.map_append, List.map_reverse]
    rw [hst]
    rw [hst] at hroom
    exact va_runS (As := as.map (sl_v ad)) (rest := r.map (sl_v ad)) (n := as.length) S hMet ⟨callB_of as.length hTs hG rfl rfl rfl (hts _ k2) (hts _ q1) ⟨k3, k4, by rw [k5, if_pos hrv, hna]⟩ k6, hts _ q2⟩ ⟨hbl, hpc⟩ rfl (by rw [List.length_map]) hls rfl hroom hdg hcs
  · obtain ⟨ci, hrv⟩ := Nat.exists_eq_succ_of_ne_zero hrv
    obtain ⟨i9, as9, rfl⟩ := sl_rc_in hrc hrv
    subst q4
    have hdg : decode cc pc = .ok (.invokespecial j, 3) := by
      rcases hdd with ⟨h, -⟩ | ⟨h, -⟩ | ⟨-, h⟩
      · omega
      · omega
      · exact h
    have hst : ((Sum.inr (Sum.inl (some (ci, i9))) :: as9 : List sl_V).reverse ++ r).map (sl_v ad) = (as9.map (sl_v ad)).reverse ++ .ref (ad ci i9) :: r.map (sl_v ad) := by
      rw [List.reverse_cons, List.append_assoc, List.map_append, List.map_reverse]; rfl
    rw [hst]
    rw [hst] at hroom
    exact va_runI (As := as9.map (sl_v ad)) (rest := r.map (sl_v ad)) (n := as9.length) S hMet (cwI as9.length hTs hG rfl rfl rfl (hts _ k2) (hts _ q1) (hts _ q2) q3 ⟨k3, k4, by rw [k5, if_neg (by omega), ← hna]; simp⟩ k6) ⟨hbl, hpc⟩ rfl (by rw [List.length_map]) hls rfl hroom hdg hcs
  · obtain ⟨ci, hrv⟩ := Nat.exists_eq_succ_of_ne_zero hrv
    obtain ⟨i9, as9, rfl⟩ := sl_rc_in hrc hrv
    subst q4
    have hdg : decode cc pc = .ok (.invokespecial j, 3) := by
      rcases hdd with ⟨h, -⟩ | ⟨h, -⟩ | ⟨-, h⟩
      · omega
      · omega
      · exact h
    have hst : ((Sum.inr (Sum.inl (some (ci, i9))) :: as9 : List sl_V).reverse ++ r).map (sl_v ad) = (as9.map (sl_v ad)).reverse ++ .ref (ad ci i9) :: r.map (sl_v ad) := by
      rw [List.reverse_cons, List.append_assoc, List.map_append, List.map_reverse]; rfl
    rw [hst]
    rw [hst] at hroom
    exact va_runIN (As := as9.map (sl_v ad)) (rest := r.map (sl_v ad)) (n := as9.length) S hMet ⟨va_cnB as9.length hTs hG rfl rfl rfl (hKK.2.2.1 _ q1) (hts _ k2) ⟨k3, k4, by rw [k5, if_neg (by omega), ← hna]; simp⟩ k6, q3, hts _ q2⟩ ⟨hbl, hpc⟩ rfl (by rw [List.length_map]) hls rfl hroom hdg hcs
/-- behind a call that returned -/
theorem sl_ret {H : Heap} {locs : List Loc} {cells slots mc ms : Nat} {ls : Array Slot} {g0 : List Value} {rest : List Value} {Qa : State → Outcome → State → Prop} {free : Addr → Prop} (hr : va_Run p l e R s mid args below meth c H locs cells slots mc ms (F0 mid pc ls g0) rest Qa free) {w : Option Value} (hq : ∀ st v t, Qa st (.returned v) t → v = w)
    (kk : ∀ (t : State) (st : State) (L : List Loc), st.heap = H → Qa st (.returned w) t → (∀ q ∈ L, free q.base) → W p l e R s mid args below meth c t.heap (locs ++ L) (cells + mc) (slots + ms) Q (F0 mid (pc + 3) ls (w.toList ++ rest))) : W p l e R s mid args below meth c H locs cells slots Q (F0 mid pc ls g0) := by
  intro T hT XT
  obtain ⟨v, st₀, t, T', L, h0, X', hL, e1, e2, hqa, st⟩ := hr T hT XT
  obtain rfl := hq _ _ _ hqa
  obtain ⟨t2, a1, b1⟩ := kk t st₀ L h0 hqa hL T' e1 X'
  exact ⟨t2, st t2 a1, b1⟩

theorem sl_rv_str (rk rc : Nat) (pl : sl_PL) (r : List sl_V) : ∃ S1 : List sl_V, (sl_rv ad rk rc pl).toList ++ r.map (sl_v ad) = S1.map (sl_v ad) ∧ (∀ (X : sl_S → M → Option (sl_PL × M)) (pc n : Nat) (lo : List (Option sl_V)) (m1 : M), sl_back X pc n lo rk rc (pl, m1) r = X (pc + n, lo, S1) m1) ∧ ∀ q, .inr (.inl (some q)) ∈ S1 → .inr (.inl (some q)) ∈ r ∨ (q = (rc, pl.2.1) ∧ (rk = 2 ∨ (3 ≤ rk ∧ pl.2.2 ≠ 1))) := by
  match rk with
  | 0 => exact ⟨r, rfl, fun _ _ _ _ _ => rfl, fun q hq => Or.inl hq⟩
  | 1 => exact ⟨.inl pl.1 :: r, rfl, fun _ _ _ _ _ => rfl, fun q hq => Or.inl (sl_q1 q hq)⟩
  | 2 => exact ⟨.inr (.inl (some (rc, pl.2.1))) :: r, rfl, fun _ _ _ _ _ => rfl, fun q hq => by
      rcases List.mem_cons.mp hq with hq | hq
      · cases hq; exact Or.inr ⟨rfl, Or.inl rfl⟩
      · exact Or.inl hq⟩
  | k + 3 =>
    by_cases h1 : pl.2.2 = 1
    · refine ⟨.inr (.inl none) :: r, ?_, fun X pc n lo m1 => ?_, fun q hq => ?_⟩
      · show (if pl.2.2 = 1 then some Value.null else some (.ref (ad rc pl.2.1))).toList ++ _ = _
        rw [if_pos h1]; rfl
      · show (if pl.2.2 = 1 then X (pc + n, lo, .inr (.inl none) :: r) m1 else X (pc + n, lo, .inr (.inl (some (rc, pl.2.1))) :: r) m1) = _
        rw [if_pos h1]
      · rcases List.mem_cons.mp hq with hq | hq
        · cases hq
        · exact Or.inl hq
    · refine ⟨.inr (.inl (some (rc, pl.2.1))) :: r, ?_, fun X pc n lo m1 => ?_, fun q hq => ?_⟩
      · show (if pl.2.2 = 1 then some Value.null else some (.ref (ad rc pl.2.1))).toList ++ _ = _
        rw [if_neg h1]; rfl
      · show (if pl.2.2 = 1 then X (pc + n, lo, .inr (.inl none) :: r) m1 else X (pc + n, lo, .inr (.inl (some (rc, pl.2.1))) :: r) m1) = _
        rw [if_neg h1]
      · rcases List.mem_cons.mp hq with hq | hq
        · cases hq; exact Or.inr ⟨rfl, Or.inr ⟨by omega, h1⟩⟩
        · exact Or.inl hq
theorem sl_call_in {call : Nat → List sl_V → M → Option (sl_PL × M)} {f : Option sl_C} (h : sl_call X pc n lo st m call f = some x) : ∃ (y na rk rc th rv : Nat) (as r : List sl_V) (q : sl_PL × M), f = some (y, na, rk, rc, th, rv) ∧ st = as.reverse ++ r ∧ as.length = na ∧ sl_rc rv as = true ∧ as.all sl_c1 = true ∧ sl_cs r ≤ 8 ∧ call y as m = some q ∧ ((th ≠ 0 ∧ q.1.2.2 = 2 ∧ x = ((0, 0, 2), q.2)) ∨ ((th = 0 ∨ q.1.2.2 ≠ 2) ∧ sl_back X pc n lo rk rc q r = some x)) := by
  unfold sl_call at h
  split at h
  · rename_i y na rk rc th rv
    cases hc : (sl_rc rv (st.take na).reverse && ((st.take na).all sl_c1 && (Nat.ble (sl_cs (st.drop na)) 8 && Nat.beq (st.take na).length na))) with
    | false => rw [hc] at h; cases h
    | true =>
      rw [hc, cond_true] at h
      simp only [Bool.and_eq_true, Nat.beq_eq] at hc
      obtain ⟨c1, c2, c3, c4⟩ := hc
      have hst : st = (st.take na).reverse.reverse ++ st.drop na := by rw [List.reverse_reverse, List.take_append_drop]
      have c2' : (st.take na).reverse.all sl_c1 = true := by rw [List.all_reverse]; exact c2
      split at h
      · obtain ⟨q, hq, h⟩ := Option.bind_eq_some_iff.mp h
        exact ⟨y, na, rk, rc, 0, rv, _, _, q, rfl, hst, by rw [List.length_reverse]; exact c4, c1, c2', Nat.le_of_ble_eq_true c3, hq, Or.inr ⟨Or.inl rfl, h⟩⟩
      · rename_i hth
        obtain ⟨q, hq, h⟩ := Option.bind_eq_some_iff.mp h
        split at h
        · rename_i h2
          exact ⟨y, na, rk, rc, th, rv, _, _, q, rfl, hst, by rw [List.length_reverse]; exact c4, c1, c2', Nat.le_of_ble_eq_true c3, hq, Or.inl ⟨hth, h2, (Option.some.inj h).symm⟩⟩
        · rename_i h2
          exact ⟨y, na, rk, rc, th, rv, _, _, q, rfl, hst, by rw [List.length_reverse]; exact c4, c1, c2', Nat.le_of_ble_eq_true c3, hq, Or.inr ⟨Or.inr h2, h⟩⟩
  · cases h
theorem sl_hTs (hC : sl_Cx p s mid args c cc nL own D cA) {w9 : Cond} (h : w9 ∈ sl_GW) : ∀ w ∈ (w9 :: sl_GW : List Cond), w.before args s = true := by
  intro w hw
  rcases List.mem_cons.mp hw with hw | hw
  · rw [hw]; exact hC.2.2.2.2.1 _ h
  · exact hC.2.2.2.2.1 _ hw
theorem sl_s_call {call : Nat → List sl_V → M → Option (sl_PL × M)} {f : Option sl_C} (hC : sl_Cx p s mid args c cc nL own D cA) (hKK : sl_KK D cA base s) (hM : sl_Mem ad base NA ln rd VR cn wr al MI sn) (hd : sl_okd cc ck pc (46, a, j, n, ts) = true) 
    (hsb : ∀ q : Nat, q < base → s.heap[q]? = Hb[q]?)
    (hw : ∀ y na rk rc th rv, f = some (y, na, rk, rc, th, rv) → ∃ (Y : MethodName) (B : ByteArray) (mL : Nat) (ret : Option FieldType) (fr lc : Nat), sl_cok own j (ck j) Y B mL ret na rv fr lc R.frames R.locals ∧ (th ≠ 0 → ck j = 0) ∧ sl_Cp cn sn th (call y) ∧ sl_Ct ad base NA Hb D cA ln rd VR MI cn sn l Y B mL ret fr lc rk rc (call y))
    (hmo : ∀ S1 m1, X S1 m1 = some x → cn m1 ≤ cn x.2 ∧ sn m1 ≤ sn x.2) (hR : cn x.2 - cn m0 + (if x.1.2.2 = 2 then 1 else 0) ≤ R.cells ∧ sn x.2 - sn m0 + (if x.1.2.2 = 2 then 6 else 0) ≤ R.slots)
    (hT : x.1.2.2 = 2 → Q = vx_MQ below (fun _ _ _ _ => False) (sl_XC ad base NA Hb D cA ln rd VR MI cn m0 x.2) args s (cn x.2 - cn m0 + 1) (sn x.2 - sn m0 + 6) (fun q => base ≤ q)) (htab : x.1.2.2 = 2 → ∀ x9 ∈ c.exceptionTable.toList, covers x9 pc = false) (hlocks : meth.locks = false)
    (h : sl_call X pc n lo st m call f = some x) (ih : ∀ S1 m1, X S1 m1 = some x → sl_G p l e R s mid args below meth c ad base NA Hb D cA ln rd VR MI cn sn nL x Q m0 S1 m1) : sl_G p l e R s mid args below meth c ad base NA Hb D cA ln rd VR MI cn sn nL x Q m0 (pc, lo, st) m := by
  obtain ⟨y, na, rk, rc, th, rv, as, r, q, rfl, rfl, hna, hrc, hall, hsum, hq, hcase⟩ := sl_call_in h
  obtain ⟨Y, B, mL, ret, fr, lc, hok, hth0, hcp, hct⟩ := hw y na rk rc th rv rfl
  obtain ⟨hn3, -⟩ := sl_dcall hd rfl
  subst hn3
  intro H locs ls a1 a2 a3 a4 a5 a6 a7 a8 a9 a10
  have hva : ∀ q, .inr (.inl (some q)) ∈ as → VR m q := fun q hq => a9 q (List.mem_append_left _ (List.mem_reverse.mpr hq))
  obtain ⟨m1, m2, m3⟩ := hcp as m q hq
  obtain ⟨hret, hthr⟩ := hct as m q hq a4 hva hall (by have := hok.1; omega)
  have hPs : ∀ q : Nat, q < base → H[q]? = s.heap[q]? := fun q hq => by rw [a6.2.2.1 q hq, hsb q hq]
  have hts1 := sl_hTs hC hok.2.1
  obtain ⟨pl, mq⟩ := q
  dsimp only at m1 m2 m3 hret hthr hcase
  rcases hcase with ⟨hth, hfl, rfl⟩ | ⟨hfl, hb⟩
  · have hT := hT rfl
    have htab := htab rfl
    subst hT
    have hM2 := hthr hfl
    obtain ⟨k0, k1, k2, ⟨k3, k4, k5⟩, k6, k7⟩ := hok
    rcases k7 with ⟨e0, q1, q2, q3, q4, ci, hrv, hci, hcls⟩ | ⟨e0, -⟩ | ⟨e0, -⟩ | ⟨e0, -⟩
    · obtain ⟨hx, hb9, hml, hown, hts, hK⟩ := hC
      obtain ⟨i9, as9, rfl⟩ := sl_rc_in hrc hrv
      obtain ⟨hbl, hpc⟩ := sl_pre (as := .inr (.inl (some (ci, i9))) :: as9) hKK a6 hPs
      have hdg : decode cc pc = .ok (.invokevirtual j, 3) := by
        rcases (sl_dcall hd rfl).2 with ⟨-, h⟩ | ⟨h, -⟩ | ⟨h, -⟩
        · exact h
        · omega
        · omega
      obtain ⟨cell, c1, c2, c3, -⟩ := (a6.2.2.2 ci i9 (hva _ List.mem_cons_self)).1 hci
      have hfc := (hK.1 ci _ (sl_cls_at hci)).2.1
      have hst : ((Sum.inr (Sum.inl (some (ci, i9))) :: as9 : List sl_V).reverse ++ r).map (sl_v ad) = (as9.map (sl_v ad)).reverse ++ .ref (ad ci i9) :: r.map (sl_v ad) := by
        rw [List.reverse_cons, List.append_assoc, List.map_append, List.map_reverse]; rfl
      have hroom := lv_room (m := mid) (pc := pc) (ls := ls) (rest := ((Sum.inr (Sum.inl (some (ci, i9))) :: as9 : List sl_V).reverse ++ r).map (sl_v ad)) (st := r.map (sl_v ad)) (by rw [sl_csum]; exact hsum)
      dsimp only
      rw [hst] at hroom ⊢
      have hG : GoodIn (Cond.code Y B mL ret :: sl_GW) (Cond.code Y B mL ret :: sl_GW) := sl_gin k1
      have hR1 := hR.1
      have hR2 := hR.2
      rw [if_pos rfl] at hR1 hR2
      have hrun := vx_runV (p := p) (l := l) (e := e) (R := R) (H := H) (locs := locs) (cells := cn m - cn m0) (slots := sn m - sn m0) (below := below) (meth := meth) (As := as9.map (sl_v ad)) (rest := r.map (sl_v ad)) (C := Y.cls) (n := as9.length) (⟨hx, hb9, hml, hown, hts1⟩ : CallFix p mid c cc nL s args (Cond.code Y B mL ret :: sl_GW) own) hM2
        ⟨callB_of as9.length hts1 hG rfl rfl rfl (hts _ k2) (hts _ q1) ⟨k3, k4, by rw [k5, if_neg (by omega), ← hna]; simp⟩ k6, hts _ q2, hts _ (sl_gw q3 q4)⟩ ⟨hbl, ⟨cell, c1, by rw [c3]; rfl, by rw [c2, ← hcls]; exact hfc⟩, hpc⟩ (g := F0 mid pc ls ((as9.map (sl_v ad)).reverse ++ .ref (ad ci i9) :: r.map (sl_v ad))) rfl (by rw [List.length_map]) a7.1 rfl hroom hdg
        ⟨by show _ + (cn mq - cn m + 1) ≤ _; dsimp only at hR1; omega, by show _ + (sn mq - sn m + 6) ≤ _; dsimp only at hR2; omega⟩
      intro T hT XT
      rcases hrun T hT XT with ⟨v, st₀, t, T', L, h0, X', hL, e1, e2, hf, st⟩ | ⟨q, st₀, t, T', L, E, ce, h0, X', hL, e1, e2, ⟨rfl, hP2, hsz, hI2, hV2⟩, hce, hcv, hcl, st⟩
      · exact hf.elim
      · have hw2 := vx_out (p := p) (l := l) (e := e) (R := R) (s := s) (m := mid) (args := args) (below := below) (meth := meth) (c := c) (H := T'.heap) (locs := locs ++ L) (cells := cn m - cn m0 + (cn mq - cn m + 1)) (slots := sn m - sn m0 + (sn mq - sn m + 6)) (free := fun q => base ≤ q) (ls := ls) (rest := r.map (sl_v ad)) (Qc := fun _ _ _ _ => False) (XC := sl_XC ad base NA Hb D cA ln rd VR MI cn m0 mq) (pc := pc) (E := sl_IX) (ce := ce) (q := q) (mc := cn mq - cn m0 + 1) (ms := sn mq - sn m0 + 6) htab hlocks (by rw [e1]; exact hce) hcv hcl
          (fun t9 ht9 hal => ⟨rfl, by rw [ht9, e1]; exact hP2, by rw [ht9, e1]; rw [h0] at hsz; omega, hI2, fun q hq => hV2 q (a1 q hq)⟩) (fun z hz => by
            rcases List.mem_append.mp hz with hz | hz
            · exact a10 z hz
            · exact hL z hz) (by omega) (by omega)
        obtain ⟨t9, s1, s2⟩ := hw2 T' rfl X'
        exact ⟨t9, st.trans s1, s2⟩
    · exact absurd (hth0 hth) (by omega)
    · exact absurd (hth0 hth) (by omega)
    · exact absurd (hth0 hth) (by omega)
  · have hne : pl.2.2 ≠ 2 := by
      rcases hfl with h0 | h0
      · exact m3 h0
      · exact h0
    obtain ⟨S1, s1, s2, s3⟩ := sl_rv_str (ad := ad) (M := M) rk rc pl r
    rw [s2] at hb
    have hmo := hmo _ _ hb
    have hcells : cn m - cn m0 + (cn mq - cn m) ≤ R.cells := by have := hR.1; omega
    have hslots : sn m - sn m0 + (sn mq - sn m) ≤ R.slots := by have := hR.2; omega
    have hrun := sl_va (l := l) (e := e) (locs := locs) (ls := ls) (below := below) (meth := meth) (cells := cn m - cn m0) (slots := sn m - sn m0) hC hKK a6 hPs hd rfl hok hts1 hrc hna hva a7.1 hsum ⟨hcells, hslots⟩ (hret hne)
    refine sl_ret hrun (w := sl_rv ad rk rc pl) (fun st v t hq => (Outcome.returned.inj hq.1)) (fun t st0 L h0 hqa hL => ?_)
    obtain ⟨-, hP2, hsz, hI2, hV2, hor⟩ := hqa
    have g := ih _ _ hb t.heap (locs ++ L) ls (fun q hq => hV2 q (a1 q hq)) (by omega) (by omega) hI2 (by rw [h0] at hsz; omega) hP2 a7 (fun q hq => hV2 q (a8 q hq)) (fun q hq => by
      rcases s3 q hq with h9 | ⟨rfl, h9⟩
      · exact hV2 q (a9 q (List.mem_append_right _ h9))
      · rcases h9 with h9 | ⟨h9, h10⟩
        · exact hor.1 h9
        · exact hor.2 h9 h10) (fun z hz => by
      rcases List.mem_append.mp hz with hz | hz
      · exact a10 z hz
      · exact hL z hz)
    rw [s1, show cn m - cn m0 + (cn mq - cn m) = cn mq - cn m0 by omega, show sn m - sn m0 + (sn mq - sn m) = sn mq - sn m0 by omega]
    exact g
end SLK
