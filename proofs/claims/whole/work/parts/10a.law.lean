/-! ===== the law's memory: the loop's, and how many cells and slots have come ===== -/
abbrev sl_L : Type := sl_M × Nat × Nat
def sl_rdL (m : sl_L) (c i k : Nat) : sl_V := sl_rd m.1 c i k
def sl_wrL (m : sl_L) (c i k : Nat) (v : sl_V) : Option sl_L := (sl_wr m.1 c i k v).bind (fun m1 => some (m1, m.2))
def sl_alL (m : sl_L) (_ : Nat) (_ : Int32) : Option ((Nat × Nat) × sl_L) := (none : Option ((Nat × Nat) × sl_L))
def sl_VL (_ : sl_L) (q : Nat × Nat) : Prop := q.2 < sl_ct q.1
def sl_ML (m : sl_L) : Prop := 331 ≤ m.2.1
def sl_cL (m : sl_L) : Nat := m.2.1
def sl_sL (m : sl_L) : Nat := m.2.2
def sl_lf (F : List sl_V → sl_M → Option (sl_PL × sl_M)) (as : List sl_V) (m : sl_L) : Option (sl_PL × sl_L) := (F as m.1).bind (fun x => some (x.1, (x.2, m.2)))
theorem sl_lf_in {F : List sl_V → sl_M → Option (sl_PL × sl_M)} {as : List sl_V} {m : sl_L} {x : sl_PL × sl_L} (h : sl_lf F as m = some x) : ∃ m1, F as m.1 = some (x.1, m1) ∧ x.2 = (m1, m.2) := by
  obtain ⟨y, h1, h2⟩ := Option.bind_eq_some_iff.mp h
  cases h2
  exact ⟨y.2, h1, rfl⟩
theorem sl_memL {base b : Nat} (hb : b < base) : sl_Mem (sl_ad base b) base 331 sl_ln sl_rdL sl_VL sl_cL sl_wrL sl_alL sl_ML sl_sL := by
  obtain ⟨h1, h2, h3, -⟩ := sl_memS hb
  refine ⟨fun m c i k v m1 hw hv hq hI hc => ?_, fun m c i k q hv _ hk h => h2 m.1 c i k q hv trivial hk h, fun m q r hq hr h => h3 m.1 q r hq hr h, fun m t x q m1 h => by cases h⟩
  obtain ⟨m9, e1, e2⟩ := Option.bind_eq_some_iff.mp hw
  cases e2
  obtain ⟨-, -, -, -, a1, a2, a3⟩ := h1 m.1 c i k v m9 e1 hv hq trivial hc
  exact ⟨hI, rfl, rfl, fun _ => Iff.rfl, a1, a2, a3⟩
theorem sl_moL : sl_Mo sl_wrL sl_alL sl_cL sl_sL := by
  refine ⟨fun m c i k v m1 h => ?_, fun _ _ _ _ _ h => by cases h⟩
  obtain ⟨m9, e1, e2⟩ := Option.bind_eq_some_iff.mp h
  cases e2
  exact ⟨rfl, rfl⟩
theorem sl_met_weak {l : Launch} {y : MethodName} {ws : List Cond} {rm : Room} {Pc Pc1 : Array Value → State → Prop} {Qc Qc1 : Array Value → State → Outcome → State → Prop} {mc ms : Nat} {free : Addr → Prop} (h : Met l y ws rm Pc Qc mc ms free) (hp : ∀ a s, Pc1 a s → Pc a s) (hq : ∀ a s o t, Pc1 a s → Qc a s o t → Qc1 a s o t) : Met l y ws rm Pc1 Qc1 mc ms free := by
  intro p e ha hc hk s m args below hf happ hP hK
  obtain ⟨k, o, h1, h2, h3, hQ⟩ := h p e ha hc hk s m args below hf happ (hp _ _ hP) hK
  exact ⟨k, o, h1, h2, h3, hq _ _ _ _ hP hQ.1, hQ.2⟩
theorem sl_HP_L {base b : Nat} {Hb : Heap} {D : va_G} {cA : Nat → ClassId} {m : sl_L} {H : Heap} (h : 331 ≤ m.2.1) : sl_HP (sl_ad base b) base 331 Hb D cA sl_ln sl_rdL sl_VL sl_cL m H ↔ sl_HP (sl_ad base b) base 331 Hb D cA sl_ln sl_rd sl_VS sl_cS m.1 H := by
  constructor
  · rintro ⟨p1, p2, p3, p4⟩
    have p1 : base + min m.2.1 331 ≤ H.size := p1
    exact ⟨by show base + min 331 331 ≤ H.size; omega, fun h => absurd h (Nat.lt_irrefl _), p3, p4⟩
  · rintro ⟨p1, p2, p3, p4⟩
    have p1 : base + min 331 331 ≤ H.size := p1
    exact ⟨by show base + min m.2.1 331 ≤ H.size; omega, fun q => by have q : m.2.1 < 331 := q; omega, p3, p4⟩
theorem sl_ccL {base b : Nat} {Hb : Heap} {D : va_G} {cA : Nat → ClassId} {l : Launch} {Y : MethodName} {B : ByteArray} {mL : Nat} {ret : Option FieldType} {fr lc rk rc : Nat} {F : List sl_V → sl_M → Option (sl_PL × sl_M)}
    (h : sl_CC (sl_ad base b) base 331 Hb D cA sl_ln sl_rd sl_VS sl_MS sl_cS sl_sS l 0 Y B mL ret fr lc rk rc F) : sl_CC (sl_ad base b) base 331 Hb D cA sl_ln sl_rdL sl_VL sl_ML sl_cL sl_sL l 0 Y B mL ret fr lc rk rc (sl_lf F) := by
  obtain ⟨hp, ht⟩ := h
  have hp1 : sl_Cp sl_cL sl_sL 0 (sl_lf F) := by
    intro as m x hF
    obtain ⟨m1, e1, e2⟩ := sl_lf_in hF
    obtain ⟨-, -, q⟩ := hp as m.1 _ e1
    refine ⟨?_, ?_, q⟩
    · show m.2.1 ≤ x.2.2.1
      rw [e2]; exact Nat.le_refl _
    · show m.2.2 ≤ x.2.2.2
      rw [e2]; exact Nat.le_refl _
  refine ⟨hp1, fun as m x hF hI hv hall hlen => ⟨fun hx2 => ?_, fun hx2 => absurd hx2 ((hp1 as m x hF).2.2 rfl)⟩⟩
  obtain ⟨m1, e1, e2⟩ := sl_lf_in hF
  have hM := (ht as m.1 _ e1 trivial hv hall hlen).1 hx2
  rw [show sl_cS (x.1, m1).2 - sl_cS m.1 = 0 from Nat.sub_self 331, show sl_sS (x.1, m1).2 - sl_sS m.1 = 0 from rfl] at hM
  have ec : sl_cL x.2 - sl_cL m = 0 := by show x.2.2.1 - m.2.1 = 0; rw [e2]; exact Nat.sub_self _
  have es : sl_sL x.2 - sl_sL m = 0 := by show x.2.2.2 - m.2.2 = 0; rw [e2]; exact Nat.sub_self _
  rw [ec, es]
  have hI : 331 ≤ m.2.1 := hI
  refine sl_met_weak hM (fun a s hP => ⟨hP.1, (sl_HP_L hI).mp hP.2.1, hP.2.2⟩) (fun a s o t hP hQ => ?_)
  obtain ⟨q1, q2, q3, q4, q5, q6⟩ := hQ
  have hI2 : 331 ≤ x.2.2.1 := by rw [e2]; exact hI
  exact ⟨q1, (sl_HP_L hI2).mpr (by rw [e2]; exact q2), q3, hI2, fun q hq => hq, q6⟩
