/-! ===== the law's calls that may throw: contracts in the law's memory ===== -/
theorem vx_met_weak {l : Launch} {y : MethodName} {ws : List Cond} {rm : Room} {Pc Pc1 : Array Value → State → Prop} {Qc : Array Value → State → Outcome → State → Prop} {XC XC1 : String → State → State → Prop} {mc ms : Nat} {free : Addr → Prop} (h : vx_Met l y ws rm Pc Qc XC mc ms free) (hp : ∀ a s, Pc1 a s → Pc a s) (hx : ∀ E s t, XC E s t → XC1 E s t) : vx_Met l y ws rm Pc1 Qc XC1 mc ms free := by
  intro p e ha hc hk s m args below hf happ hP hK
  obtain ⟨k, o, h1, h2, h3, hQ⟩ := h p e ha hc hk s m args below hf happ (hp _ _ hP) hK
  refine ⟨k, o, h1, h2, h3, ?_⟩
  rcases hQ with hQ | ⟨q, ho, E, ce, L, hX, hr⟩
  · exact Or.inl hQ
  · exact Or.inr ⟨q, ho, E, ce, L, hx _ _ _ hX, hr⟩
/-- both ways a call of the class can end, in the law's memory; a thrown cell is counted -/
theorem sl_ccT {base b : Nat} {Hb : Heap} {D : va_G} {cA : Nat → ClassId} {l : Launch} {Y : MethodName} {B : ByteArray} {mL : Nat} {ret : Option FieldType} {fr lc rk rc : Nat} {F : List sl_V → sl_M → Option (sl_PL × sl_M)}
    (h : sl_CC (sl_ad base b) base 331 Hb D cA sl_ln sl_rd sl_VS sl_MS sl_cS sl_sS l 1 Y B mL ret fr lc rk rc F) {as : List sl_V} {m : sl_L} {pl : sl_PL} {m1 : sl_M} (hF : F as m.1 = some (pl, m1)) (hI : 331 ≤ m.2.1) (hv : ∀ q, .inr (.inl (some q)) ∈ as → sl_VL m q) (hall : as.all sl_c1 = true) (hlen : as.length ≤ mL) :
    (pl.2.2 ≠ 2 → Met l Y (.code Y B mL ret :: sl_GW) { frames := fr, cells := 0, slots := 0, locals := lc } (sl_Pc (sl_ad base b) base 331 Hb D cA sl_ln sl_rdL sl_VL sl_cL as m) (sl_Qc (sl_ad base b) base 331 Hb D cA sl_ln sl_rdL sl_VL sl_ML sl_cL rk rc m (pl, (m1, m.2))) 0 0 (fun q => base ≤ q)) ∧
    (pl.2.2 = 2 → vx_Met l Y (.code Y B mL ret :: sl_GW) { frames := fr, cells := 1, slots := 6, locals := lc } (sl_Pc (sl_ad base b) base 331 Hb D cA sl_ln sl_rdL sl_VL sl_cL as m) (fun _ _ _ _ => False) (sl_XC (sl_ad base b) base 331 Hb D cA sl_ln sl_rdL sl_VL sl_ML sl_cL m (m1, m.2.1 + 1, m.2.2 + 6)) 1 6 (fun q => base ≤ q)) := by
  obtain ⟨hM, hX⟩ := h.2 as m.1 _ hF trivial hv hall hlen
  rw [show sl_cS (pl, m1).2 - sl_cS m.1 = 0 from Nat.sub_self 331, show sl_sS (pl, m1).2 - sl_sS m.1 = 0 from rfl] at hM hX
  refine ⟨fun hx => sl_met_weak (hM hx) (fun a s hP => ⟨hP.1, (sl_HP_L hI).mp hP.2.1, hP.2.2⟩) (fun a s o t hP hQ => ?_), fun hx => vx_met_weak (hX hx) (fun a s hP => ⟨hP.1, (sl_HP_L hI).mp hP.2.1, hP.2.2⟩) (fun E s t hQ => ?_)⟩
  · obtain ⟨q1, q2, q3, q4, q5, q6⟩ := hQ
    exact ⟨q1, (sl_HP_L (m := (m1, m.2)) hI).mpr q2, q3, hI, fun q hq => hq, q6⟩
  · obtain ⟨q1, q2, q3, q4, q5⟩ := hQ
    exact ⟨q1, (sl_HP_L (m := (m1, m.2.1 + 1, m.2.2 + 6)) (by show 331 ≤ m.2.1 + 1; omega)).mpr q2, q3, by show 331 ≤ m.2.1 + 1; omega, fun q hq => hq⟩
