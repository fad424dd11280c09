section SLR
variable {M : Type}
variable {p : Program} {l : Launch} {e : Env} {R : Room} {s : State} {mid : MethodId} {args : Array Value} {below : List Frame} {meth : Method} {c : Code} {ad : Nat → Nat → Nat} {base NA : Nat} {Hb : Heap} {D : va_G} {cA : Nat → ClassId} {ln : Nat → Nat → Nat} {rd : M → Nat → Nat → Nat → sl_V} {VR : M → Nat × Nat → Prop} {MI : M → Prop} {cn sn : M → Nat} {nL : Nat} {x : sl_PL × M} {Q : State → Prop} {m0 : M} {m : M}
variable {wr : M → Nat → Nat → Nat → sl_V → Option M} {al : M → Nat → Int32 → Option ((Nat × Nat) × M)} {cc : ByteArray} {ck : Nat → Nat} {own : String} {X : sl_S → M → Option (sl_PL × M)} {pc n j : Nat} {a : Int32} {ts : List Nat} {lo : List (Option sl_V)} {st : List sl_V}
variable {tb : Nat → Option sl_E} {fl : Nat → Option (Nat × Nat)} {pf : Nat → Option (Nat × Nat × Nat)} {cl : Nat → Option sl_C} {nw : Nat → Option Nat} {sL : Nat} {sf : Nat → Int32} {call : Nat → List sl_V → M → Option (sl_PL × M)} {stop : Nat → Bool} {mask : Nat → List Bool} {k : Nat}

/-! all instructions -/
def sl_sd (own : String) (nL rf rl : Nat) (k : Nat) (a : Int32) (j : Nat) : Prop :=
  (k = 3 ∨ k = 4 → j < nL) ∧ (k = 59 → (Cond.methodLink own j Lib.objectInit ∈ sl_GW ∧ Cond.instanceMethod Lib.objectInit ∈ sl_GW ∧ Cond.code Lib.objectInit ⟨#[0xb1]⟩ 1 none ∈ sl_GW) ∧ (1 ≤ rf ∧ 20 ≤ rl)) ∧ (k = 60 → Cond.constant own j a ∈ sl_GW) ∧ (k = 55 → 100 ≤ j ∧ ∀ ty : ArrayType, sl_nk ty = j → Cond.arrayClass (newarray.typeOf ty) ∈ sl_GW) ∧ (k = 61 → Cond.classLink own j "SerialLink$Frame" ∈ sl_GW)
def sl_hfl (own : String) (fl : Nat → Option (Nat × Nat)) : Prop := ∀ j ci k, fl j = some (ci, k) → ci < 12 ∧ k < sl_NX ci ∧ Cond.fieldLink own j (sl_RX ci) (sl_TX ci k).2.1 (sl_TX ci k).2.2.1 ∈ sl_GW
def sl_hpf (own mn : String) (pf : Nat → Option (Nat × Nat × Nat)) : Prop := ∀ j ci k t, pf j = some (ci, k, t) → ci < 12 ∧ k < sl_NX ci ∧ Cond.fieldLink own j (sl_RX ci) (sl_TX ci k).2.1 (sl_TX ci k).2.2.1 ∈ sl_GW ∧ ((sl_TX ci k).2.2.2 = false ∨ (mn = "<init>" ∧ sl_RX ci = own)) ∧ sl_tyk (sl_TY ci k) = t
def sl_hnw (own : String) (nw : Nat → Option Nat) : Prop := ∀ j ci, nw j = some ci → ci < 12 ∧ Cond.classLink own j (sl_RX ci) ∈ sl_GW ∧ Cond.instantiable (sl_RX ci) (sl_NX ci) ∈ sl_GW ∧ Cond.initialized (sl_RX ci) ∈ sl_GW
theorem sl_op_ok (hC : sl_Cx p s mid args c cc nL own D cA) (hKK : sl_KK D cA base s) (hM : sl_Mem ad base NA ln rd VR cn wr al MI sn) (hsb : ∀ q : Nat, q < base → s.heap[q]? = Hb[q]?) (hd : sl_okd cc ck pc (k, a, j, n, ts) = true) (hS : sl_sd own nL R.frames R.locals k a j) (hfl : sl_hfl own fl) (hpf : sl_hpf own meth.name pf) (hnw : sl_hnw own nw)
    (hcl : ∀ j y na rk rc th rv, cl j = some (y, na, rk, rc, th, rv) → ∃ (Y : MethodName) (B : ByteArray) (mL : Nat) (ret : Option FieldType) (fr lc : Nat), sl_cok own j (ck j) Y B mL ret na rv fr lc R.frames R.locals ∧ (th ≠ 0 → ck j = 0) ∧ sl_Cp cn sn th (call y) ∧ sl_Ct ad base NA Hb D cA ln rd VR MI cn sn l Y B mL ret fr lc rk rc (call y))
    (hmo : ∀ S1 m1, X S1 m1 = some x → cn m1 ≤ cn x.2 ∧ sn m1 ≤ sn x.2) (hR : cn x.2 - cn m0 + (if x.1.2.2 = 2 then 1 else 0) ≤ R.cells ∧ sn x.2 - sn m0 + (if x.1.2.2 = 2 then 6 else 0) ≤ R.slots)
    (hT : x.1.2.2 = 2 → Q = vx_MQ below (fun _ _ _ _ => False) (sl_XC ad base NA Hb D cA ln rd VR MI cn m0 x.2) args s (cn x.2 - cn m0 + 1) (sn x.2 - sn m0 + 6) (fun q => base ≤ q)) (htab : x.1.2.2 = 2 → ∀ x9 ∈ c.exceptionTable.toList, covers x9 pc = false) (hlocks : meth.locks = false)
    (hE : [47, 48, 49, 50, 56, 62, 63].contains k = true → sl_op fl pf cl nw rd wr al ln sL sf call X k a j n ts pc lo st m = some x → sl_G p l e R s mid args below meth c ad base NA Hb D cA ln rd VR MI cn sn nL x Q m0 (pc, lo, st) m)
    (h : sl_op fl pf cl nw rd wr al ln sL sf call X k a j n ts pc lo st m = some x) (ih : ∀ S1 m1, X S1 m1 = some x → sl_G p l e R s mid args below meth c ad base NA Hb D cA ln rd VR MI cn sn nL x Q m0 S1 m1) : sl_G p l e R s mid args below meth c ad base NA Hb D cA ln rd VR MI cn sn nL x Q m0 (pc, lo, st) m := by
  have h2 := h
  unfold sl_op at h
  split at h
  · exact sl_s_iload hC hd h ih
  · exact sl_s_aload hC hd h ih
  · exact sl_s_push hC hd h ih
  · exact sl_s_istore hC hd (hS.1 (Or.inl rfl)) h ih
  · exact sl_s_astore hC hd (hS.1 (Or.inr rfl)) h ih
  · exact sl_s_iinc hC hd h ih
  · exact sl_s_iadd hC hd h ih
  · exact sl_s_isub hC hd h ih
  · exact sl_s_imul hC hd h ih
  · exact sl_s_idiv hC hd h ih
  · exact sl_s_irem hC hd h ih
  · exact sl_s_iand hC hd h ih
  · exact sl_s_ior hC hd h ih
  · exact sl_s_ixor hC hd h ih
  · exact sl_s_ishl hC hd h ih
  · exact sl_s_ishr hC hd h ih
  · exact sl_s_iushr hC hd h ih
  · exact sl_s_i2b hC hd h ih
  · exact sl_s_i2l hC hd h ih
  · exact sl_s_dup hC hd h ih
  · exact sl_s_dup2 hC hd h ih
  · exact sl_s_pop hC hd h ih
  · exact sl_s_ceq hC hd h ih
  · exact sl_s_cne hC hd h ih
  · exact sl_s_clt hC hd h ih
  · exact sl_s_cge hC hd h ih
  · exact sl_s_cgt hC hd h ih
  · exact sl_s_cle hC hd h ih
  · exact sl_s_zeq hC hd h ih
  · exact sl_s_zne hC hd h ih
  · exact sl_s_zlt hC hd h ih
  · exact sl_s_zge hC hd h ih
  · exact sl_s_zgt hC hd h ih
  · exact sl_s_zle hC hd h ih
  · exact sl_s_goto hC hd h ih
  · exact sl_s_getf hC hM hd (fun ci q e => hfl j ci q e) h ih
  · exact sl_s_putf hC hM hd (fun ci q t e => hpf j ci q t e) h ih
  · exact sl_s_iald hC hM hd h ih
  · exact sl_s_bald hC hM hd h ih
  · exact sl_s_aald hC hM hd h ih
  · exact sl_s_lald hC hM hd h ih
  · exact sl_s_iast hC hM hd h ih
  · exact sl_s_bast hC hM hd h ih
  · exact sl_s_aast hC hM hd h ih
  · exact sl_s_last hC hM hd h ih
  · exact sl_s_alen hC hM hd h ih
  · exact sl_s_call hC hKK hM hd hsb (fun y na rk rc th rv e => hcl j y na rk rc th rv e) hmo hR hT htab hlocks h ih
  · exact hE (by decide) h
  · exact hE (by decide) h
  · exact hE (by decide) h
  · exact hE (by decide) h
  · exact sl_s_null hC hd h ih
  · exact sl_s_ifn hC hd h ih
  · exact sl_s_ifnn hC hd h ih
  · exact sl_s_newc hC hM hd (fun ci e => hnw j ci e) hmo ⟨by have := hR.1; omega, by have := hR.2; omega⟩ h ih
  · exact sl_s_newa (t := j) hC hM hd (hS.2.2.2.1 rfl).2 (hS.2.2.2.1 rfl).1 hmo ⟨by have := hR.1; omega, by have := hR.2; omega⟩ h ih
  · exact hE (by decide) h
  · exact sl_s_tsw hC hd h ih
  · exact sl_s_lcmp hC hd h ih
  · exact sl_s_oi hC hd (hS.2.1 rfl).1 (hS.2.1 rfl).2 h ih
  · exact sl_s_ldc hC hd (hS.2.2.1 rfl) h ih
  · exact sl_s_anew hC hM hd (hS.2.2.2.2 rfl) (va_AO.use hKK.2.1) hmo ⟨by have := hR.1; omega, by have := hR.2; omega⟩ h ih
  · exact hE (by decide) h
  · exact hE (by decide) h
  · cases h
theorem sl_run_ok {th9 : Nat} (hC : sl_Cx p s mid args c cc nL own D cA) (hKK : sl_KK D cA base s) (hM : sl_Mem ad base NA ln rd VR cn wr al MI sn) (hMo : sl_Mo wr al cn sn) (hsb : ∀ q : Nat, q < base → s.heap[q]? = Hb[q]?) (hd : ∀ pc E, tb pc = some E → sl_okd cc ck pc E = true) (hS : ∀ pc k a j n ts, tb pc = some (k, a, j, n, ts) → sl_sd own nL R.frames R.locals k a j) (hfl : sl_hfl own fl) (hpf : sl_hpf own meth.name pf) (hnw : sl_hnw own nw)
    (hcl : ∀ j y na rk rc th rv, cl j = some (y, na, rk, rc, th, rv) → ∃ (Y : MethodName) (B : ByteArray) (mL : Nat) (ret : Option FieldType) (fr lc : Nat), sl_cok own j (ck j) Y B mL ret na rv fr lc R.frames R.locals ∧ (th ≠ 0 → ck j = 0) ∧ sl_Cp cn sn th (call y) ∧ sl_Ct ad base NA Hb D cA ln rd VR MI cn sn l Y B mL ret fr lc rk rc (call y))
    (h9 : ∀ j y na rk rc th rv, cl j = some (y, na, rk, rc, th, rv) → th ≠ 0 → th9 ≠ 0) (h56 : ∀ p k a j n ts, tb p = some (k, a, j, n, ts) → k = 56 → th9 ≠ 0)
    (hR : cn x.2 - cn m0 + (if x.1.2.2 = 2 then 1 else 0) ≤ R.cells ∧ sn x.2 - sn m0 + (if x.1.2.2 = 2 then 6 else 0) ≤ R.slots)
    (hT : x.1.2.2 = 2 → Q = vx_MQ below (fun _ _ _ _ => False) (sl_XC ad base NA Hb D cA ln rd VR MI cn m0 x.2) args s (cn x.2 - cn m0 + 1) (sn x.2 - sn m0 + 6) (fun q => base ≤ q)) (htab : x.1.2.2 = 2 → ∀ x9 ∈ c.exceptionTable.toList, ∀ pc, covers x9 pc = false) (hlocks : meth.locks = false)
    (hE : ∀ (X : sl_S → M → Option (sl_PL × M)) pc lo st m k a j n ts, tb pc = some (k, a, j, n, ts) → [47, 48, 49, 50, 56, 62, 63].contains k = true → (∀ S1 m1, X S1 m1 = some x → sl_G p l e R s mid args below meth c ad base NA Hb D cA ln rd VR MI cn sn nL x Q m0 S1 m1) → sl_op fl pf cl nw rd wr al ln sL sf call X k a j n ts pc lo st m = some x → sl_G p l e R s mid args below meth c ad base NA Hb D cA ln rd VR MI cn sn nL x Q m0 (pc, lo, st) m)
    {C9 : sl_S → M → Option (sl_PL × M)} (hCst : ∀ S m, C9 S m = some x → cn m ≤ cn x.2 ∧ sn m ≤ sn x.2 ∧ (th9 = 0 → x.1.2.2 ≠ 2)) (hCC : ∀ S m, C9 S m = some x → sl_G p l e R s mid args below meth c ad base NA Hb D cA ln rd VR MI cn sn nL x Q m0 S m) : ∀ (N : Nat) (S : sl_S) (m : M), sl_run tb fl pf cl nw rd wr al ln sL sf call stop C9 N S m = some x → sl_G p l e R s mid args below meth c ad base NA Hb D cA ln rd VR MI cn sn nL x Q m0 S m
  | 0, S, m, h => by cases h
  | N + 1, S, m, h => by
    have hst : ∀ S m, sl_run tb fl pf cl nw rd wr al ln sL sf call stop C9 N S m = some x → cn m ≤ cn x.2 ∧ sn m ≤ sn x.2 ∧ (th9 = 0 → x.1.2.2 ≠ 2) := sl_run_st hMo (fun j y na rk rc th rv e => ⟨by obtain ⟨_, _, _, _, _, _, _, _, hcp, _⟩ := hcl j y na rk rc th rv e; exact hcp, h9 j y na rk rc th rv e⟩) h56 hCst N
    unfold sl_run at h
    unfold sl_step at h
    split at h
    · rename_i k a j n ts ht
      obtain ⟨pc, lo, st⟩ := S
      refine sl_op_ok hC hKK hM hsb (hd _ _ ht) (hS _ k a j n ts ht) hfl hpf hnw hcl (fun S1 m1 h1 => ?_) hR hT (fun h2 x9 hx9 => htab h2 x9 hx9 _) hlocks (fun hk h1 => hE _ _ _ _ _ k a j n ts ht hk (fun S1 m1 h1 => ?_) h1) h (fun S1 m1 h1 => ?_)
      · cases hs : stop S1.1 with
        | true =>
          rw [hs] at h1
          obtain ⟨q1, q2, -⟩ := hCst S1 m1 h1
          exact ⟨q1, q2⟩
        | false =>
          rw [hs] at h1
          obtain ⟨q1, q2, -⟩ := hst S1 m1 h1
          exact ⟨q1, q2⟩
      all_goals
        cases hs : stop S1.1 with
        | true =>
          rw [hs] at h1
          exact hCC S1 m1 h1
        | false =>
          rw [hs] at h1
          exact sl_run_ok hC hKK hM hMo hsb hd hS hfl hpf hnw hcl h9 h56 hR hT htab hlocks hE hCst hCC N S1 m1 h1
    · cases h
theorem sl_G_mask {S : sl_S} {bs : List Bool} (g : sl_G p l e R s mid args below meth c ad base NA Hb D cA ln rd VR MI cn sn nL x Q m0 (S.1, sl_mask bs S.2.1, S.2.2) m) : sl_G p l e R s mid args below meth c ad base NA Hb D cA ln rd VR MI cn sn nL x Q m0 S m := by
  intro H locs ls a1 a2 a3 a4 a5 a6 a7 a8 a9 a10
  refine g H locs ls a1 a2 a3 a4 a5 a6 (sl_lh_weak a7 (sl_mask_weak bs S.2.1)) (fun q hq => ?_) a9 a10
  obtain ⟨i, hi⟩ := List.getElem?_of_mem hq
  exact a8 q (List.mem_of_getElem? (sl_mask_weak bs S.2.1 i _ hi))
theorem sl_B_ok {th9 : Nat} (hC : sl_Cx p s mid args c cc nL own D cA) (hKK : sl_KK D cA base s) (hM : sl_Mem ad base NA ln rd VR cn wr al MI sn) (hMo : sl_Mo wr al cn sn) (hsb : ∀ q : Nat, q < base → s.heap[q]? = Hb[q]?) (hd : ∀ pc E, tb pc = some E → sl_okd cc ck pc E = true) (hS : ∀ pc k a j n ts, tb pc = some (k, a, j, n, ts) → sl_sd own nL R.frames R.locals k a j) (hfl : sl_hfl own fl) (hpf : sl_hpf own meth.name pf) (hnw : sl_hnw own nw)
    (hcl : ∀ j y na rk rc th rv, cl j = some (y, na, rk, rc, th, rv) → ∃ (Y : MethodName) (B : ByteArray) (mL : Nat) (ret : Option FieldType) (fr lc : Nat), sl_cok own j (ck j) Y B mL ret na rv fr lc R.frames R.locals ∧ (th ≠ 0 → ck j = 0) ∧ sl_Cp cn sn th (call y) ∧ sl_Ct ad base NA Hb D cA ln rd VR MI cn sn l Y B mL ret fr lc rk rc (call y))
    (h9 : ∀ j y na rk rc th rv, cl j = some (y, na, rk, rc, th, rv) → th ≠ 0 → th9 ≠ 0) (h56 : ∀ p k a j n ts, tb p = some (k, a, j, n, ts) → k = 56 → th9 ≠ 0)
    (hR : cn x.2 - cn m0 + (if x.1.2.2 = 2 then 1 else 0) ≤ R.cells ∧ sn x.2 - sn m0 + (if x.1.2.2 = 2 then 6 else 0) ≤ R.slots)
    (hT : x.1.2.2 = 2 → Q = vx_MQ below (fun _ _ _ _ => False) (sl_XC ad base NA Hb D cA ln rd VR MI cn m0 x.2) args s (cn x.2 - cn m0 + 1) (sn x.2 - sn m0 + 6) (fun q => base ≤ q)) (htab : x.1.2.2 = 2 → ∀ x9 ∈ c.exceptionTable.toList, ∀ pc, covers x9 pc = false) (hlocks : meth.locks = false)
    (hE : ∀ (X : sl_S → M → Option (sl_PL × M)) pc lo st m k a j n ts, tb pc = some (k, a, j, n, ts) → [47, 48, 49, 50, 56, 62, 63].contains k = true → (∀ S1 m1, X S1 m1 = some x → sl_G p l e R s mid args below meth c ad base NA Hb D cA ln rd VR MI cn sn nL x Q m0 S1 m1) → sl_op fl pf cl nw rd wr al ln sL sf call X k a j n ts pc lo st m = some x → sl_G p l e R s mid args below meth c ad base NA Hb D cA ln rd VR MI cn sn nL x Q m0 (pc, lo, st) m) : ∀ (N : Nat) (S : sl_S) (m : M), sl_B tb fl pf cl nw rd wr al ln sL sf call stop mask N S m = some x → sl_G p l e R s mid args below meth c ad base NA Hb D cA ln rd VR MI cn sn nL x Q m0 S m
  | 0, S, m, h => by cases h
  | N + 1, S, m, h => by
    unfold sl_B at h
    exact sl_run_ok hC hKK hM hMo hsb hd hS hfl hpf hnw hcl h9 h56 hR hT htab hlocks hE (fun S1 m1 h1 => sl_B_st hMo (fun j y na rk rc th rv e => ⟨by obtain ⟨_, _, _, _, _, _, _, _, hcp, _⟩ := hcl j y na rk rc th rv e; exact hcp, h9 j y na rk rc th rv e⟩) h56 N _ _ h1) (fun S1 m1 h1 => sl_G_mask (sl_B_ok hC hKK hM hMo hsb hd hS hfl hpf hnw hcl h9 h56 hR hT htab hlocks hE N _ m1 h1)) 400 S m h
end SLR
