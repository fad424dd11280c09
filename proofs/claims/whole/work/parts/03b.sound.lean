/-! ===== from the small steps to the machine's ===== -/
section SLG
variable {M : Type}
def sl_G (p : Program) (l : Launch) (e : Env) (R : Room) (s : State) (mid : MethodId) (args : Array Value) (below : List Frame) (meth : Method) (c : Code) (ad : Nat → Nat → Nat) (base NA : Nat) (Hb : Heap) (D : va_G) (cA : Nat → ClassId) (ln : Nat → Nat → Nat) (rd : M → Nat → Nat → Nat → sl_V) (VR : M → Nat × Nat → Prop) (MI : M → Prop) (cn sn : M → Nat) (nL : Nat) (x : sl_PL × M) (Q : State → Prop) (m0 : M) (S : sl_S) (m : M) : Prop :=
  ∀ (H : Heap) (locs : List Loc) (ls : Array Slot), (∀ q, VR m0 q → VR m q) → cn m0 ≤ cn m → sn m0 ≤ sn m → MI m → s.heap.size ≤ H.size → sl_HP ad base NA Hb D cA ln rd VR cn m H → sl_lh ad ls nL S.2.1 →
    (∀ q, some (.inr (.inl (some q))) ∈ S.2.1 → VR m q) → (∀ q, .inr (.inl (some q)) ∈ S.2.2 → VR m q) → (∀ z ∈ locs, base ≤ z.base) →
    W p l e R s mid args below meth c H locs (cn m - cn m0) (sn m - sn m0) Q (F0 mid S.1 ls (S.2.2.map (sl_v ad)))
def sl_Cx (p : Program) (s : State) (mid : MethodId) (args : Array Value) (c : Code) (cc : ByteArray) (nL : Nat) (own : String) (D : va_G) (cA : Nat → ClassId) : Prop :=
  p.tables.exec = Jvm.exec ∧ c.code = cc ∧ c.maxLocals = nL ∧ s.vm.findClass own = some mid.cls ∧ (∀ w ∈ sl_GW, w.before args s = true) ∧ va_K D sl_cls (sl_tys cA) s
variable {p : Program} {l : Launch} {e : Env} {R : Room} {s : State} {mid : MethodId} {args : Array Value} {below : List Frame} {meth : Method} {c : Code} {ad : Nat → Nat → Nat} {base NA : Nat} {Hb : Heap} {D : va_G} {cA : Nat → ClassId} {ln : Nat → Nat → Nat} {rd : M → Nat → Nat → Nat → sl_V} {VR : M → Nat × Nat → Prop} {MI : M → Prop} {cn sn : M → Nat} {nL : Nat} {x : sl_PL × M} {Q : State → Prop} {m0 : M} {m : M}
variable {wr : M → Nat → Nat → Nat → sl_V → Option M} {al : M → Nat → Int32 → Option ((Nat × Nat) × M)} {cc : ByteArray} {ck : Nat → Nat} {own : String} {X : sl_S → M → Option (sl_PL × M)} {pc n j : Nat} {a : Int32} {ts : List Nat} {lo : List (Option sl_V)} {st : List sl_V}
theorem sl_G1 {S S1 : sl_S} (g : sl_G p l e R s mid args below meth c ad base NA Hb D cA ln rd VR MI cn sn nL x Q m0 S1 m)
    (hr : (∀ q, some (.inr (.inl (some q))) ∈ S.2.1 → VR m q) → (∀ q, .inr (.inl (some q)) ∈ S.2.2 → VR m q) → MI m → (∀ q, some (.inr (.inl (some q))) ∈ S1.2.1 → VR m q) ∧ ∀ q, .inr (.inl (some q)) ∈ S1.2.2 → VR m q)
    (hw : ∀ (H : Heap) (locs : List Loc) (ls : Array Slot) (cells slots : Nat), MI m → sl_HP ad base NA Hb D cA ln rd VR cn m H → sl_lh ad ls nL S.2.1 → (∀ q, .inr (.inl (some q)) ∈ S.2.2 → VR m q) → (∀ ls1, sl_lh ad ls1 nL S1.2.1 → W p l e R s mid args below meth c H locs cells slots Q (F0 mid S1.1 ls1 (S1.2.2.map (sl_v ad)))) → W p l e R s mid args below meth c H locs cells slots Q (F0 mid S.1 ls (S.2.2.map (sl_v ad)))) :
    sl_G p l e R s mid args below meth c ad base NA Hb D cA ln rd VR MI cn sn nL x Q m0 S m :=
  fun H locs ls a1 a2 a3 a4 a5 a6 a7 a8 a9 a10 => hw H locs ls _ _ a4 a6 a7 a9 (fun ls1 hl1 => g H locs ls1 a1 a2 a3 a4 a5 a6 hl1 (hr a8 a9 a4).1 (hr a8 a9 a4).2 a10)
/-- only the stack changed, and no new reference stands on it -/
theorem sl_G2 {lo1 : List (Option sl_V)} {pc1 : Nat} {st1 : List sl_V} (g : sl_G p l e R s mid args below meth c ad base NA Hb D cA ln rd VR MI cn sn nL x Q m0 (pc1, lo, st1) m) (hs : ∀ q, .inr (.inl (some q)) ∈ st1 → .inr (.inl (some q)) ∈ st)
    (hw : ∀ (H : Heap) (locs : List Loc) (ls : Array Slot) (cells slots : Nat), sl_HP ad base NA Hb D cA ln rd VR cn m H → sl_lh ad ls nL lo → (∀ q, .inr (.inl (some q)) ∈ st → VR m q) → W p l e R s mid args below meth c H locs cells slots Q (F0 mid pc1 ls (st1.map (sl_v ad))) → W p l e R s mid args below meth c H locs cells slots Q (F0 mid pc ls (st.map (sl_v ad)))) :
    sl_G p l e R s mid args below meth c ad base NA Hb D cA ln rd VR MI cn sn nL x Q m0 (pc, lo, st) m :=
  sl_G1 g (fun h1 h2 _ => ⟨h1, fun q hq => h2 q (hs q hq)⟩) (fun H locs ls cells slots _ h2 h3 h4 k => hw H locs ls cells slots h2 h3 h4 (k ls h3))
theorem sl_q1 {y : Int32} {r : List sl_V} : ∀ q, (.inr (.inl (some q)) : sl_V) ∈ .inl y :: r → (.inr (.inl (some q)) : sl_V) ∈ r := fun q hq => by
  rcases List.mem_cons.mp hq with hq | hq
  · cases hq
  · exact hq
theorem sl_q2 {y : sl_V} {r : List sl_V} : ∀ q, (.inr (.inl (some q)) : sl_V) ∈ r → (.inr (.inl (some q)) : sl_V) ∈ y :: r := fun q hq => List.mem_cons_of_mem _ hq
theorem sl_setv {P : sl_V → Prop} {lo : List (Option sl_V)} {j : Nat} {v : sl_V} (h : ∀ q, some q ∈ lo → P q) (hv : P v) : ∀ q, some q ∈ lo.set j (some v) → P q := by
  intro q hq
  rcases List.mem_or_eq_of_mem_set hq with hq | hq
  · exact h q hq
  · cases hq; exact hv

theorem sl_s_iload (hC : sl_Cx p s mid args c cc nL own D cA) (hd : sl_okd cc ck pc (0, a, j, n, ts) = true) (h : sl_iload X pc n lo st m j = some x) (ih : ∀ S1 m1, X S1 m1 = some x → sl_G p l e R s mid args below meth c ad base NA Hb D cA ln rd VR MI cn sn nL x Q m0 S1 m1) : sl_G p l e R s mid args below meth c ad base NA Hb D cA ln rd VR MI cn sn nL x Q m0 (pc, lo, st) m := by
  obtain ⟨hx, hb, hml, hown, hts, hK⟩ := hC
  unfold sl_iload at h
  split at h
  · rename_i v hv
    refine sl_G2 (lo1 := lo) (ih _ _ h) sl_q1 (fun H locs ls cells slots h2 h3 h4 k => ?_)
    obtain ⟨i, hi, ho⟩ := sl_d3 hd rfl rfl rfl
    unfold sl_okl at ho
    split at ho <;> first | exact Bool.noConfusion (show false = true from ho) | skip
    · simp only [Bool.and_eq_true, Nat.beq_eq] at ho
      obtain ⟨-, e1, rfl⟩ := ho
      exact lv_iload_n hx hb hi e1 (sl_lh_get h3 hv) k
    · simp only [Bool.and_eq_true, Nat.beq_eq] at ho
      obtain ⟨-, rfl, rfl⟩ := ho
      exact lv_iload hx hb hi (sl_lh_get h3 hv) k
  · cases h
theorem sl_s_aload (hC : sl_Cx p s mid args c cc nL own D cA) (hd : sl_okd cc ck pc (1, a, j, n, ts) = true) (h : sl_aload X pc n lo st m j = some x) (ih : ∀ S1 m1, X S1 m1 = some x → sl_G p l e R s mid args below meth c ad base NA Hb D cA ln rd VR MI cn sn nL x Q m0 S1 m1) : sl_G p l e R s mid args below meth c ad base NA Hb D cA ln rd VR MI cn sn nL x Q m0 (pc, lo, st) m := by
  obtain ⟨hx, hb, hml, hown, hts, hK⟩ := hC
  unfold sl_aload at h
  split at h
  · rename_i v hv
    refine sl_G1 (ih _ _ h) (fun h1 h2 _ => ⟨h1, fun q hq => ?_⟩) (fun H locs ls cells slots _ h2 h3 h4 k => ?_)
    · rcases List.mem_cons.mp hq with hq | hq
      · cases hq; exact h1 _ (List.mem_of_getElem? hv)
      · exact h2 _ hq
    · have k := k ls h3
      obtain ⟨i, hi, ho⟩ := sl_d3 hd rfl rfl rfl
      unfold sl_okl at ho
      split at ho <;> first | exact Bool.noConfusion (show false = true from ho) | skip
      · simp only [Bool.and_eq_true, Nat.beq_eq] at ho
        obtain ⟨-, e1, rfl⟩ := ho
        cases v with
        | none => exact lv_aload_nN hx hb hi e1 (sl_lh_get h3 hv) k
        | some q => exact lv_aload_n hx hb hi e1 (sl_lh_get h3 hv) k
      · simp only [Bool.and_eq_true, Nat.beq_eq] at ho
        obtain ⟨-, rfl, rfl⟩ := ho
        cases v with
        | none => exact lv_aloadN hx hb hi (sl_lh_get h3 hv) k
        | some q => exact lv_aload hx hb hi (sl_lh_get h3 hv) k
  · cases h
theorem sl_s_push (hC : sl_Cx p s mid args c cc nL own D cA) (hd : sl_okd cc ck pc (2, a, j, n, ts) = true) (h : X (pc + n, lo, .inl a :: st) m = some x) (ih : ∀ S1 m1, X S1 m1 = some x → sl_G p l e R s mid args below meth c ad base NA Hb D cA ln rd VR MI cn sn nL x Q m0 S1 m1) : sl_G p l e R s mid args below meth c ad base NA Hb D cA ln rd VR MI cn sn nL x Q m0 (pc, lo, st) m := by
  obtain ⟨hx, hb, hml, hown, hts, hK⟩ := hC
  refine sl_G2 (lo1 := lo) (ih _ _ h) sl_q1 (fun H locs ls cells slots h2 h3 h4 k => ?_)
  obtain ⟨i, hi, ho⟩ := sl_d3 hd rfl rfl rfl
  unfold sl_okl at ho
  split at ho <;> first | exact Bool.noConfusion (show false = true from ho) | skip
  · simp only [Bool.and_eq_true, Nat.beq_eq, decide_eq_true_eq] at ho
    obtain ⟨-, e1, rfl⟩ := ho
    exact lv_iconst hx hb hi e1 k
  · simp only [Bool.and_eq_true, Nat.beq_eq, decide_eq_true_eq] at ho
    obtain ⟨-, e1, rfl⟩ := ho
    exact lv_bipush hx hb hi e1 k
  · simp only [Bool.and_eq_true, Nat.beq_eq, decide_eq_true_eq] at ho
    obtain ⟨-, e1, rfl⟩ := ho
    exact lv_sipush hx hb hi e1 k
theorem sl_s_istore (hC : sl_Cx p s mid args c cc nL own D cA) (hd : sl_okd cc ck pc (3, a, j, n, ts) = true) (hj : j < nL) (h : sl_istore X pc n lo st m j = some x) (ih : ∀ S1 m1, X S1 m1 = some x → sl_G p l e R s mid args below meth c ad base NA Hb D cA ln rd VR MI cn sn nL x Q m0 S1 m1) : sl_G p l e R s mid args below meth c ad base NA Hb D cA ln rd VR MI cn sn nL x Q m0 (pc, lo, st) m := by
  obtain ⟨hx, hb, hml, hown, hts, hK⟩ := hC
  unfold sl_istore at h
  split at h
  · rename_i v r
    refine sl_G1 (ih _ _ h) (fun h1 h2 _ => ⟨fun q hq => sl_setv (P := fun v => ∀ q, v = .inr (.inl (some q)) → VR m q) (fun v hv q e => h1 q (e ▸ hv)) (fun q e => by cases e) _ hq q rfl, fun q hq => h2 q (sl_q2 q hq)⟩) (fun H locs ls cells slots _ h2 h3 h4 k => ?_)
    have hjn : j < nL := hj
    obtain ⟨i, hi, ho⟩ := sl_d3 hd rfl rfl rfl
    unfold sl_okl at ho
    split at ho <;> first | exact Bool.noConfusion (show false = true from ho) | skip
    · simp only [Bool.and_eq_true, Nat.beq_eq] at ho
      obtain ⟨-, e1, rfl⟩ := ho
      exact lv_istore_n hx hb hi e1 (sl_lh_has h3) hjn rfl (fun ls1 h9 => k ls1 (sl_lh_set h3 (v := .inl v) rfl h9))
    · simp only [Bool.and_eq_true, Nat.beq_eq] at ho
      obtain ⟨-, rfl, rfl⟩ := ho
      exact lv_istore hx hb hi (sl_lh_has h3) hjn rfl (fun ls1 h9 => k ls1 (sl_lh_set h3 (v := .inl v) rfl h9))
  · cases h
theorem sl_s_astore (hC : sl_Cx p s mid args c cc nL own D cA) (hd : sl_okd cc ck pc (4, a, j, n, ts) = true) (hj : j < nL) (h : sl_astore X pc n lo st m j = some x) (ih : ∀ S1 m1, X S1 m1 = some x → sl_G p l e R s mid args below meth c ad base NA Hb D cA ln rd VR MI cn sn nL x Q m0 S1 m1) : sl_G p l e R s mid args below meth c ad base NA Hb D cA ln rd VR MI cn sn nL x Q m0 (pc, lo, st) m := by
  obtain ⟨hx, hb, hml, hown, hts, hK⟩ := hC
  unfold sl_astore at h
  split at h
  · rename_i v r
    refine sl_G1 (ih _ _ h) (fun h1 h2 _ => ⟨fun q hq => sl_setv (P := fun v => ∀ q, v = .inr (.inl (some q)) → VR m q) (fun v hv q e => h1 q (e ▸ hv)) (fun q e => h2 q (by rw [← e]; exact List.mem_cons_self)) _ hq q rfl, fun q hq => h2 q (sl_q2 q hq)⟩) (fun H locs ls cells slots _ h2 h3 h4 k => ?_)
    have hjn : j < nL := hj
    obtain ⟨i, hi, ho⟩ := sl_d3 hd rfl rfl rfl
    unfold sl_okl at ho
    split at ho <;> first | exact Bool.noConfusion (show false = true from ho) | skip
    · simp only [Bool.and_eq_true, Nat.beq_eq] at ho
      obtain ⟨-, e1, rfl⟩ := ho
      cases v with
      | none => exact lv_astore_nN hx hb hi e1 (sl_lh_has h3) hjn rfl (fun ls1 h9 => k ls1 (sl_lh_set h3 (v := .inr (.inl none)) rfl h9))
      | some q => exact lv_astore_n hx hb hi e1 (sl_lh_has h3) hjn rfl (fun ls1 h9 => k ls1 (sl_lh_set h3 (v := .inr (.inl (some q))) rfl h9))
    · simp only [Bool.and_eq_true, Nat.beq_eq] at ho
      obtain ⟨-, rfl, rfl⟩ := ho
      cases v with
      | none => exact lv_astoreN hx hb hi (sl_lh_has h3) hjn rfl (fun ls1 h9 => k ls1 (sl_lh_set h3 (v := .inr (.inl none)) rfl h9))
      | some q => exact lv_astore hx hb hi (sl_lh_has h3) hjn rfl (fun ls1 h9 => k ls1 (sl_lh_set h3 (v := .inr (.inl (some q))) rfl h9))
  · cases h
theorem sl_s_iinc (hC : sl_Cx p s mid args c cc nL own D cA) (hd : sl_okd cc ck pc (5, a, j, n, ts) = true) (h : sl_iinc X pc n lo st m j a = some x) (ih : ∀ S1 m1, X S1 m1 = some x → sl_G p l e R s mid args below meth c ad base NA Hb D cA ln rd VR MI cn sn nL x Q m0 S1 m1) : sl_G p l e R s mid args below meth c ad base NA Hb D cA ln rd VR MI cn sn nL x Q m0 (pc, lo, st) m := by
  obtain ⟨hx, hb, hml, hown, hts, hK⟩ := hC
  unfold sl_iinc at h
  split at h
  · rename_i v hv
    refine sl_G1 (ih _ _ h) (fun h1 h2 _ => ⟨fun q hq => sl_setv (P := fun v => ∀ q, v = .inr (.inl (some q)) → VR m q) (fun v hv q e => h1 q (e ▸ hv)) (fun q e => by cases e) _ hq q rfl, h2⟩) (fun H locs ls cells slots _ h2 h3 h4 k => ?_)
    have hjn : j < nL := sl_lh_lt h3 hv
    obtain ⟨i, hi, ho⟩ := sl_d3 hd rfl rfl rfl
    unfold sl_okl at ho
    split at ho <;> first | exact Bool.noConfusion (show false = true from ho) | skip
    simp only [Bool.and_eq_true, Nat.beq_eq, decide_eq_true_eq] at ho
    obtain ⟨-, rfl, rfl, e1⟩ := ho
    obtain ⟨k9, hk9⟩ := List.getElem?_of_mem (sl_lv_mem.mpr ⟨_, hv, rfl⟩ : (_, sl_v ad (.inl v)) ∈ sl_lv ad lo)
    exact lv_iinc hx hb hi (sl_lh_has h3) hk9 (by rw [e1]) hjn rfl (fun ls1 h9 => k ls1 (sl_lh_set h3 (v := .inl (v + a)) rfl h9))
  · cases h
theorem sl_s_iadd (hC : sl_Cx p s mid args c cc nL own D cA) (hd : sl_okd cc ck pc (6, a, j, n, ts) = true) (h : sl_bin X pc n lo st m (fun a b => a + b) = some x) (ih : ∀ S1 m1, X S1 m1 = some x → sl_G p l e R s mid args below meth c ad base NA Hb D cA ln rd VR MI cn sn nL x Q m0 S1 m1) : sl_G p l e R s mid args below meth c ad base NA Hb D cA ln rd VR MI cn sn nL x Q m0 (pc, lo, st) m := by
  obtain ⟨hx, hb, hml, hown, hts, hK⟩ := hC
  unfold sl_bin at h
  split at h
  · rename_i v w r
    obtain ⟨hi, rfl⟩ := sl_d1 hd rfl
    exact sl_G2 (lo1 := lo) (ih _ _ h) (fun q hq => sl_q2 q (sl_q2 q (sl_q1 q hq))) (fun H locs ls cells slots h2 h3 h4 k => lv_iadd hx hb hi k)
  · cases h
theorem sl_s_isub (hC : sl_Cx p s mid args c cc nL own D cA) (hd : sl_okd cc ck pc (7, a, j, n, ts) = true) (h : sl_bin X pc n lo st m (fun a b => a - b) = some x) (ih : ∀ S1 m1, X S1 m1 = some x → sl_G p l e R s mid args below meth c ad base NA Hb D cA ln rd VR MI cn sn nL x Q m0 S1 m1) : sl_G p l e R s mid args below meth c ad base NA Hb D cA ln rd VR MI cn sn nL x Q m0 (pc, lo, st) m := by
  obtain ⟨hx, hb, hml, hown, hts, hK⟩ := hC
  unfold sl_bin at h
  split at h
  · rename_i v w r
    obtain ⟨hi, rfl⟩ := sl_d1 hd rfl
    exact sl_G2 (lo1 := lo) (ih _ _ h) (fun q hq => sl_q2 q (sl_q2 q (sl_q1 q hq))) (fun H locs ls cells slots h2 h3 h4 k => lv_isub hx hb hi k)
  · cases h
theorem sl_s_imul (hC : sl_Cx p s mid args c cc nL own D cA) (hd : sl_okd cc ck pc (8, a, j, n, ts) = true) (h : sl_bin X pc n lo st m (fun a b => a * b) = some x) (ih : ∀ S1 m1, X S1 m1 = some x → sl_G p l e R s mid args below meth c ad base NA Hb D cA ln rd VR MI cn sn nL x Q m0 S1 m1) : sl_G p l e R s mid args below meth c ad base NA Hb D cA ln rd VR MI cn sn nL x Q m0 (pc, lo, st) m := by
  obtain ⟨hx, hb, hml, hown, hts, hK⟩ := hC
  unfold sl_bin at h
  split at h
  · rename_i v w r
    obtain ⟨hi, rfl⟩ := sl_d1 hd rfl
    exact sl_G2 (lo1 := lo) (ih _ _ h) (fun q hq => sl_q2 q (sl_q2 q (sl_q1 q hq))) (fun H locs ls cells slots h2 h3 h4 k => lv_imul hx hb hi k)
  · cases h
theorem sl_s_iand (hC : sl_Cx p s mid args c cc nL own D cA) (hd : sl_okd cc ck pc (11, a, j, n, ts) = true) (h : sl_bin X pc n lo st m (fun a b => a &&& b) = some x) (ih : ∀ S1 m1, X S1 m1 = some x → sl_G p l e R s mid args below meth c ad base NA Hb D cA ln rd VR MI cn sn nL x Q m0 S1 m1) : sl_G p l e R s mid args below meth c ad base NA Hb D cA ln rd VR MI cn sn nL x Q m0 (pc, lo, st) m := by
  obtain ⟨hx, hb, hml, hown, hts, hK⟩ := hC
  unfold sl_bin at h
  split at h
  · rename_i v w r
    obtain ⟨hi, rfl⟩ := sl_d1 hd rfl
    exact sl_G2 (lo1 := lo) (ih _ _ h) (fun q hq => sl_q2 q (sl_q2 q (sl_q1 q hq))) (fun H locs ls cells slots h2 h3 h4 k => lv_iand hx hb hi k)
  · cases h
theorem sl_s_ior (hC : sl_Cx p s mid args c cc nL own D cA) (hd : sl_okd cc ck pc (12, a, j, n, ts) = true) (h : sl_bin X pc n lo st m (fun a b => a ||| b) = some x) (ih : ∀ S1 m1, X S1 m1 = some x → sl_G p l e R s mid args below meth c ad base NA Hb D cA ln rd VR MI cn sn nL x Q m0 S1 m1) : sl_G p l e R s mid args below meth c ad base NA Hb D cA ln rd VR MI cn sn nL x Q m0 (pc, lo, st) m := by
  obtain ⟨hx, hb, hml, hown, hts, hK⟩ := hC
  unfold sl_bin at h
  split at h
  · rename_i v w r
    obtain ⟨hi, rfl⟩ := sl_d1 hd rfl
    exact sl_G2 (lo1 := lo) (ih _ _ h) (fun q hq => sl_q2 q (sl_q2 q (sl_q1 q hq))) (fun H locs ls cells slots h2 h3 h4 k => lv_ior hx hb hi k)
  · cases h
theorem sl_s_ixor (hC : sl_Cx p s mid args c cc nL own D cA) (hd : sl_okd cc ck pc (13, a, j, n, ts) = true) (h : sl_bin X pc n lo st m (fun a b => a ^^^ b) = some x) (ih : ∀ S1 m1, X S1 m1 = some x → sl_G p l e R s mid args below meth c ad base NA Hb D cA ln rd VR MI cn sn nL x Q m0 S1 m1) : sl_G p l e R s mid args below meth c ad base NA Hb D cA ln rd VR MI cn sn nL x Q m0 (pc, lo, st) m := by
  obtain ⟨hx, hb, hml, hown, hts, hK⟩ := hC
  unfold sl_bin at h
  split at h
  · rename_i v w r
    obtain ⟨hi, rfl⟩ := sl_d1 hd rfl
    exact sl_G2 (lo1 := lo) (ih _ _ h) (fun q hq => sl_q2 q (sl_q2 q (sl_q1 q hq))) (fun H locs ls cells slots h2 h3 h4 k => lv_ixor hx hb hi k)
  · cases h
theorem sl_s_ishl (hC : sl_Cx p s mid args c cc nL own D cA) (hd : sl_okd cc ck pc (14, a, j, n, ts) = true) (h : sl_bin X pc n lo st m (fun a b => a <<< (b &&& 31)) = some x) (ih : ∀ S1 m1, X S1 m1 = some x → sl_G p l e R s mid args below meth c ad base NA Hb D cA ln rd VR MI cn sn nL x Q m0 S1 m1) : sl_G p l e R s mid args below meth c ad base NA Hb D cA ln rd VR MI cn sn nL x Q m0 (pc, lo, st) m := by
  obtain ⟨hx, hb, hml, hown, hts, hK⟩ := hC
  unfold sl_bin at h
  split at h
  · rename_i v w r
    obtain ⟨hi, rfl⟩ := sl_d1 hd rfl
    exact sl_G2 (lo1 := lo) (ih _ _ h) (fun q hq => sl_q2 q (sl_q2 q (sl_q1 q hq))) (fun H locs ls cells slots h2 h3 h4 k => lv_ishl hx hb hi k)
  · cases h
theorem sl_s_ishr (hC : sl_Cx p s mid args c cc nL own D cA) (hd : sl_okd cc ck pc (15, a, j, n, ts) = true) (h : sl_bin X pc n lo st m (fun a b => a >>> (b &&& 31)) = some x) (ih : ∀ S1 m1, X S1 m1 = some x → sl_G p l e R s mid args below meth c ad base NA Hb D cA ln rd VR MI cn sn nL x Q m0 S1 m1) : sl_G p l e R s mid args below meth c ad base NA Hb D cA ln rd VR MI cn sn nL x Q m0 (pc, lo, st) m := by
  obtain ⟨hx, hb, hml, hown, hts, hK⟩ := hC
  unfold sl_bin at h
  split at h
  · rename_i v w r
    obtain ⟨hi, rfl⟩ := sl_d1 hd rfl
    exact sl_G2 (lo1 := lo) (ih _ _ h) (fun q hq => sl_q2 q (sl_q2 q (sl_q1 q hq))) (fun H locs ls cells slots h2 h3 h4 k => lv_ishr hx hb hi k)
  · cases h
theorem sl_s_iushr (hC : sl_Cx p s mid args c cc nL own D cA) (hd : sl_okd cc ck pc (16, a, j, n, ts) = true) (h : sl_bin X pc n lo st m (fun a b => (a.toUInt32 >>> (b.toUInt32 &&& Int32.toUInt32 31)).toInt32) = some x) (ih : ∀ S1 m1, X S1 m1 = some x → sl_G p l e R s mid args below meth c ad base NA Hb D cA ln rd VR MI cn sn nL x Q m0 S1 m1) : sl_G p l e R s mid args below meth c ad base NA Hb D cA ln rd VR MI cn sn nL x Q m0 (pc, lo, st) m := by
  obtain ⟨hx, hb, hml, hown, hts, hK⟩ := hC
  unfold sl_bin at h
  split at h
  · rename_i v w r
    obtain ⟨hi, rfl⟩ := sl_d1 hd rfl
    exact sl_G2 (lo1 := lo) (ih _ _ h) (fun q hq => sl_q2 q (sl_q2 q (sl_q1 q hq))) (fun H locs ls cells slots h2 h3 h4 k => lv_iushr hx hb hi rfl k)
  · cases h
theorem sl_s_idiv (hC : sl_Cx p s mid args c cc nL own D cA) (hd : sl_okd cc ck pc (9, a, j, n, ts) = true) (h : sl_dv X pc n lo st m (fun a b => a / b) = some x) (ih : ∀ S1 m1, X S1 m1 = some x → sl_G p l e R s mid args below meth c ad base NA Hb D cA ln rd VR MI cn sn nL x Q m0 S1 m1) : sl_G p l e R s mid args below meth c ad base NA Hb D cA ln rd VR MI cn sn nL x Q m0 (pc, lo, st) m := by
  obtain ⟨hx, hb, hml, hown, hts, hK⟩ := hC
  unfold sl_dv at h
  split at h
  · rename_i v w r
    obtain ⟨hi, rfl⟩ := sl_d1 hd rfl
    split at h
    · cases h
    · rename_i hz
      exact sl_G2 (lo1 := lo) (ih _ _ h) (fun q hq => sl_q2 q (sl_q2 q (sl_q1 q hq))) (fun H locs ls cells slots h2 h3 h4 k => lv_idiv hx hb hi hz k)
  · cases h
theorem sl_s_irem (hC : sl_Cx p s mid args c cc nL own D cA) (hd : sl_okd cc ck pc (10, a, j, n, ts) = true) (h : sl_dv X pc n lo st m (fun a b => a - a / b * b) = some x) (ih : ∀ S1 m1, X S1 m1 = some x → sl_G p l e R s mid args below meth c ad base NA Hb D cA ln rd VR MI cn sn nL x Q m0 S1 m1) : sl_G p l e R s mid args below meth c ad base NA Hb D cA ln rd VR MI cn sn nL x Q m0 (pc, lo, st) m := by
  obtain ⟨hx, hb, hml, hown, hts, hK⟩ := hC
  unfold sl_dv at h
  split at h
  · rename_i v w r
    obtain ⟨hi, rfl⟩ := sl_d1 hd rfl
    split at h
    · cases h
    · rename_i hz
      exact sl_G2 (lo1 := lo) (ih _ _ h) (fun q hq => sl_q2 q (sl_q2 q (sl_q1 q hq))) (fun H locs ls cells slots h2 h3 h4 k => lv_irem hx hb hi hz k)
  · cases h
theorem sl_s_i2b (hC : sl_Cx p s mid args c cc nL own D cA) (hd : sl_okd cc ck pc (17, a, j, n, ts) = true) (h : sl_un X pc n lo st m (fun a => .inl a.toInt8.toInt32) = some x) (ih : ∀ S1 m1, X S1 m1 = some x → sl_G p l e R s mid args below meth c ad base NA Hb D cA ln rd VR MI cn sn nL x Q m0 S1 m1) : sl_G p l e R s mid args below meth c ad base NA Hb D cA ln rd VR MI cn sn nL x Q m0 (pc, lo, st) m := by
  obtain ⟨hx, hb, hml, hown, hts, hK⟩ := hC
  unfold sl_un at h
  split at h
  · rename_i v r
    obtain ⟨hi, rfl⟩ := sl_d1 hd rfl
    exact sl_G2 (lo1 := lo) (ih _ _ h) (fun q hq => sl_q2 q (by rcases List.mem_cons.mp hq with hq | hq; (· cases hq); exact hq)) (fun H locs ls cells slots h2 h3 h4 k => lv_i2b hx hb hi rfl k)
  · cases h
theorem sl_s_i2l (hC : sl_Cx p s mid args c cc nL own D cA) (hd : sl_okd cc ck pc (18, a, j, n, ts) = true) (h : sl_un X pc n lo st m (fun a => .inr (.inr a.toInt64)) = some x) (ih : ∀ S1 m1, X S1 m1 = some x → sl_G p l e R s mid args below meth c ad base NA Hb D cA ln rd VR MI cn sn nL x Q m0 S1 m1) : sl_G p l e R s mid args below meth c ad base NA Hb D cA ln rd VR MI cn sn nL x Q m0 (pc, lo, st) m := by
  obtain ⟨hx, hb, hml, hown, hts, hK⟩ := hC
  unfold sl_un at h
  split at h
  · rename_i v r
    obtain ⟨hi, rfl⟩ := sl_d1 hd rfl
    exact sl_G2 (lo1 := lo) (ih _ _ h) (fun q hq => sl_q2 q (by rcases List.mem_cons.mp hq with hq | hq; (· cases hq); exact hq)) (fun H locs ls cells slots h2 h3 h4 k => lv_i2l hx hb hi rfl k)
  · cases h
theorem sl_s_dup (hC : sl_Cx p s mid args c cc nL own D cA) (hd : sl_okd cc ck pc (19, a, j, n, ts) = true) (h : sl_dup X pc n lo st m = some x) (ih : ∀ S1 m1, X S1 m1 = some x → sl_G p l e R s mid args below meth c ad base NA Hb D cA ln rd VR MI cn sn nL x Q m0 S1 m1) : sl_G p l e R s mid args below meth c ad base NA Hb D cA ln rd VR MI cn sn nL x Q m0 (pc, lo, st) m := by
  obtain ⟨hx, hb, hml, hown, hts, hK⟩ := hC
  unfold sl_dup at h
  split at h
  · rename_i v r
    obtain ⟨hi, rfl⟩ := sl_d1 hd rfl
    cases hv : sl_c1 v with
    | false => rw [hv] at h; cases h
    | true =>
      rw [hv] at h
      exact sl_G2 (lo1 := lo) (ih _ _ h) (fun q hq => by rcases List.mem_cons.mp hq with hq | hq; (· rw [hq]; exact List.mem_cons_self); exact hq) (fun H locs ls cells slots h2 h3 h4 k => lv_dup hx hb hi (sl_cat ad hv) k)
  · cases h
theorem sl_s_dup2 (hC : sl_Cx p s mid args c cc nL own D cA) (hd : sl_okd cc ck pc (20, a, j, n, ts) = true) (h : sl_dup2 X pc n lo st m = some x) (ih : ∀ S1 m1, X S1 m1 = some x → sl_G p l e R s mid args below meth c ad base NA Hb D cA ln rd VR MI cn sn nL x Q m0 S1 m1) : sl_G p l e R s mid args below meth c ad base NA Hb D cA ln rd VR MI cn sn nL x Q m0 (pc, lo, st) m := by
  obtain ⟨hx, hb, hml, hown, hts, hK⟩ := hC
  unfold sl_dup2 at h
  split at h
  · rename_i v w r
    obtain ⟨hi, rfl⟩ := sl_d1 hd rfl
    cases hv : sl_c1 v with
    | false => rw [hv] at h; cases h
    | true =>
      cases hw : sl_c1 w with
      | false => rw [hv, hw] at h; cases h
      | true =>
        rw [hv, hw] at h
        exact sl_G2 (lo1 := lo) (ih _ _ h) (fun q hq => by
          rcases List.mem_cons.mp hq with hq | hq
          · rw [hq]; exact List.mem_cons_self
          · rcases List.mem_cons.mp hq with hq | hq
            · rw [hq]; exact List.mem_cons_of_mem _ List.mem_cons_self
            · exact hq) (fun H locs ls cells slots h2 h3 h4 k => lv_dup2_11 hx hb hi (sl_cat ad hv) (sl_cat ad hw) k)
  · cases h
theorem sl_s_pop (hC : sl_Cx p s mid args c cc nL own D cA) (hd : sl_okd cc ck pc (21, a, j, n, ts) = true) (h : sl_pop X pc n lo st m = some x) (ih : ∀ S1 m1, X S1 m1 = some x → sl_G p l e R s mid args below meth c ad base NA Hb D cA ln rd VR MI cn sn nL x Q m0 S1 m1) : sl_G p l e R s mid args below meth c ad base NA Hb D cA ln rd VR MI cn sn nL x Q m0 (pc, lo, st) m := by
  obtain ⟨hx, hb, hml, hown, hts, hK⟩ := hC
  unfold sl_pop at h
  split at h
  · rename_i v r
    obtain ⟨hi, rfl⟩ := sl_d1 hd rfl
    cases hv : sl_c1 v with
    | false => rw [hv] at h; cases h
    | true =>
      rw [hv] at h
      exact sl_G2 (lo1 := lo) (ih _ _ h) sl_q2 (fun H locs ls cells slots h2 h3 h4 k => lv_pop hx hb hi (sl_cat ad hv) k)
  · cases h
theorem sl_s_ceq (hC : sl_Cx p s mid args c cc nL own D cA) (hd : sl_okd cc ck pc (22, a, j, n, ts) = true) (h : sl_ceq X pc n lo st m j = some x) (ih : ∀ S1 m1, X S1 m1 = some x → sl_G p l e R s mid args below meth c ad base NA Hb D cA ln rd VR MI cn sn nL x Q m0 S1 m1) : sl_G p l e R s mid args below meth c ad base NA Hb D cA ln rd VR MI cn sn nL x Q m0 (pc, lo, st) m := by
  obtain ⟨hx, hb, hml, hown, hts, hK⟩ := hC
  unfold sl_ceq at h
  split at h
  · obtain ⟨off, hi, rfl, ht⟩ := sl_d2 hd rfl rfl
    split at h
    · rename_i hz
      exact sl_G2 (lo1 := lo) (ih _ _ h) (fun q hq => sl_q2 q (sl_q2 q hq)) (fun H locs ls cells slots h2 h3 h4 k => lv_icmp_eq hx hb hi ht (fun _ => k) (fun w => absurd hz w))
    · rename_i hz
      exact sl_G2 (lo1 := lo) (ih _ _ h) (fun q hq => sl_q2 q (sl_q2 q hq)) (fun H locs ls cells slots h2 h3 h4 k => lv_icmp_eq hx hb hi ht (fun w => absurd w hz) (fun _ => k))
  · cases h
theorem sl_s_cne (hC : sl_Cx p s mid args c cc nL own D cA) (hd : sl_okd cc ck pc (23, a, j, n, ts) = true) (h : sl_cne X pc n lo st m j = some x) (ih : ∀ S1 m1, X S1 m1 = some x → sl_G p l e R s mid args below meth c ad base NA Hb D cA ln rd VR MI cn sn nL x Q m0 S1 m1) : sl_G p l e R s mid args below meth c ad base NA Hb D cA ln rd VR MI cn sn nL x Q m0 (pc, lo, st) m := by
  obtain ⟨hx, hb, hml, hown, hts, hK⟩ := hC
  unfold sl_cne at h
  split at h
  · obtain ⟨off, hi, rfl, ht⟩ := sl_d2 hd rfl rfl
    split at h
    · rename_i hz
      exact sl_G2 (lo1 := lo) (ih _ _ h) (fun q hq => sl_q2 q (sl_q2 q hq)) (fun H locs ls cells slots h2 h3 h4 k => lv_icmp_ne hx hb hi ht (fun w => absurd hz w) (fun _ => k))
    · rename_i hz
      exact sl_G2 (lo1 := lo) (ih _ _ h) (fun q hq => sl_q2 q (sl_q2 q hq)) (fun H locs ls cells slots h2 h3 h4 k => lv_icmp_ne hx hb hi ht (fun _ => k) (fun w => absurd w hz))
  · cases h
theorem sl_s_clt (hC : sl_Cx p s mid args c cc nL own D cA) (hd : sl_okd cc ck pc (24, a, j, n, ts) = true) (h : sl_clt X pc n lo st m j = some x) (ih : ∀ S1 m1, X S1 m1 = some x → sl_G p l e R s mid args below meth c ad base NA Hb D cA ln rd VR MI cn sn nL x Q m0 S1 m1) : sl_G p l e R s mid args below meth c ad base NA Hb D cA ln rd VR MI cn sn nL x Q m0 (pc, lo, st) m := by
  obtain ⟨hx, hb, hml, hown, hts, hK⟩ := hC
  unfold sl_clt at h
  split at h
  · obtain ⟨off, hi, rfl, ht⟩ := sl_d2 hd rfl rfl
    split at h
    · rename_i hz
      exact sl_G2 (lo1 := lo) (ih _ _ h) (fun q hq => sl_q2 q (sl_q2 q hq)) (fun H locs ls cells slots h2 h3 h4 k => lv_icmp_lt hx hb hi ht (fun _ => k) (fun w => absurd hz w))
    · rename_i hz
      exact sl_G2 (lo1 := lo) (ih _ _ h) (fun q hq => sl_q2 q (sl_q2 q hq)) (fun H locs ls cells slots h2 h3 h4 k => lv_icmp_lt hx hb hi ht (fun w => absurd w hz) (fun _ => k))
  · cases h
theorem sl_s_cge (hC : sl_Cx p s mid args c cc nL own D cA) (hd : sl_okd cc ck pc (25, a, j, n, ts) = true) (h : sl_cge X pc n lo st m j = some x) (ih : ∀ S1 m1, X S1 m1 = some x → sl_G p l e R s mid args below meth c ad base NA Hb D cA ln rd VR MI cn sn nL x Q m0 S1 m1) : sl_G p l e R s mid args below meth c ad base NA Hb D cA ln rd VR MI cn sn nL x Q m0 (pc, lo, st) m := by
  obtain ⟨hx, hb, hml, hown, hts, hK⟩ := hC
  unfold sl_cge at h
  split at h
  · obtain ⟨off, hi, rfl, ht⟩ := sl_d2 hd rfl rfl
    split at h
    · rename_i hz
      exact sl_G2 (lo1 := lo) (ih _ _ h) (fun q hq => sl_q2 q (sl_q2 q hq)) (fun H locs ls cells slots h2 h3 h4 k => lv_icmp_ge hx hb hi ht (fun _ => k) (fun w => absurd hz w))
    · rename_i hz
      exact sl_G2 (lo1 := lo) (ih _ _ h) (fun q hq => sl_q2 q (sl_q2 q hq)) (fun H locs ls cells slots h2 h3 h4 k => lv_icmp_ge hx hb hi ht (fun w => absurd w hz) (fun _ => k))
  · cases h
theorem sl_s_cgt (hC : sl_Cx p s mid args c cc nL own D cA) (hd : sl_okd cc ck pc (26, a, j, n, ts) = true) (h : sl_cgt X pc n lo st m j = some x) (ih : ∀ S1 m1, X S1 m1 = some x → sl_G p l e R s mid args below meth c ad base NA Hb D cA ln rd VR MI cn sn nL x Q m0 S1 m1) : sl_G p l e R s mid args below meth c ad base NA Hb D cA ln rd VR MI cn sn nL x Q m0 (pc, lo, st) m := by
  obtain ⟨hx, hb, hml, hown, hts, hK⟩ := hC
  unfold sl_cgt at h
  split at h
  · obtain ⟨off, hi, rfl, ht⟩ := sl_d2 hd rfl rfl
    split at h
    · rename_i hz
      exact sl_G2 (lo1 := lo) (ih _ _ h) (fun q hq => sl_q2 q (sl_q2 q hq)) (fun H locs ls cells slots h2 h3 h4 k => lv_icmp_gt hx hb hi ht (fun _ => k) (fun w => absurd hz w))
    · rename_i hz
      exact sl_G2 (lo1 := lo) (ih _ _ h) (fun q hq => sl_q2 q (sl_q2 q hq)) (fun H locs ls cells slots h2 h3 h4 k => lv_icmp_gt hx hb hi ht (fun w => absurd w hz) (fun _ => k))
  · cases h
theorem sl_s_cle (hC : sl_Cx p s mid args c cc nL own D cA) (hd : sl_okd cc ck pc (27, a, j, n, ts) = true) (h : sl_cle X pc n lo st m j = some x) (ih : ∀ S1 m1, X S1 m1 = some x → sl_G p l e R s mid args below meth c ad base NA Hb D cA ln rd VR MI cn sn nL x Q m0 S1 m1) : sl_G p l e R s mid args below meth c ad base NA Hb D cA ln rd VR MI cn sn nL x Q m0 (pc, lo, st) m := by
  obtain ⟨hx, hb, hml, hown, hts, hK⟩ := hC
  unfold sl_cle at h
  split at h
  · obtain ⟨off, hi, rfl, ht⟩ := sl_d2 hd rfl rfl
    split at h
    · rename_i hz
      exact sl_G2 (lo1 := lo) (ih _ _ h) (fun q hq => sl_q2 q (sl_q2 q hq)) (fun H locs ls cells slots h2 h3 h4 k => lv_icmp_le hx hb hi ht (fun _ => k) (fun w => absurd hz w))
    · rename_i hz
      exact sl_G2 (lo1 := lo) (ih _ _ h) (fun q hq => sl_q2 q (sl_q2 q hq)) (fun H locs ls cells slots h2 h3 h4 k => lv_icmp_le hx hb hi ht (fun w => absurd w hz) (fun _ => k))
  · cases h
theorem sl_s_zeq (hC : sl_Cx p s mid args c cc nL own D cA) (hd : sl_okd cc ck pc (28, a, j, n, ts) = true) (h : sl_zeq X pc n lo st m j = some x) (ih : ∀ S1 m1, X S1 m1 = some x → sl_G p l e R s mid args below meth c ad base NA Hb D cA ln rd VR MI cn sn nL x Q m0 S1 m1) : sl_G p l e R s mid args below meth c ad base NA Hb D cA ln rd VR MI cn sn nL x Q m0 (pc, lo, st) m := by
  obtain ⟨hx, hb, hml, hown, hts, hK⟩ := hC
  unfold sl_zeq at h
  split at h
  · obtain ⟨off, hi, rfl, ht⟩ := sl_d2 hd rfl rfl
    split at h
    · rename_i hz
      exact sl_G2 (lo1 := lo) (ih _ _ h) (sl_q2) (fun H locs ls cells slots h2 h3 h4 k => lv_if_eq hx hb hi ht (fun _ => k) (fun w => absurd hz w))
    · rename_i hz
      exact sl_G2 (lo1 := lo) (ih _ _ h) (sl_q2) (fun H locs ls cells slots h2 h3 h4 k => lv_if_eq hx hb hi ht (fun w => absurd w hz) (fun _ => k))
  · cases h
theorem sl_s_zne (hC : sl_Cx p s mid args c cc nL own D cA) (hd : sl_okd cc ck pc (29, a, j, n, ts) = true) (h : sl_zne X pc n lo st m j = some x) (ih : ∀ S1 m1, X S1 m1 = some x → sl_G p l e R s mid args below meth c ad base NA Hb D cA ln rd VR MI cn sn nL x Q m0 S1 m1) : sl_G p l e R s mid args below meth c ad base NA Hb D cA ln rd VR MI cn sn nL x Q m0 (pc, lo, st) m := by
  obtain ⟨hx, hb, hml, hown, hts, hK⟩ := hC
  unfold sl_zne at h
  split at h
  · obtain ⟨off, hi, rfl, ht⟩ := sl_d2 hd rfl rfl
    split at h
    · rename_i hz
      exact sl_G2 (lo1 := lo) (ih _ _ h) (sl_q2) (fun H locs ls cells slots h2 h3 h4 k => lv_if_ne hx hb hi ht (fun w => absurd hz w) (fun _ => k))
    · rename_i hz
      exact sl_G2 (lo1 := lo) (ih _ _ h) (sl_q2) (fun H locs ls cells slots h2 h3 h4 k => lv_if_ne hx hb hi ht (fun _ => k) (fun w => absurd w hz))
  · cases h
theorem sl_s_zlt (hC : sl_Cx p s mid args c cc nL own D cA) (hd : sl_okd cc ck pc (30, a, j, n, ts) = true) (h : sl_zlt X pc n lo st m j = some x) (ih : ∀ S1 m1, X S1 m1 = some x → sl_G p l e R s mid args below meth c ad base NA Hb D cA ln rd VR MI cn sn nL x Q m0 S1 m1) : sl_G p l e R s mid args below meth c ad base NA Hb D cA ln rd VR MI cn sn nL x Q m0 (pc, lo, st) m := by
  obtain ⟨hx, hb, hml, hown, hts, hK⟩ := hC
  unfold sl_zlt at h
  split at h
  · obtain ⟨off, hi, rfl, ht⟩ := sl_d2 hd rfl rfl
    split at h
    · rename_i hz
      exact sl_G2 (lo1 := lo) (ih _ _ h) (sl_q2) (fun H locs ls cells slots h2 h3 h4 k => lv_if_lt hx hb hi ht (fun _ => k) (fun w => absurd hz w))
    · rename_i hz
      exact sl_G2 (lo1 := lo) (ih _ _ h) (sl_q2) (fun H locs ls cells slots h2 h3 h4 k => lv_if_lt hx hb hi ht (fun w => absurd w hz) (fun _ => k))
  · cases h
theorem sl_s_zge (hC : sl_Cx p s mid args c cc nL own D cA) (hd : sl_okd cc ck pc (31, a, j, n, ts) = true) (h : sl_zge X pc n lo st m j = some x) (ih : ∀ S1 m1, X S1 m1 = some x → sl_G p l e R s mid args below meth c ad base NA Hb D cA ln rd VR MI cn sn nL x Q m0 S1 m1) : sl_G p l e R s mid args below meth c ad base NA Hb D cA ln rd VR MI cn sn nL x Q m0 (pc, lo, st) m := by
  obtain ⟨hx, hb, hml, hown, hts, hK⟩ := hC
  unfold sl_zge at h
  split at h
  · obtain ⟨off, hi, rfl, ht⟩ := sl_d2 hd rfl rfl
    split at h
    · rename_i hz
      exact sl_G2 (lo1 := lo) (ih _ _ h) (sl_q2) (fun H locs ls cells slots h2 h3 h4 k => lv_if_ge hx hb hi ht (fun _ => k) (fun w => absurd hz w))
    · rename_i hz
      exact sl_G2 (lo1 := lo) (ih _ _ h) (sl_q2) (fun H locs ls cells slots h2 h3 h4 k => lv_if_ge hx hb hi ht (fun w => absurd w hz) (fun _ => k))
  · cases h
theorem sl_s_zgt (hC : sl_Cx p s mid args c cc nL own D cA) (hd : sl_okd cc ck pc (32, a, j, n, ts) = true) (h : sl_zgt X pc n lo st m j = some x) (ih : ∀ S1 m1, X S1 m1 = some x → sl_G p l e R s mid args below meth c ad base NA Hb D cA ln rd VR MI cn sn nL x Q m0 S1 m1) : sl_G p l e R s mid args below meth c ad base NA Hb D cA ln rd VR MI cn sn nL x Q m0 (pc, lo, st) m := by
  obtain ⟨hx, hb, hml, hown, hts, hK⟩ := hC
  unfold sl_zgt at h
  split at h
  · obtain ⟨off, hi, rfl, ht⟩ := sl_d2 hd rfl rfl
    split at h
    · rename_i hz
      exact sl_G2 (lo1 := lo) (ih _ _ h) (sl_q2) (fun H locs ls cells slots h2 h3 h4 k => lv_if_gt hx hb hi ht (fun _ => k) (fun w => absurd hz w))
    · rename_i hz
      exact sl_G2 (lo1 := lo) (ih _ _ h) (sl_q2) (fun H locs ls cells slots h2 h3 h4 k => lv_if_gt hx hb hi ht (fun w => absurd w hz) (fun _ => k))
  · cases h
theorem sl_s_zle (hC : sl_Cx p s mid args c cc nL own D cA) (hd : sl_okd cc ck pc (33, a, j, n, ts) = true) (h : sl_zle X pc n lo st m j = some x) (ih : ∀ S1 m1, X S1 m1 = some x → sl_G p l e R s mid args below meth c ad base NA Hb D cA ln rd VR MI cn sn nL x Q m0 S1 m1) : sl_G p l e R s mid args below meth c ad base NA Hb D cA ln rd VR MI cn sn nL x Q m0 (pc, lo, st) m := by
  obtain ⟨hx, hb, hml, hown, hts, hK⟩ := hC
  unfold sl_zle at h
  split at h
  · obtain ⟨off, hi, rfl, ht⟩ := sl_d2 hd rfl rfl
    split at h
    · rename_i hz
      exact sl_G2 (lo1 := lo) (ih _ _ h) (sl_q2) (fun H locs ls cells slots h2 h3 h4 k => lv_if_le hx hb hi ht (fun _ => k) (fun w => absurd hz w))
    · rename_i hz
      exact sl_G2 (lo1 := lo) (ih _ _ h) (sl_q2) (fun H locs ls cells slots h2 h3 h4 k => lv_if_le hx hb hi ht (fun w => absurd w hz) (fun _ => k))
  · cases h
theorem sl_s_goto (hC : sl_Cx p s mid args c cc nL own D cA) (hd : sl_okd cc ck pc (34, a, j, n, ts) = true) (h : X (j, lo, st) m = some x) (ih : ∀ S1 m1, X S1 m1 = some x → sl_G p l e R s mid args below meth c ad base NA Hb D cA ln rd VR MI cn sn nL x Q m0 S1 m1) : sl_G p l e R s mid args below meth c ad base NA Hb D cA ln rd VR MI cn sn nL x Q m0 (pc, lo, st) m := by
  obtain ⟨hx, hb, hml, hown, hts, hK⟩ := hC
  obtain ⟨off, hi, rfl, ht⟩ := sl_d2 hd rfl rfl
  exact sl_G2 (lo1 := lo) (ih _ _ h) (fun q hq => hq) (fun H locs ls cells slots h2 h3 h4 k => lv_goto hx hb hi ht k)
theorem sl_s_null (hC : sl_Cx p s mid args c cc nL own D cA) (hd : sl_okd cc ck pc (51, a, j, n, ts) = true) (h : X (pc + n, lo, .inr (.inl none) :: st) m = some x) (ih : ∀ S1 m1, X S1 m1 = some x → sl_G p l e R s mid args below meth c ad base NA Hb D cA ln rd VR MI cn sn nL x Q m0 S1 m1) : sl_G p l e R s mid args below meth c ad base NA Hb D cA ln rd VR MI cn sn nL x Q m0 (pc, lo, st) m := by
  obtain ⟨hx, hb, hml, hown, hts, hK⟩ := hC
  obtain ⟨hi, rfl⟩ := sl_d1 hd rfl
  exact sl_G2 (lo1 := lo) (ih _ _ h) (fun q hq => by rcases List.mem_cons.mp hq with hq | hq; (· cases hq); exact hq) (fun H locs ls cells slots h2 h3 h4 k => lv_null hx hb hi k)
theorem sl_s_ifn (hC : sl_Cx p s mid args c cc nL own D cA) (hd : sl_okd cc ck pc (52, a, j, n, ts) = true) (h : sl_ifn X pc n lo st m j = some x) (ih : ∀ S1 m1, X S1 m1 = some x → sl_G p l e R s mid args below meth c ad base NA Hb D cA ln rd VR MI cn sn nL x Q m0 S1 m1) : sl_G p l e R s mid args below meth c ad base NA Hb D cA ln rd VR MI cn sn nL x Q m0 (pc, lo, st) m := by
  obtain ⟨hx, hb, hml, hown, hts, hK⟩ := hC
  obtain ⟨off, hi, rfl, ht⟩ := sl_d2 hd rfl rfl
  unfold sl_ifn at h
  split at h
  · exact sl_G2 (lo1 := lo) (ih _ _ h) sl_q2 (fun H locs ls cells slots h2 h3 h4 k => lv_ifnullN hx hb hi ht k)
  · exact sl_G2 (lo1 := lo) (ih _ _ h) sl_q2 (fun H locs ls cells slots h2 h3 h4 k => lv_ifnull hx hb hi k)
  · cases h
theorem sl_s_ifnn (hC : sl_Cx p s mid args c cc nL own D cA) (hd : sl_okd cc ck pc (53, a, j, n, ts) = true) (h : sl_ifnn X pc n lo st m j = some x) (ih : ∀ S1 m1, X S1 m1 = some x → sl_G p l e R s mid args below meth c ad base NA Hb D cA ln rd VR MI cn sn nL x Q m0 S1 m1) : sl_G p l e R s mid args below meth c ad base NA Hb D cA ln rd VR MI cn sn nL x Q m0 (pc, lo, st) m := by
  obtain ⟨hx, hb, hml, hown, hts, hK⟩ := hC
  obtain ⟨off, hi, rfl, ht⟩ := sl_d2 hd rfl rfl
  unfold sl_ifnn at h
  split at h
  · exact sl_G2 (lo1 := lo) (ih _ _ h) sl_q2 (fun H locs ls cells slots h2 h3 h4 k => lv_ifnonnullN hx hb hi k)
  · exact sl_G2 (lo1 := lo) (ih _ _ h) sl_q2 (fun H locs ls cells slots h2 h3 h4 k => lv_ifnonnull hx hb hi ht k)
  · cases h
theorem sl_s_lcmp (hC : sl_Cx p s mid args c cc nL own D cA) (hd : sl_okd cc ck pc (58, a, j, n, ts) = true) (h : sl_lcmp X pc n lo st m = some x) (ih : ∀ S1 m1, X S1 m1 = some x → sl_G p l e R s mid args below meth c ad base NA Hb D cA ln rd VR MI cn sn nL x Q m0 S1 m1) : sl_G p l e R s mid args below meth c ad base NA Hb D cA ln rd VR MI cn sn nL x Q m0 (pc, lo, st) m := by
  obtain ⟨hx, hb, hml, hown, hts, hK⟩ := hC
  obtain ⟨hi, rfl⟩ := sl_d1 hd rfl
  unfold sl_lcmp at h
  split at h
  · exact sl_G2 (lo1 := lo) (ih _ _ h) (fun q hq => sl_q2 q (sl_q2 q (sl_q1 q hq))) (fun H locs ls cells slots h2 h3 h4 k => W.lcmp hx hb hi k)
  · cases h
theorem sl_sw_in (v : Int32) (r : List sl_V) : ∀ (ts : List Nat) (i : Nat), sl_sw X lo m j v r i ts = some x → (∃ t k, ts[k]? = some t ∧ v = Int32.ofNat (i + k) ∧ X (t, lo, r) m = some x) ∨ ((∀ k, k < ts.length → v ≠ Int32.ofNat (i + k)) ∧ X (j, lo, r) m = some x)
  | [], i, h => Or.inr ⟨fun k hk => absurd hk (Nat.not_lt_zero k), h⟩
  | t :: ts, i, h => by
    unfold sl_sw at h
    split at h
    · rename_i hv
      exact Or.inl ⟨t, 0, rfl, hv, h⟩
    · rename_i hv
      rcases sl_sw_in v r ts (i + 1) h with ⟨t9, k, h1, h2, h3⟩ | ⟨h1, h2⟩
      · exact Or.inl ⟨t9, k + 1, by simpa using h1, by rw [h2]; congr 1; omega, h3⟩
      · refine Or.inr ⟨fun k hk => ?_, h2⟩
        cases k with
        | zero => exact hv
        | succ k => rw [show i + (k + 1) = i + 1 + k by omega]; exact h1 k (by simpa using hk)
theorem sl_oto_at : ∀ (offs : List Int) (ts : List Nat) (k t : Nat), sl_oto pc offs ts = true → ts[k]? = some t → ∃ off : Int, offs[k]? = some off ∧ (pc : Int) + off = (t : Int)
  | [], [], k, t, _, h => by simp at h
  | [], _ :: _, k, t, h, _ => by simp [sl_oto] at h
  | _ :: _, [], k, t, h, _ => by simp [sl_oto] at h
  | a :: r, t0 :: ts, 0, t, h, h1 => by
    simp only [sl_oto, Bool.and_eq_true, decide_eq_true_eq] at h
    simp only [List.getElem?_cons_zero, Option.some.injEq] at h1
    exact ⟨a, rfl, by rw [← h1]; exact h.1⟩
  | a :: r, t0 :: ts, k + 1, t, h, h1 => by
    simp only [sl_oto, Bool.and_eq_true, decide_eq_true_eq] at h
    simpa using sl_oto_at r ts k t h.2 (by simpa using h1)
theorem sl_s_tsw (hC : sl_Cx p s mid args c cc nL own D cA) (hd : sl_okd cc ck pc (57, a, j, n, ts) = true) (h : sl_tsw X lo st m j ts = some x) (ih : ∀ S1 m1, X S1 m1 = some x → sl_G p l e R s mid args below meth c ad base NA Hb D cA ln rd VR MI cn sn nL x Q m0 S1 m1) : sl_G p l e R s mid args below meth c ad base NA Hb D cA ln rd VR MI cn sn nL x Q m0 (pc, lo, st) m := by
  obtain ⟨hx, hb, hml, hown, hts, hK⟩ := hC
  unfold sl_tsw at h
  split at h
  · rename_i v r
    obtain ⟨i, hi, ho⟩ := sl_d5 hd
    unfold sl_okt at ho
    split at ho
    · rename_i d lo9 hi9 offs
      simp only [Bool.and_eq_true, decide_eq_true_eq] at ho
      obtain ⟨-, e0, e1, e2, e3, e4⟩ := ho
      subst e0
      rcases sl_sw_in v r ts 0 h with ⟨t, k, h1, h2, h3⟩ | ⟨h1, h2⟩
      · obtain ⟨off, h4, h5⟩ := sl_oto_at offs.toList ts k t e3 h1
        have hk : k < ts.length := (List.getElem?_eq_some_iff.mp h1).1
        have hv : v.toInt = (k : Int) := by rw [h2, Nat.zero_add]; exact nI_toInt (n := k) (by omega)
        refine sl_G2 (lo1 := lo) (ih _ _ h3) sl_q2 (fun H locs ls cells slots h6 h7 h8 kk => lv_tableIn hx hb hi (by omega) (by omega) (off := off) ?_ h5 kk)
        rw [show (v.toInt - 0).toNat = k by omega, ← Array.getElem?_toList]
        exact h4
      · refine sl_G2 (lo1 := lo) (ih _ _ h2) sl_q2 (fun H locs ls cells slots h6 h7 h8 kk => lv_tableOut hx hb hi ?_ e2 kk)
        rcases Int.lt_or_le v.toInt 0 with q | q
        · exact Or.inl q
        · refine Or.inr ?_
          rcases Int.lt_or_le hi9 v.toInt with q2 | q2
          · exact q2
          · have hlt : v.toInt.toNat < ts.length := by omega
            refine absurd ?_ (h1 v.toInt.toNat hlt)
            apply Int32.toInt_inj.mp
            rw [Nat.zero_add]
            rw [show (Int32.ofNat v.toInt.toNat).toInt = (v.toInt.toNat : Int) from nI_toInt (n := v.toInt.toNat) (by omega)]
            omega
    · exact Bool.noConfusion ho
  · cases h
theorem sl_s_oi (hC : sl_Cx p s mid args c cc nL own D cA) (hd : sl_okd cc ck pc (59, a, j, n, ts) = true) (hw : Cond.methodLink own j Lib.objectInit ∈ sl_GW ∧ Cond.instanceMethod Lib.objectInit ∈ sl_GW ∧ Cond.code Lib.objectInit ⟨#[0xb1]⟩ 1 none ∈ sl_GW) (hR : 1 ≤ R.frames ∧ 20 ≤ R.locals) (h : sl_oi X pc n lo st m = some x) (ih : ∀ S1 m1, X S1 m1 = some x → sl_G p l e R s mid args below meth c ad base NA Hb D cA ln rd VR MI cn sn nL x Q m0 S1 m1) : sl_G p l e R s mid args below meth c ad base NA Hb D cA ln rd VR MI cn sn nL x Q m0 (pc, lo, st) m := by
  obtain ⟨hx, hb, hml, hown, hts, hK⟩ := hC
  unfold sl_oi at h
  split at h
  · rename_i q r
    obtain ⟨i, hi, ho⟩ := sl_d4 hd rfl rfl rfl rfl
    cases hc : Nat.ble (sl_cs r) 8 with
    | false => rw [hc] at h; cases h
    | true =>
      rw [hc] at h
      unfold sl_okc at ho
      split at ho <;> first | exact Bool.noConfusion (show false = true from ho) | skip
      have ho : (Nat.beq _ j && Nat.beq n 3) = true := ho
      simp only [Bool.and_eq_true, Nat.beq_eq] at ho
      obtain ⟨rfl, rfl⟩ := ho
      refine sl_G2 (lo1 := lo) (ih _ _ h) sl_q2 (fun H locs ls cells slots h2 h3 h4 k => ?_)
      have hr := lv_room (m := mid) (pc := pc) (ls := ls) (rest := (Sum.inr (Sum.inl (some q)) :: r).map (sl_v ad)) (st := r.map (sl_v ad)) (by rw [sl_csum]; exact Nat.le_of_ble_eq_true hc)
      refine W.objInit hx hb hown (hts _ hw.1) (hts _ hw.2.1) (hts _ hw.2.2) rfl (h3.1.trans hml.symm) rfl hi hR.1 (by have := hr; omega) ?_
      exact W.eq rfl k
  · cases h
theorem sl_s_ldc (hC : sl_Cx p s mid args c cc nL own D cA) (hd : sl_okd cc ck pc (60, a, j, n, ts) = true) (hw : Cond.constant own j a ∈ sl_GW) (h : X (pc + n, lo, .inl a :: st) m = some x) (ih : ∀ S1 m1, X S1 m1 = some x → sl_G p l e R s mid args below meth c ad base NA Hb D cA ln rd VR MI cn sn nL x Q m0 S1 m1) : sl_G p l e R s mid args below meth c ad base NA Hb D cA ln rd VR MI cn sn nL x Q m0 (pc, lo, st) m := by
  obtain ⟨hx, hb, hml, hown, hts, hK⟩ := hC
  obtain ⟨i, hi, ho⟩ := sl_d4 hd rfl rfl rfl rfl
  unfold sl_okc at ho
  split at ho <;> first | exact Bool.noConfusion (show false = true from ho) | skip
  simp only [Bool.and_eq_true, Nat.beq_eq] at ho
  obtain ⟨-, rfl, rfl⟩ := ho
  exact sl_G2 (lo1 := lo) (ih _ _ h) sl_q1 (fun H locs ls cells slots h2 h3 h4 k => W.ldc hx hb hown (hts _ hw) rfl hi (W.eq rfl k))
/-! fields -/
theorem sl_w_getf {H : Heap} {locs : List Loc} {cells slots : Nat} {ls : Array Slot} {rest : List Value} {ci i k : Nat} (hC : sl_Cx p s mid args c cc nL own D cA) (hP : sl_HP ad base NA Hb D cA ln rd VR cn m H) (hv : VR m (ci, i)) (hci : ci < 12) (hk : k < sl_NX ci) (hlink : Cond.fieldLink own j (sl_RX ci) (sl_TX ci k).2.1 (sl_TX ci k).2.2.1 ∈ sl_GW) (hdg : decode cc pc = .ok (.getfield j, 3))
    (kk : W p l e R s mid args below meth c H locs cells slots Q (F0 mid (pc + 3) ls (sl_v ad (rd m ci i k) :: rest))) : W p l e R s mid args below meth c H locs cells slots Q (F0 mid pc ls (.ref (ad ci i) :: rest)) := by
  obtain ⟨hx, hb, hml, hown, hts, hK⟩ := hC
  obtain ⟨cell, q1, q2, q3, q4⟩ := (hP.2.2.2 ci i hv).1 hci
  obtain ⟨hS, hfc, kC, hkC, hkind⟩ := hK.1 ci _ (sl_cls_at hci)
  obtain ⟨cf, kf, fi, f, hi, hsl⟩ := hS k hk
  have hl : (sl_TX ci k).1 = sl_RX ci := sl_decl hci hk
  dsimp only at hi
  rw [hl] at hi
  refine W.getf hx hb hown (hts _ hlink) hi (u_facts hfc hkC (by have := u_lays hts (sl_uw hci) hk; rw [hl] at this; exact this) hi).1 q1 (by rw [q3]; exact fun h => by cases h) (v := sl_v ad (rd m ci i k)) ?_ rfl rfl hdg kk
  rw [hsl, q4 k hk]
theorem sl_s_getf {f : Option (Nat × Nat)} (hC : sl_Cx p s mid args c cc nL own D cA) (hM : sl_Mem ad base NA ln rd VR cn wr al MI sn) (hd : sl_okd cc ck pc (35, a, j, n, ts) = true) (hw : ∀ ci k, f = some (ci, k) → ci < 12 ∧ k < sl_NX ci ∧ Cond.fieldLink own j (sl_RX ci) (sl_TX ci k).2.1 (sl_TX ci k).2.2.1 ∈ sl_GW) (h : sl_getf X pc n lo st m rd f = some x) (ih : ∀ S1 m1, X S1 m1 = some x → sl_G p l e R s mid args below meth c ad base NA Hb D cA ln rd VR MI cn sn nL x Q m0 S1 m1) : sl_G p l e R s mid args below meth c ad base NA Hb D cA ln rd VR MI cn sn nL x Q m0 (pc, lo, st) m := by
  unfold sl_getf at h
  split at h
  · rename_i ci k
    obtain ⟨hci, hk, hlink⟩ := hw ci k rfl
    split at h
    · rename_i q r
      cases hq : (q.1 == ci) with
      | false => rw [hq] at h; cases h
      | true =>
        rw [hq] at h
        have hq := eq_of_beq hq
        obtain ⟨c9, i9⟩ := q
        dsimp only at hq
        subst hq
        obtain ⟨i, hi, ho⟩ := sl_d4 hd rfl rfl rfl rfl
        unfold sl_okc at ho
        split at ho <;> first | exact Bool.noConfusion (show false = true from ho) | skip
        simp only [Bool.and_eq_true, Nat.beq_eq] at ho
        obtain ⟨-, rfl, rfl⟩ := ho
        refine sl_G1 (ih _ _ h) (fun h1 h2 h3 => ⟨h1, fun q hq => ?_⟩) (fun H locs ls cells slots _ h2 h3 h4 kk => ?_)
        · rcases List.mem_cons.mp hq with hq | hq
          · exact hM.2.1 m c9 i9 k q (h2 _ List.mem_cons_self) h3 (fun h => absurd h (by omega)) hq.symm
          · exact h2 _ (List.mem_cons_of_mem _ hq)
        · exact sl_w_getf hC h2 (h4 _ List.mem_cons_self) hci hk hlink hi (kk ls h3)
    · cases h
  · cases h
theorem sl_HP_wr {H H1 : Heap} {ci i k : Nat} {v : sl_V} {m1 : M} (hM : sl_Mem ad base NA ln rd VR cn wr al MI sn) (hw : wr m ci i k v = some m1) (hv : VR m (ci, i)) (hq : ∀ q, v = .inr (.inl (some q)) → VR m q) (hI : MI m) (hc : ci < 12 ∨ 20 ≤ ci) (hP : sl_HP ad base NA Hb D cA ln rd VR cn m H) (hs : H1.size = H.size) (ho : ∀ q : Nat, q ≠ ad ci i → H1[q]? = H[q]?) (hn : sl_ob ad D cA ln ci i (rd m1 ci i) H1) : sl_HP ad base NA Hb D cA ln rd VR cn m1 H1 := by
  obtain ⟨w1, w2, w3, w4, w5, w6, w7⟩ := hM.1 m ci i k v m1 hw hv hq hI hc
  obtain ⟨p1, p2, p3, p4⟩ := hP
  refine ⟨by rw [w2, hs]; exact p1, by rw [w2, hs]; exact p2, fun q hq => ?_, fun c1 i1 h1 => ?_⟩
  · rw [ho q (by omega)]; exact p3 q hq
  · have h1 := (w4 _).mp h1
    by_cases he : (c1, i1) = (ci, i)
    · cases he; exact hn
    · rw [w6 c1 i1 h1 he]
      refine sl_ob_kept (p4 c1 i1 h1) (ho _ (fun hh => he (hM.2.2.1 m (c1, i1) (ci, i) h1 hv hh)))
theorem sl_w_putf {H : Heap} {locs : List Loc} {cells slots : Nat} {ls : Array Slot} {rest : List Value} {ci i k : Nat} {v : sl_V} {m1 : M} (hC : sl_Cx p s mid args c cc nL own D cA) (hM : sl_Mem ad base NA ln rd VR cn wr al MI sn) (hP : sl_HP ad base NA Hb D cA ln rd VR cn m H) (hv : VR m (ci, i)) (hq : ∀ q, v = .inr (.inl (some q)) → VR m q) (hI : MI m) (hci : ci < 12) (hk : k < sl_NX ci) (hlink : Cond.fieldLink own j (sl_RX ci) (sl_TX ci k).2.1 (sl_TX ci k).2.2.1 ∈ sl_GW)
    (hfin : (sl_TX ci k).2.2.2 = false ∨ (meth.name = "<init>" ∧ sl_RX ci = own)) (hn : narrow (sl_TY ci k) (sl_v ad v) = sl_v ad v) (hfit : fits (sl_TY ci k) (sl_v ad v) = true) (hw : wr m ci i k v = some m1) (hdg : decode cc pc = .ok (.putfield j, 3))
    (kk : ∀ (H1 : Heap) (z : Loc), z.base = ad ci i → H1.size = H.size → sl_HP ad base NA Hb D cA ln rd VR cn m1 H1 → W p l e R s mid args below meth c H1 (locs ++ [z]) cells slots Q (F0 mid (pc + 3) ls rest)) : W p l e R s mid args below meth c H locs cells slots Q (F0 mid pc ls (sl_v ad v :: .ref (ad ci i) :: rest)) := by
  obtain ⟨hx, hb, hml, hown, hts, hK⟩ := hC
  obtain ⟨cell, q1, q2, q3, q4⟩ := (hP.2.2.2 ci i hv).1 hci
  obtain ⟨hS, hfc, kC, hkC, hkind⟩ := hK.1 ci _ (sl_cls_at hci)
  obtain ⟨cf, kf, fi, f, hi, hsl⟩ := hS k hk
  have hl : (sl_TX ci k).1 = sl_RX ci := sl_decl hci hk
  have hap := va_apart (own := own) hts (sl_uw hci) (sl_TY ci) (sl_ty hci) (sl_nm hci) hK (sl_cls_at hci)
  have hd9 := sl_ty hci k hk
  have hst := (u_facts hfc hkC (u_lays hts (sl_uw hci) hk) hi).1
  have hlay := hts _ (sl_uw hci _ (u_in_lay hk))
  have w7 := (hM.1 m ci i k v m1 hw hv hq hI (Or.inl hci)).2.2.2.2.2.2
  have fin : ∀ H1 : Heap, H1[ad ci i]? = some (cell.setSlot f.slot (sl_v ad v)) → H1.size = H.size → (∀ q, q ≠ ad ci i → H1[q]? = H[q]?) → sl_HP ad base NA Hb D cA ln rd VR cn m1 H1 := by
    intro H1 e1 e2 e3
    refine sl_HP_wr hM hw hv hq hI (Or.inl hci) hP e2 e3 ⟨fun _ => ?_, fun h20 => absurd h20 (by omega)⟩
    rw [hsl] at e1
    refine t_OB.to (V := updV (fun k => sl_v ad (rd m ci i k)) k (sl_v ad v)) ⟨_, e1, q2, q3, t_set q4 hap hk _⟩ (fun k1 _ => ?_)
    rw [w7 k1 (fun h => absurd h (by omega))]
    by_cases hkk : k1 = k
    · subst hkk
      have : Nat.ble 20 ci = false := by
        cases hb9 : Nat.ble 20 ci with
        | false => rfl
        | true => exact absurd (Nat.le_of_ble_eq_true hb9) (by omega)
      simp [updV, sl_nf, this]
    · simp [updV, hkk]
  rcases hfin with hfin | ⟨hin2, hdecl⟩
  · unfold u_lay at hlay
    rw [if_neg (by rw [hfin]; decide)] at hlay
    have h6 := u_store hfc hkC hkind hlay hi hd9 hn hfit
    rw [hl] at hi
    refine W.putK hx hb (f := f) ⟨hown, hts _ hlink, ⟨_, _, _, hi⟩, hst⟩ (by rw [q2]; exact h6) q1 q3 (by rw [hsl]; exact k2_hasslot (q4 k hk)) rfl rfl hdg fun H1 e1 e2 e3 => ?_
    exact kk H1 _ rfl e2 (fin H1 e1 e2 e3)
  · cases hfl9 : (sl_TX ci k).2.2.2 with
    | false =>
      unfold u_lay at hlay
      rw [if_neg (by rw [hfl9]; decide)] at hlay
      have h6 := u_store hfc hkC hkind hlay hi hd9 hn hfit
      rw [hl] at hi
      refine W.putK hx hb (f := f) ⟨hown, hts _ hlink, ⟨_, _, _, hi⟩, hst⟩ (by rw [q2]; exact h6) q1 q3 (by rw [hsl]; exact k2_hasslot (q4 k hk)) rfl rfl hdg fun H1 e1 e2 e3 => ?_
      exact kk H1 _ rfl e2 (fin H1 e1 e2 e3)
    | true =>
      unfold u_lay at hlay
      rw [if_pos hfl9] at hlay
      have hcf : mid.cls = cf := by
        obtain ⟨_, _, c', _, _, _, -, -, hf', -, -, -, hown2, -⟩ := Cond.laysFinal_spec hlay
        have e1 : c' = cf := by have := hi.symm.trans hf'; simp at this; exact this.1.symm
        rw [hl, hdecl] at hown2
        rw [← e1]; exact Option.some.inj (hown.symm.trans hown2)
      have h6 := u_fits hfc hkC hkind (Or.inr hlay) hi hd9 hn hfit
      rw [hl] at hi
      refine W.putFinK hx hb hown (hts _ hlink) hi hst hcf hin2 (by rw [q2]; exact h6) q1 q3 (by rw [hsl]; exact k2_hasslot (q4 k hk)) rfl rfl hdg fun H1 e1 e2 e3 => ?_
      exact kk H1 _ rfl e2 (fin H1 e1 e2 e3)
theorem sl_pok_in (ad : Nat → Nat → Nat) (ty : FieldType) {t : Nat} {v : sl_V} {z : Option (sl_PL × M)} (h : sl_pok t v z = some x) (ht : sl_tyk ty = t) : narrow ty (sl_v ad v) = sl_v ad v ∧ fits ty (sl_v ad v) = true ∧ z = some x := by
  unfold sl_pok at h
  split at h
  · split at h
    · cases ty <;> first | (cases ht; done) | exact ⟨rfl, rfl, h⟩
    · cases h
  · split at h
    · split at h
      · rename_i y hy
        cases ty <;> first | (cases ht; done) | (rcases hy with rfl | rfl <;> exact ⟨rfl, rfl, h⟩)
      · cases h
    · cases h
  · split at h
    · rename_i w
      cases ty <;> first | (cases ht; done) | (cases w <;> exact ⟨rfl, rfl, h⟩)
    · cases h
  · cases h
theorem sl_c0 (c1 v1 z1 : Nat) (h : c1 = v1) : c1 - z1 = v1 - z1 := by rw [h]
theorem sl_s_putf {f : Option (Nat × Nat × Nat)} (hC : sl_Cx p s mid args c cc nL own D cA) (hM : sl_Mem ad base NA ln rd VR cn wr al MI sn) (hd : sl_okd cc ck pc (36, a, j, n, ts) = true)
    (hw : ∀ ci k t, f = some (ci, k, t) → ci < 12 ∧ k < sl_NX ci ∧ Cond.fieldLink own j (sl_RX ci) (sl_TX ci k).2.1 (sl_TX ci k).2.2.1 ∈ sl_GW ∧ ((sl_TX ci k).2.2.2 = false ∨ (meth.name = "<init>" ∧ sl_RX ci = own)) ∧ sl_tyk (sl_TY ci k) = t) (h : sl_putf X pc n lo st m wr f = some x) (ih : ∀ S1 m1, X S1 m1 = some x → sl_G p l e R s mid args below meth c ad base NA Hb D cA ln rd VR MI cn sn nL x Q m0 S1 m1) : sl_G p l e R s mid args below meth c ad base NA Hb D cA ln rd VR MI cn sn nL x Q m0 (pc, lo, st) m := by
  unfold sl_putf at h
  split at h
  · rename_i ci k t
    obtain ⟨hci, hk, hlink, hfin, htk⟩ := hw ci k t rfl
    split at h
    · rename_i v q r
      cases hq : (q.1 == ci) with
      | false => rw [hq] at h; cases h
      | true =>
        rw [hq] at h
        have hq := eq_of_beq hq
        obtain ⟨c9, i9⟩ := q
        dsimp only at hq
        subst hq
        obtain ⟨i, hi, ho⟩ := sl_d4 hd rfl rfl rfl rfl
        unfold sl_okc at ho
        split at ho <;> first | exact Bool.noConfusion (show false = true from ho) | skip
        simp only [Bool.and_eq_true, Nat.beq_eq] at ho
        obtain ⟨-, rfl, rfl⟩ := ho
        have key := sl_pok_in ad (sl_TY c9 k) h htk
        obtain ⟨hn, hfit, h⟩ := key
        unfold sl_wrt at h
        split at h
        · rename_i m1 hw1
          intro H locs ls a1 a2 a3 a4 a5 a6 a7 a8 a9 a10
          have hv9 : VR m (c9, i9) := a9 _ (List.mem_cons_of_mem _ List.mem_cons_self)
          have hq9 : ∀ q, v = .inr (.inl (some q)) → VR m q := fun q e => a9 q (by rw [← e]; exact List.mem_cons_self)
          obtain ⟨w1, w2, w3, w4, w5, w6, w7⟩ := hM.1 m c9 i9 k v m1 hw1 hv9 hq9 a4 (Or.inl hci)
          refine sl_w_putf hC hM a6 hv9 hq9 a4 hci hk hlink hfin hn hfit hw1 hi (fun H1 z hz e2 hP1 => ?_)
          have g := ih _ _ h H1 (locs ++ [z]) ls (fun q hq => (w4 q).mpr (a1 q hq)) (by omega) (by omega) w1 (by rw [e2]; exact a5) hP1 a7 (fun q hq => (w4 q).mpr (a8 q hq)) (fun q hq => (w4 q).mpr (a9 q (List.mem_cons_of_mem _ (List.mem_cons_of_mem _ hq)))) (fun z9 hz9 => by
            rcases List.mem_append.mp hz9 with hz9 | hz9
            · exact a10 z9 hz9
            · rw [List.mem_singleton.mp hz9, hz]; exact w5)
          rw [w2, w3] at g
          exact g
        · cases h
    · cases h
  · cases h
end SLG
