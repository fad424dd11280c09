section SLI
variable {M : Type}
variable {p : Program} {l : Launch} {e : Env} {R : Room} {s : State} {mid : MethodId} {args : Array Value} {below : List Frame} {meth : Method} {c : Code} {ad : Nat → Nat → Nat} {base NA : Nat} {Hb : Heap} {D : va_G} {cA : Nat → ClassId} {ln : Nat → Nat → Nat} {rd : M → Nat → Nat → Nat → sl_V} {VR : M → Nat × Nat → Prop} {MI : M → Prop} {cn sn : M → Nat} {nL : Nat} {x : sl_PL × M} {Q : State → Prop} {m0 : M} {m : M}
variable {wr : M → Nat → Nat → Nat → sl_V → Option M} {al : M → Nat → Int32 → Option ((Nat × Nat) × M)} {cc : ByteArray} {ck : Nat → Nat} {own : String} {X : sl_S → M → Option (sl_PL × M)} {pc n j : Nat} {a : Int32} {ts : List Nat} {lo : List (Option sl_V)} {st : List sl_V}
theorem sl_akc {c1 : Nat} (h : sl_ak c1 ≤ 4) : 20 ≤ c1 := by
  rcases Nat.lt_or_ge c1 20 with q | q
  · have h9 : ∀ k, k < 20 → sl_ak k = 9 := by decide
    rw [h9 c1 q] at h
    omega
  · exact q
theorem sl_xld_in {ok : Nat → Bool} (h : sl_xld X pc n lo st m rd ln ok = some x) : ∃ (i : Int32) (c9 i9 : Nat) (r : List sl_V), st = .inl i :: .inr (.inl (some (c9, i9))) :: r ∧ ok c9 = true ∧ c9 ≠ 41 ∧ 0 ≤ i ∧ i.toNatClampNeg < ln c9 i9 ∧ X (pc + n, lo, rd m c9 i9 i.toNatClampNeg :: r) m = some x := by
  unfold sl_xld at h
  split at h
  · rename_i i q r
    obtain ⟨c9, i9⟩ := q
    cases hq : (ok (c9, i9).1 && !((c9, i9).1 == 41)) with
    | false => rw [hq] at h; cases h
    | true =>
      rw [hq, cond_true] at h
      simp only [Bool.and_eq_true, Bool.not_eq_true', beq_eq_false_iff_ne] at hq
      split at h
      · rename_i hb
        exact ⟨i, c9, i9, r, rfl, hq.1, hq.2, hb.1, hb.2, h⟩
      · cases h
  · cases h
theorem sl_nlt {i : Int32} (h : 0 ≤ i) : ¬ i < 0 := fun q => absurd (Int32.lt_iff_toInt_lt.mp q) (by have := Int32.le_iff_toInt_le.mp h; omega)
theorem sl_inb {cI : ClassId} {N : Nat} {f : Nat → Value} {i : Int32} (h0 : 0 ≤ i) (h1 : i.toNatClampNeg < N) : ¬ (i < 0 ∨ (arrV cI N f).slots.size ≤ i.toNatClampNeg) := by
  rw [arrV_size]
  rintro (q | q)
  · exact sl_nlt h0 q
  · omega
theorem sl_ldv {rest : List sl_V} {c9 i9 : Nat} {k : Nat} {lo1 : List (Option sl_V)} (hM : sl_Mem ad base NA ln rd VR cn wr al MI sn) (hv : VR m (c9, i9)) (hI : MI m) (hk : k < ln c9 i9) (h1 : ∀ q, some (.inr (.inl (some q))) ∈ lo1 → VR m q) (h2 : ∀ q, .inr (.inl (some q)) ∈ rest → VR m q) : (∀ q, some (.inr (.inl (some q))) ∈ lo1 → VR m q) ∧ ∀ q, .inr (.inl (some q)) ∈ rd m c9 i9 k :: rest → VR m q :=
  ⟨h1, fun q hq => by
    rcases List.mem_cons.mp hq with hq | hq
    · exact hM.2.1 m c9 i9 k q hv hI (fun _ => hk) hq.symm
    · exact h2 q hq⟩
theorem sl_s_iald (hC : sl_Cx p s mid args c cc nL own D cA) (hM : sl_Mem ad base NA ln rd VR cn wr al MI sn) (hd : sl_okd cc ck pc (37, a, j, n, ts) = true) (h : sl_xld X pc n lo st m rd ln (fun c => sl_ak c == 1) = some x) (ih : ∀ S1 m1, X S1 m1 = some x → sl_G p l e R s mid args below meth c ad base NA Hb D cA ln rd VR MI cn sn nL x Q m0 S1 m1) : sl_G p l e R s mid args below meth c ad base NA Hb D cA ln rd VR MI cn sn nL x Q m0 (pc, lo, st) m := by
  obtain ⟨i, c9, i9, r, rfl, hok, h41, h0, hlt, h⟩ := sl_xld_in h
  obtain ⟨hx, hb, hml, hown, hts, hK⟩ := hC
  obtain ⟨hi, rfl⟩ := sl_d1 hd rfl
  have hak : sl_ak c9 = 1 := eq_of_beq hok
  refine sl_G1 (ih _ _ h) (fun h1 h2 h3 => sl_ldv hM (h2 _ (List.mem_cons_of_mem _ List.mem_cons_self)) h3 hlt h1 (fun q hq => h2 q (sl_q2 q (sl_q2 q hq)))) (fun H locs ls cells slots _ h2 h3 h4 k => ?_)
  have hc := (h2.2.2.2 c9 i9 (h4 _ (List.mem_cons_of_mem _ List.mem_cons_self))).2 (sl_akc (by omega)) h41
  rw [hak] at hc
  exact W.iald (v := sl_v ad (rd m c9 i9 i.toNatClampNeg)) hx hb hc ((hK.2 1 _ rfl).1 _ _) (fun q => by cases q) (sl_inb h0 hlt) (arrV_read _ _ hlt) rfl rfl hi (W.eq rfl (k ls h3))
theorem sl_s_bald (hC : sl_Cx p s mid args c cc nL own D cA) (hM : sl_Mem ad base NA ln rd VR cn wr al MI sn) (hd : sl_okd cc ck pc (38, a, j, n, ts) = true) (h : sl_xld X pc n lo st m rd ln sl_okb = some x) (ih : ∀ S1 m1, X S1 m1 = some x → sl_G p l e R s mid args below meth c ad base NA Hb D cA ln rd VR MI cn sn nL x Q m0 S1 m1) : sl_G p l e R s mid args below meth c ad base NA Hb D cA ln rd VR MI cn sn nL x Q m0 (pc, lo, st) m := by
  obtain ⟨i, c9, i9, r, rfl, hok, h41, h0, hlt, h⟩ := sl_xld_in h
  obtain ⟨hx, hb, hml, hown, hts, hK⟩ := hC
  obtain ⟨hi, rfl⟩ := sl_d1 hd rfl
  have hak : sl_ak c9 = 0 ∨ sl_ak c9 = 2 := by
    unfold sl_okb at hok
    split at hok
    · exact Or.inl (by assumption)
    · exact Or.inr (by assumption)
    · cases hok
  refine sl_G1 (ih _ _ h) (fun h1 h2 h3 => sl_ldv hM (h2 _ (List.mem_cons_of_mem _ List.mem_cons_self)) h3 hlt h1 (fun q hq => h2 q (sl_q2 q (sl_q2 q hq)))) (fun H locs ls cells slots _ h2 h3 h4 k => ?_)
  have hc := (h2.2.2.2 c9 i9 (h4 _ (List.mem_cons_of_mem _ List.mem_cons_self))).2 (sl_akc (by omega)) h41
  rcases hak with hak | hak
  · rw [hak] at hc
    exact W.bald (v := sl_v ad (rd m c9 i9 i.toNatClampNeg)) hx hb hc ((hK.2 0 _ rfl).1 _ _) (fun q => by cases q) (sl_inb h0 hlt) (arrV_read _ _ hlt) rfl rfl hi (W.eq rfl (k ls h3))
  · rw [hak] at hc
    exact W.zald (v := sl_v ad (rd m c9 i9 i.toNatClampNeg)) hx hb hc ((hK.2 2 _ rfl).1 _ _) (fun q => by cases q) (sl_inb h0 hlt) (arrV_read _ _ hlt) rfl rfl hi (W.eq rfl (k ls h3))
theorem sl_s_aald (hC : sl_Cx p s mid args c cc nL own D cA) (hM : sl_Mem ad base NA ln rd VR cn wr al MI sn) (hd : sl_okd cc ck pc (39, a, j, n, ts) = true) (h : sl_xld X pc n lo st m rd ln (fun c => sl_ak c == 4) = some x) (ih : ∀ S1 m1, X S1 m1 = some x → sl_G p l e R s mid args below meth c ad base NA Hb D cA ln rd VR MI cn sn nL x Q m0 S1 m1) : sl_G p l e R s mid args below meth c ad base NA Hb D cA ln rd VR MI cn sn nL x Q m0 (pc, lo, st) m := by
  obtain ⟨i, c9, i9, r, rfl, hok, h41, h0, hlt, h⟩ := sl_xld_in h
  obtain ⟨hx, hb, hml, hown, hts, hK⟩ := hC
  obtain ⟨hi, rfl⟩ := sl_d1 hd rfl
  have hak : sl_ak c9 = 4 := eq_of_beq hok
  refine sl_G1 (ih _ _ h) (fun h1 h2 h3 => sl_ldv hM (h2 _ (List.mem_cons_of_mem _ List.mem_cons_self)) h3 hlt h1 (fun q hq => h2 q (sl_q2 q (sl_q2 q hq)))) (fun H locs ls cells slots _ h2 h3 h4 k => ?_)
  have hc := (h2.2.2.2 c9 i9 (h4 _ (List.mem_cons_of_mem _ List.mem_cons_self))).2 (sl_akc (by omega)) h41
  rw [hak] at hc
  exact W.aald (v := sl_v ad (rd m c9 i9 i.toNatClampNeg)) hx hb hc ((hK.2 4 _ rfl).1 _ _) rfl (fun q => by cases q) (sl_inb h0 hlt) (arrV_read _ _ hlt) rfl rfl hi (W.eq rfl (k ls h3))
theorem sl_s_lald (hC : sl_Cx p s mid args c cc nL own D cA) (hM : sl_Mem ad base NA ln rd VR cn wr al MI sn) (hd : sl_okd cc ck pc (40, a, j, n, ts) = true) (h : sl_xld X pc n lo st m rd ln (fun c => sl_ak c == 3) = some x) (ih : ∀ S1 m1, X S1 m1 = some x → sl_G p l e R s mid args below meth c ad base NA Hb D cA ln rd VR MI cn sn nL x Q m0 S1 m1) : sl_G p l e R s mid args below meth c ad base NA Hb D cA ln rd VR MI cn sn nL x Q m0 (pc, lo, st) m := by
  obtain ⟨i, c9, i9, r, rfl, hok, h41, h0, hlt, h⟩ := sl_xld_in h
  obtain ⟨hx, hb, hml, hown, hts, hK⟩ := hC
  obtain ⟨hi, rfl⟩ := sl_d1 hd rfl
  have hak : sl_ak c9 = 3 := eq_of_beq hok
  refine sl_G1 (ih _ _ h) (fun h1 h2 h3 => sl_ldv hM (h2 _ (List.mem_cons_of_mem _ List.mem_cons_self)) h3 hlt h1 (fun q hq => h2 q (sl_q2 q (sl_q2 q hq)))) (fun H locs ls cells slots _ h2 h3 h4 k => ?_)
  have hc := (h2.2.2.2 c9 i9 (h4 _ (List.mem_cons_of_mem _ List.mem_cons_self))).2 (sl_akc (by omega)) h41
  rw [hak] at hc
  exact W.lald (v := sl_v ad (rd m c9 i9 i.toNatClampNeg)) hx hb hc ((hK.2 3 _ rfl).1 _ _) (fun q => by cases q) (sl_inb h0 hlt) (arrV_read _ _ hlt) rfl rfl hi (W.eq rfl (k ls h3))
theorem sl_tyt (cA : Nat → ClassId) {t : Nat} (ht : t ≤ 4) : ∃ ty, (sl_tys cA)[t]? = some (cA t, ty) := by
  match t, ht with
  | 0, _ => exact ⟨_, rfl⟩
  | 1, _ => exact ⟨_, rfl⟩
  | 2, _ => exact ⟨_, rfl⟩
  | 3, _ => exact ⟨_, rfl⟩
  | 4, _ => exact ⟨_, rfl⟩
  | n + 5, h => exact absurd h (by omega)
theorem sl_s_alen (hC : sl_Cx p s mid args c cc nL own D cA) (hM : sl_Mem ad base NA ln rd VR cn wr al MI sn) (hd : sl_okd cc ck pc (45, a, j, n, ts) = true) (h : sl_alen X pc n lo st m ln = some x) (ih : ∀ S1 m1, X S1 m1 = some x → sl_G p l e R s mid args below meth c ad base NA Hb D cA ln rd VR MI cn sn nL x Q m0 S1 m1) : sl_G p l e R s mid args below meth c ad base NA Hb D cA ln rd VR MI cn sn nL x Q m0 (pc, lo, st) m := by
  obtain ⟨hx, hb, hml, hown, hts, hK⟩ := hC
  obtain ⟨hi, rfl⟩ := sl_d1 hd rfl
  unfold sl_alen at h
  split at h
  · rename_i q r
    obtain ⟨c9, i9⟩ := q
    cases hq : (Nat.ble (sl_ak (c9, i9).1) 4 && !((c9, i9).1 == 41)) with
    | false => rw [hq] at h; cases h
    | true =>
      rw [hq, cond_true] at h
      simp only [Bool.and_eq_true, Bool.not_eq_true', beq_eq_false_iff_ne] at hq
      have hak : sl_ak c9 ≤ 4 := Nat.le_of_ble_eq_true hq.1
      refine sl_G2 (lo1 := lo) (ih _ _ h) (fun q hq => sl_q2 q (sl_q1 q hq)) (fun H locs ls cells slots h2 h3 h4 k => ?_)
      have hc := (h2.2.2.2 c9 i9 (h4 _ List.mem_cons_self)).2 (sl_akc hak) hq.2
      obtain ⟨ty, hty⟩ := sl_tyt cA hak
      exact W.alen hx hb hc ((hK.2 _ _ hty).1 _ _) (by rw [arrV_size]) rfl rfl hi (W.eq rfl k)
  · cases h
/-! stores -/
theorem sl_xst_in {ok : Nat → sl_V → Bool} (h : sl_xst X pc n lo st m wr ln ok = some x) : ∃ (v : sl_V) (i : Int32) (c9 i9 : Nat) (r : List sl_V) (m1 : M), st = v :: .inl i :: .inr (.inl (some (c9, i9))) :: r ∧ ok c9 v = true ∧ c9 ≠ 41 ∧ 0 ≤ i ∧ i.toNatClampNeg < ln c9 i9 ∧ wr m c9 i9 i.toNatClampNeg v = some m1 ∧ X (pc + n, lo, r) m1 = some x := by
  unfold sl_xst at h
  split at h
  · rename_i v i q r
    obtain ⟨c9, i9⟩ := q
    cases hq : (ok (c9, i9).1 v && !((c9, i9).1 == 41)) with
    | false => rw [hq] at h; cases h
    | true =>
      rw [hq, cond_true] at h
      simp only [Bool.and_eq_true, Bool.not_eq_true', beq_eq_false_iff_ne] at hq
      split at h
      · rename_i hb
        unfold sl_wrt at h
        split at h
        · rename_i m1 hw
          exact ⟨v, i, c9, i9, r, m1, rfl, hq.1, hq.2, hb.1, hb.2, hw, h⟩
        · cases h
      · cases h
  · cases h
theorem sl_arr_eq {cI : ClassId} {N : Nat} {f g : Nat → Value} (h : ∀ k, k < N → f k = g k) : arrV cI N f = arrV cI N g := by
  unfold arrV
  congr 1
  apply Array.ext
  · simp
  · intro k h1 h2
    simp only [Array.getElem_ofFn]
    exact h k (by simpa using h1)
theorem sl_G3 {c9 i9 k : Nat} {v : sl_V} {i : Int32} {r : List sl_V} {m1 : M} (hM : sl_Mem ad base NA ln rd VR cn wr al MI sn) (hw : wr m c9 i9 k v = some m1) (hc : 20 ≤ c9) (h41 : c9 ≠ 41) (hlt : k < ln c9 i9) (g : sl_G p l e R s mid args below meth c ad base NA Hb D cA ln rd VR MI cn sn nL x Q m0 (pc + 1, lo, r) m1)
    (hW : ∀ (H : Heap) (locs : List Loc) (ls : Array Slot) (cells slots : Nat), sl_HP ad base NA Hb D cA ln rd VR cn m H → VR m (c9, i9) → (∀ q, v = .inr (.inl (some q)) → VR m q) → H[ad c9 i9]? = some (arrV (cA (sl_ak c9)) (ln c9 i9) (fun k => sl_v ad (rd m c9 i9 k))) → (∀ H1 : Heap, H1[ad c9 i9]? = some ((arrV (cA (sl_ak c9)) (ln c9 i9) (fun k => sl_v ad (rd m c9 i9 k))).setSlot k (sl_v ad (sl_nar c9 v))) → H1.size = H.size → (∀ q : Nat, q ≠ ad c9 i9 → H1[q]? = H[q]?) → W p l e R s mid args below meth c H1 (locs ++ [⟨ad c9 i9, k⟩]) cells slots Q (F0 mid (pc + 1) ls (r.map (sl_v ad)))) →
      W p l e R s mid args below meth c H locs cells slots Q (F0 mid pc ls ((v :: .inl i :: .inr (.inl (some (c9, i9))) :: r).map (sl_v ad)))) : sl_G p l e R s mid args below meth c ad base NA Hb D cA ln rd VR MI cn sn nL x Q m0 (pc, lo, v :: .inl i :: .inr (.inl (some (c9, i9))) :: r) m := by
  intro H locs ls a1 a2 a3 a4 a5 a6 a7 a8 a9 a10
  have hv9 : VR m (c9, i9) := a9 _ (List.mem_cons_of_mem _ (List.mem_cons_of_mem _ List.mem_cons_self))
  have hq9 : ∀ q, v = .inr (.inl (some q)) → VR m q := fun q e => a9 q (by rw [← e]; exact List.mem_cons_self)
  obtain ⟨w1, w2, w3, w4, w5, w6, w7⟩ := hM.1 m c9 i9 k v m1 hw hv9 hq9 a4 (Or.inr hc)
  refine hW H locs ls _ _ a6 hv9 hq9 ((a6.2.2.2 c9 i9 hv9).2 hc h41) (fun H1 e1 e2 e3 => ?_)
  have hP1 : sl_HP ad base NA Hb D cA ln rd VR cn m1 H1 := sl_HP_wr hM hw hv9 hq9 a4 (Or.inr hc) a6 e2 e3 ⟨fun q => absurd q (by omega), fun _ _ => by
    rw [e1, arrV_store]
    congr 1
    refine sl_arr_eq (fun k1 hk1 => ?_)
    rw [w7 k1 (fun _ => ⟨hk1, hlt⟩)]
    have : Nat.ble 20 c9 = true := Nat.ble_eq.mpr hc
    by_cases hk : k1 = k
    · simp [updV, sl_nf, hk, this]
    · simp [updV, hk]⟩
  have g := g H1 (locs ++ [⟨ad c9 i9, k⟩]) ls (fun q hq => (w4 q).mpr (a1 q hq)) (by omega) (by omega) w1 (by rw [e2]; exact a5) hP1 a7 (fun q hq => (w4 q).mpr (a8 q hq)) (fun q hq => (w4 q).mpr (a9 q (List.mem_cons_of_mem _ (List.mem_cons_of_mem _ (List.mem_cons_of_mem _ hq))))) (fun z9 hz9 => by
    rcases List.mem_append.mp hz9 with hz9 | hz9
    · exact a10 z9 hz9
    · rw [List.mem_singleton.mp hz9]; exact w5)
  rw [w2, w3] at g
  exact g
theorem sl_s_iast (hC : sl_Cx p s mid args c cc nL own D cA) (hM : sl_Mem ad base NA ln rd VR cn wr al MI sn) (hd : sl_okd cc ck pc (41, a, j, n, ts) = true) (h : sl_xst X pc n lo st m wr ln sl_osi = some x) (ih : ∀ S1 m1, X S1 m1 = some x → sl_G p l e R s mid args below meth c ad base NA Hb D cA ln rd VR MI cn sn nL x Q m0 S1 m1) : sl_G p l e R s mid args below meth c ad base NA Hb D cA ln rd VR MI cn sn nL x Q m0 (pc, lo, st) m := by
  obtain ⟨v, i, c9, i9, r, m1, rfl, hok, h41, h0, hlt, hw, hz⟩ := sl_xst_in h
  obtain ⟨hx, hb, hml, hown, hts, hK⟩ := hC
  obtain ⟨hi, rfl⟩ := sl_d1 hd rfl
  unfold sl_osi at hok
  split at hok
  · rename_i y
    have hak : sl_ak c9 = 1 := eq_of_beq hok
    refine sl_G3 hM hw (sl_akc (by omega)) h41 hlt (ih _ _ hz) (fun H locs ls cells slots h2 hv hq hc kk => ?_)
    rw [hak] at hc kk
    refine W.iast hx hb hc ((hK.2 1 _ rfl).1 _ _) (fun q => by cases q) (sl_inb h0 hlt) rfl rfl hi (fun H1 e1 e2 e3 => W.eq rfl (kk H1 ?_ e2 e3))
    rw [e1]
    unfold sl_nar
    simp only [hak]
    rfl
  · cases hok
theorem sl_s_bast (hC : sl_Cx p s mid args c cc nL own D cA) (hM : sl_Mem ad base NA ln rd VR cn wr al MI sn) (hd : sl_okd cc ck pc (42, a, j, n, ts) = true) (h : sl_xst X pc n lo st m wr ln sl_osb = some x) (ih : ∀ S1 m1, X S1 m1 = some x → sl_G p l e R s mid args below meth c ad base NA Hb D cA ln rd VR MI cn sn nL x Q m0 S1 m1) : sl_G p l e R s mid args below meth c ad base NA Hb D cA ln rd VR MI cn sn nL x Q m0 (pc, lo, st) m := by
  obtain ⟨v, i, c9, i9, r, m1, rfl, hok, h41, h0, hlt, hw, hz⟩ := sl_xst_in h
  obtain ⟨hx, hb, hml, hown, hts, hK⟩ := hC
  obtain ⟨hi, rfl⟩ := sl_d1 hd rfl
  unfold sl_osb at hok
  split at hok
  · rename_i y
    have hak : sl_ak c9 = 0 ∨ sl_ak c9 = 2 := by
      unfold sl_okb at hok
      split at hok
      · exact Or.inl (by assumption)
      · exact Or.inr (by assumption)
      · cases hok
    refine sl_G3 hM hw (sl_akc (by omega)) h41 hlt (ih _ _ hz) (fun H locs ls cells slots h2 hv hq hc kk => ?_)
    rcases hak with hak | hak
    · rw [hak] at hc kk
      refine W.bast hx hb hc ((hK.2 0 _ rfl).1 _ _) (fun q => by cases q) (sl_inb h0 hlt) rfl rfl hi (fun H1 e1 e2 e3 => W.eq rfl (kk H1 ?_ e2 e3))
      rw [e1]
      unfold sl_nar
      simp only [hak]
      rfl
    · rw [hak] at hc kk
      refine W.zast hx hb hc ((hK.2 2 _ rfl).1 _ _) (fun q => by cases q) (sl_inb h0 hlt) rfl rfl hi (fun H1 e1 e2 e3 => W.eq rfl (kk H1 ?_ e2 e3))
      rw [e1]
      unfold sl_nar
      simp only [hak]
      rfl
  · cases hok
theorem sl_s_last (hC : sl_Cx p s mid args c cc nL own D cA) (hM : sl_Mem ad base NA ln rd VR cn wr al MI sn) (hd : sl_okd cc ck pc (44, a, j, n, ts) = true) (h : sl_xst X pc n lo st m wr ln sl_osl = some x) (ih : ∀ S1 m1, X S1 m1 = some x → sl_G p l e R s mid args below meth c ad base NA Hb D cA ln rd VR MI cn sn nL x Q m0 S1 m1) : sl_G p l e R s mid args below meth c ad base NA Hb D cA ln rd VR MI cn sn nL x Q m0 (pc, lo, st) m := by
  obtain ⟨v, i, c9, i9, r, m1, rfl, hok, h41, h0, hlt, hw, hz⟩ := sl_xst_in h
  obtain ⟨hx, hb, hml, hown, hts, hK⟩ := hC
  obtain ⟨hi, rfl⟩ := sl_d1 hd rfl
  unfold sl_osl at hok
  split at hok
  · rename_i y
    have hak : sl_ak c9 = 3 := eq_of_beq hok
    refine sl_G3 hM hw (sl_akc (by omega)) h41 hlt (ih _ _ hz) (fun H locs ls cells slots h2 hv hq hc kk => ?_)
    rw [hak] at hc kk
    exact W.last hx hb hc ((hK.2 3 _ rfl).1 _ _) (fun q => by cases q) (sl_inb h0 hlt) rfl rfl hi (fun H1 e1 e2 e3 => W.eq rfl (kk H1 e1 e2 e3))
  · cases hok
theorem sl_s_aast (hC : sl_Cx p s mid args c cc nL own D cA) (hM : sl_Mem ad base NA ln rd VR cn wr al MI sn) (hd : sl_okd cc ck pc (43, a, j, n, ts) = true) (h : sl_xst X pc n lo st m wr ln sl_osa = some x) (ih : ∀ S1 m1, X S1 m1 = some x → sl_G p l e R s mid args below meth c ad base NA Hb D cA ln rd VR MI cn sn nL x Q m0 S1 m1) : sl_G p l e R s mid args below meth c ad base NA Hb D cA ln rd VR MI cn sn nL x Q m0 (pc, lo, st) m := by
  obtain ⟨v, i, c9, i9, r, m1, rfl, hok, h41, h0, hlt, hw, hz⟩ := sl_xst_in h
  obtain ⟨hx, hb, hml, hown, hts, hK⟩ := hC
  obtain ⟨hi, rfl⟩ := sl_d1 hd rfl
  unfold sl_osa at hok
  split at hok
  · rename_i y
    obtain ⟨c8, i8⟩ := y
    simp only [Bool.and_eq_true, beq_iff_eq] at hok
    obtain ⟨hak, rfl⟩ := hok
    refine sl_G3 hM hw (sl_akc (by omega)) h41 hlt (ih _ _ hz) (fun H locs ls cells slots h2 hv hq hc kk => ?_)
    rw [hak] at hc kk
    obtain ⟨cellV, g1, g2, g3, -⟩ := (h2.2.2.2 2 i8 (hq _ rfl)).1 (by omega)
    have hcls := (hK.1 2 _ (sl_cls_at (c := 2) (by omega))).2
    obtain ⟨kA, comp, k1, k2, k3, -⟩ := (hK.2 4 _ rfl).2
    have hcomp : comp = D.1 2 := Option.some.inj (k3.symm.trans hcls.1)
    subst hcomp
    obtain ⟨kC, hkC, hkk⟩ := hcls.2
    exact W.aast hx hb hc (fun q h => by cases h) (fun h => by cases h) k1 k2 rfl hkC ⟨sl_nlt h0, by rw [arrV_size]; exact hlt⟩ g1 (fun q h => by rw [g3] at h; cases h) (by rw [g2]; exact hkC) (by rw [g2]; exact va_assign hcls) rfl rfl hi (fun H1 e1 e2 e3 => W.eq rfl (kk H1 e1 e2 e3))
  · cases hok

/-! making -/
theorem sl_s_newc {f : Option Nat} (hC : sl_Cx p s mid args c cc nL own D cA) (hM : sl_Mem ad base NA ln rd VR cn wr al MI sn) (hd : sl_okd cc ck pc (54, a, j, n, ts) = true) (hw : ∀ ci, f = some ci → ci < 12 ∧ Cond.classLink own j (sl_RX ci) ∈ sl_GW ∧ Cond.instantiable (sl_RX ci) (sl_NX ci) ∈ sl_GW ∧ Cond.initialized (sl_RX ci) ∈ sl_GW)
    (hmo : ∀ S1 m1, X S1 m1 = some x → cn m1 ≤ cn x.2 ∧ sn m1 ≤ sn x.2) (hR : cn x.2 - cn m0 ≤ R.cells ∧ sn x.2 - sn m0 ≤ R.slots) (h : sl_newc X pc n lo st m al f = some x) (ih : ∀ S1 m1, X S1 m1 = some x → sl_G p l e R s mid args below meth c ad base NA Hb D cA ln rd VR MI cn sn nL x Q m0 S1 m1) : sl_G p l e R s mid args below meth c ad base NA Hb D cA ln rd VR MI cn sn nL x Q m0 (pc, lo, st) m := by
  unfold sl_newc at h
  split at h
  · rename_i ci
    obtain ⟨hci, hcl, hin, hini⟩ := hw ci rfl
    unfold sl_alo at h
    split at h
    · rename_i q m1 hal
      have hmo := hmo _ _ h
      intro H locs ls a1 a2 a3 a4 a5 a6 a7 a8 a9 a10
      obtain ⟨w1, w2, w3, w4, w5, w6, w7⟩ := hM.2.2.2 m ci 0 q m1 hal a4
      rcases w7 with ⟨-, hq1, hsn, hdf⟩ | ⟨h100, -⟩
      · obtain ⟨hx, hb, hml, hown, hts, hK⟩ := id hC
        obtain ⟨i, hi, ho⟩ := sl_d4 hd rfl rfl rfl rfl
        unfold sl_okc at ho
        split at ho <;> first | exact Bool.noConfusion (show false = true from ho) | skip
        simp only [Bool.and_eq_true, Nat.beq_eq] at ho
        obtain ⟨-, rfl, rfl⟩ := ho
        have hKn := hK.1 ci _ (sl_cls_at hci)
        have hHs : H.size = base + cn m := a6.2.1 w3
        refine W.newcK hx hb hown (hts _ hcl) (hts _ hin) (hts _ hini) rfl hi (by omega) (by omega) hKn.2.1 rfl fun H1 kC hkC e1 z1 o1 => ?_
        have g := ih _ _ h H1 locs ls (fun r hr => (w5 r).mpr (Or.inl (a1 r hr))) (by omega) (by omega) w1 (by rw [z1]; omega) ⟨by rw [z1, w2]; omega, fun _ => by rw [z1, w2]; omega, fun r hr => by rw [o1 r (by omega)]; exact a6.2.2.1 r hr, fun c1 i1 hv => ?_⟩ a7 (fun r hr => (w5 r).mpr (Or.inl (a8 r hr))) (fun r hr => by
          rcases List.mem_cons.mp hr with hr | hr
          · cases hr; exact (w5 _).mpr (Or.inr rfl)
          · exact (w5 r).mpr (Or.inl (a9 r hr))) a10
        · rw [w2, hsn] at g
          rw [show cn m - cn m0 + 1 = cn m + 1 - cn m0 by omega, show sn m - sn m0 + sl_NX ci = sn m + sl_NX ci - sn m0 by omega]
          refine W.eq ?_ g
          show F0 mid (pc + 3) ls (Value.ref H.size :: st.map (sl_v ad)) = F0 mid (pc + 3) ls (Value.ref (ad q.1 q.2) :: st.map (sl_v ad))
          rw [w4, hHs]
        · rcases (w5 _).mp hv with hv | hv
          · rw [w6 c1 i1 hv]
            have hold := a6.2.2.2 c1 i1 hv
            refine ⟨fun hc => ?_, fun hc h41 => ?_⟩
            · obtain ⟨cell, q1, q2⟩ := hold.1 hc
              exact ⟨cell, by rw [o1 _ (Array.getElem?_eq_some_iff.mp q1).1]; exact q1, q2⟩
            · have q1 := hold.2 hc h41
              rw [o1 _ (Array.getElem?_eq_some_iff.mp q1).1]; exact q1
          · cases hv
            dsimp only at hq1 hdf w4
            subst hq1
            refine ⟨fun _ => ?_, fun hc => absurd hc (by omega)⟩
            rw [w4, ← hHs]
            exact (u_born (sl_TY c1) hts (sl_uw hci) hKn hkC e1 (sl_ty hci)).to (fun k hk => (hdf k hk).symm)
      · exact absurd h100 (by omega)
    · cases h
  · cases h
theorem sl_newa_fin {q : Nat × Nat} {m1 : M} {t : Nat} {v : Int32} {H H1 : Heap} (hal : al m t v = some (q, m1)) (hM : sl_Mem ad base NA ln rd VR cn wr al MI sn) (hI : MI m) (h100 : 100 ≤ t) (hP : sl_HP ad base NA Hb D cA ln rd VR cn m H) (z1 : H1.size = H.size + 1) (o1 : ∀ r : Nat, r < H.size → H1[r]? = H[r]?)
    (e1 : ∀ d : Value, (∀ k, sl_v ad (rd m1 q.1 q.2 k) = d) → H1[H.size]? = some (arrV (cA (sl_ak q.1)) (ln q.1 q.2) (fun _ => d))) : sl_HP ad base NA Hb D cA ln rd VR cn m1 H1 := by
  obtain ⟨w1, w2, w3, w4, w5, w6, w7⟩ := hM.2.2.2 m t v q m1 hal hI
  have hHs : H.size = base + cn m := hP.2.1 w3
  refine ⟨by rw [z1, w2]; omega, fun _ => by rw [z1, w2]; omega, fun r hr => by rw [o1 r (by omega)]; exact hP.2.2.1 r hr, fun c1 i1 hv => ?_⟩
  rcases (w5 _).mp hv with hv | hv
  · rw [w6 c1 i1 hv]
    have hold := hP.2.2.2 c1 i1 hv
    refine ⟨fun hc => ?_, fun hc h41 => ?_⟩
    · obtain ⟨cell, q1, q2⟩ := hold.1 hc
      exact ⟨cell, by rw [o1 _ (Array.getElem?_eq_some_iff.mp q1).1]; exact q1, q2⟩
    · have q1 := hold.2 hc h41
      rw [o1 _ (Array.getElem?_eq_some_iff.mp q1).1]; exact q1
  · rcases w7 with ⟨h12, -⟩ | ⟨-, -, hc20, -, -, -, -, -, -, hdf⟩
    · exact absurd h12 (by omega)
    · cases hv
      dsimp only at hc20 hdf w4 e1
      refine ⟨fun hc => absurd hc (by omega), fun _ _ => ?_⟩
      rw [w4, ← hHs]
      have e1 := e1 (sl_v ad (rd m1 c1 i1 0)) (fun k => by rw [hdf k, hdf 0])
      rw [e1]
      congr 2
      funext k
      rw [hdf k, hdf 0]
theorem sl_RAp {s : State} {cA : Nat → ClassId} {D : va_G} (hK : va_K D sl_cls (sl_tys cA) s) : s.vm.findClass ("[" ++ (FieldType.byte).toString) = some (cA 0) ∧ s.vm.findClass ("[" ++ (FieldType.int).toString) = some (cA 1) ∧ s.vm.findClass ("[" ++ (FieldType.boolean).toString) = some (cA 2) ∧ s.vm.findClass ("[" ++ (FieldType.long).toString) = some (cA 3) ∧ s.vm.findClass ("[" ++ (FieldType.object "SerialLink$Frame").toString) = some (cA 4) :=
  ⟨(hK.2 0 _ rfl).2, (hK.2 1 _ rfl).2, (hK.2 2 _ rfl).2, (hK.2 3 _ rfl).2, by obtain ⟨_, _, _, _, _, h⟩ := (hK.2 4 _ rfl).2; exact h⟩
theorem sl_s_newa {t : Nat} (hC : sl_Cx p s mid args c cc nL own D cA) (hM : sl_Mem ad base NA ln rd VR cn wr al MI sn) (hd : sl_okd cc ck pc (55, a, j, n, ts) = true) (hw : ∀ ty : ArrayType, sl_nk ty = j → Cond.arrayClass (newarray.typeOf ty) ∈ sl_GW) (hj : 100 ≤ j)
    (hmo : ∀ S1 m1, X S1 m1 = some x → cn m1 ≤ cn x.2 ∧ sn m1 ≤ sn x.2) (hR : cn x.2 - cn m0 ≤ R.cells ∧ sn x.2 - sn m0 ≤ R.slots) (h : sl_newa X pc n lo st m al j = some x) (ih : ∀ S1 m1, X S1 m1 = some x → sl_G p l e R s mid args below meth c ad base NA Hb D cA ln rd VR MI cn sn nL x Q m0 S1 m1) : sl_G p l e R s mid args below meth c ad base NA Hb D cA ln rd VR MI cn sn nL x Q m0 (pc, lo, st) m := by
  unfold sl_newa at h
  split at h
  · rename_i v r
    unfold sl_alo at h
    split at h
    · rename_i q m1 hal
      have hmo := hmo _ _ h
      intro H locs ls a1 a2 a3 a4 a5 a6 a7 a8 a9 a10
      obtain ⟨w1, w2, w3, w4, w5, w6, w7⟩ := hM.2.2.2 m j v q m1 hal a4
      rcases w7 with ⟨h12, -⟩ | ⟨-, h104, hc20, h41, hak, hneg, hle, hln, hsn, hdf⟩
      · exact absurd h12 (by omega)
      · obtain ⟨hx, hb, hml, hown, hts, hK⟩ := id hC
        obtain ⟨i, hi, ho⟩ := sl_d4 hd rfl rfl rfl rfl
        unfold sl_okc at ho
        split at ho <;> first | exact Bool.noConfusion (show false = true from ho) | skip
        rename_i aty
        simp only [Bool.and_eq_true, Nat.beq_eq] at ho
        obtain ⟨-, hnk, rfl⟩ := ho
        have hHs : H.size = base + cn m := a6.2.1 w3
        obtain ⟨f0, f1, f2, f3, f4⟩ := sl_RAp hK
        refine W.newa hx hb (hts _ (hw aty hnk)) rfl hi rfl hneg ?_ (by omega) (by omega) fun cA9 kA comp g1 g2 g3 => ?_
        · have : componentBytes (newarray.typeOf aty) ≤ 8 := by cases aty <;> first | decide | (simp [componentBytes, newarray.typeOf]; done) | exact Nat.le_of_ble_eq_true rfl
          calc v.toNatClampNeg * componentBytes (newarray.typeOf aty) ≤ 100000 * 8 := Nat.mul_le_mul hle this
            _ ≤ 536870912 := Nat.le_of_ble_eq_true rfl
        · have hty : cA9 = cA (sl_ak q.1) ∧ ∀ k, sl_v ad (rd m1 q.1 q.2 k) = defaultValue (newarray.typeOf aty) := by
            cases aty <;> first
              | (obtain rfl : j = 100 := hnk.symm; exact ⟨by rw [show sl_ak q.1 = 0 by omega]; exact Option.some.inj (g1.symm.trans f0), fun k => by rw [hdf k]; rfl⟩)
              | (obtain rfl : j = 101 := hnk.symm; exact ⟨by rw [show sl_ak q.1 = 1 by omega]; exact Option.some.inj (g1.symm.trans f1), fun k => by rw [hdf k]; rfl⟩)
              | (obtain rfl : j = 102 := hnk.symm; exact ⟨by rw [show sl_ak q.1 = 2 by omega]; exact Option.some.inj (g1.symm.trans f2), fun k => by rw [hdf k]; rfl⟩)
              | (obtain rfl : j = 103 := hnk.symm; exact ⟨by rw [show sl_ak q.1 = 3 by omega]; exact Option.some.inj (g1.symm.trans f3), fun k => by rw [hdf k]; rfl⟩)
              | (obtain rfl : j = 0 := hnk.symm; exact absurd hj (by omega))
          obtain ⟨rfl, hdv⟩ := hty
          rw [arrV_new]
          have g := ih _ _ h (H.push (arrV (cA (sl_ak q.1)) v.toNatClampNeg (fun _ => defaultValue (newarray.typeOf aty)))) locs ls (fun r hr => (w5 r).mpr (Or.inl (a1 r hr))) (by omega) (by omega) w1 (by rw [Array.size_push]; omega)
            (sl_newa_fin hal hM a4 hj a6 (Array.size_push _) (fun r hr => by rw [Array.getElem?_push, if_neg (Nat.ne_of_lt hr)]) (fun d hd9 => by rw [hln, ← hd9 0, hdv 0]; simp)) a7 (fun r hr => (w5 r).mpr (Or.inl (a8 r hr))) (fun r hr => by
              rcases List.mem_cons.mp hr with hr | hr
              · cases hr; exact (w5 _).mpr (Or.inr rfl)
              · exact (w5 r).mpr (Or.inl (a9 r (List.mem_cons_of_mem _ hr)))) a10
          rw [w2, hsn] at g
          rw [show cn m - cn m0 + 1 = cn m + 1 - cn m0 by omega, show sn m - sn m0 + v.toNatClampNeg = sn m + v.toNatClampNeg - sn m0 by omega]
          refine W.eq ?_ g
          show F0 mid (pc + 2) ls (Value.ref H.size :: r.map (sl_v ad)) = F0 mid (pc + 2) ls (Value.ref (ad q.1 q.2) :: r.map (sl_v ad))
          rw [w4, hHs]
    · cases h
  · cases h
theorem sl_s_anew (hC : sl_Cx p s mid args c cc nL own D cA) (hM : sl_Mem ad base NA ln rd VR cn wr al MI sn) (hd : sl_okd cc ck pc (61, a, j, n, ts) = true) (hw : Cond.classLink own j "SerialLink$Frame" ∈ sl_GW) (hov : (Cond.arrayOver (.object "SerialLink$Frame")).before args s = true)
    (hmo : ∀ S1 m1, X S1 m1 = some x → cn m1 ≤ cn x.2 ∧ sn m1 ≤ sn x.2) (hR : cn x.2 - cn m0 ≤ R.cells ∧ sn x.2 - sn m0 ≤ R.slots) (h : sl_newa X pc n lo st m al 104 = some x) (ih : ∀ S1 m1, X S1 m1 = some x → sl_G p l e R s mid args below meth c ad base NA Hb D cA ln rd VR MI cn sn nL x Q m0 S1 m1) : sl_G p l e R s mid args below meth c ad base NA Hb D cA ln rd VR MI cn sn nL x Q m0 (pc, lo, st) m := by
  unfold sl_newa at h
  split at h
  · rename_i v r
    unfold sl_alo at h
    split at h
    · rename_i q m1 hal
      have hmo := hmo _ _ h
      intro H locs ls a1 a2 a3 a4 a5 a6 a7 a8 a9 a10
      obtain ⟨w1, w2, w3, w4, w5, w6, w7⟩ := hM.2.2.2 m 104 v q m1 hal a4
      rcases w7 with ⟨h12, -⟩ | ⟨-, h104, hc20, h41, hak, hneg, hle, hln, hsn, hdf⟩
      · exact absurd h12 (by omega)
      · obtain ⟨hx, hb, hml, hown, hts, hK⟩ := id hC
        obtain ⟨i, hi, ho⟩ := sl_d4 hd rfl rfl rfl rfl
        unfold sl_okc at ho
        split at ho <;> first | exact Bool.noConfusion (show false = true from ho) | skip
        simp only [Bool.and_eq_true, Nat.beq_eq] at ho
        obtain ⟨-, rfl, rfl⟩ := ho
        have hHs : H.size = base + cn m := a6.2.1 w3
        obtain ⟨f0, f1, f2, f3, f4⟩ := sl_RAp hK
        refine W.anew hx hb hown (hts _ hw) hov rfl hi rfl hneg (by omega) (by omega) (by omega) fun cA9 kA comp g1 g2 g3 g4 => ?_
        have hty : cA9 = cA (sl_ak q.1) := by rw [show sl_ak q.1 = 4 by omega]; exact Option.some.inj (g1.symm.trans f4)
        have hdv : ∀ k, sl_v ad (rd m1 q.1 q.2 k) = .null := fun k => by rw [hdf k]; rfl
        subst hty
        rw [arrV_new]
        have g := ih _ _ h (H.push (arrV (cA (sl_ak q.1)) v.toNatClampNeg (fun _ => .null))) locs ls (fun r hr => (w5 r).mpr (Or.inl (a1 r hr))) (by omega) (by omega) w1 (by rw [Array.size_push]; omega)
          (sl_newa_fin hal hM a4 (by omega) a6 (Array.size_push _) (fun r hr => by rw [Array.getElem?_push, if_neg (Nat.ne_of_lt hr)]) (fun d hd9 => by rw [hln, ← hd9 0, hdv 0]; simp)) a7 (fun r hr => (w5 r).mpr (Or.inl (a8 r hr))) (fun r hr => by
            rcases List.mem_cons.mp hr with hr | hr
            · cases hr; exact (w5 _).mpr (Or.inr rfl)
            · exact (w5 r).mpr (Or.inl (a9 r (List.mem_cons_of_mem _ hr)))) a10
        rw [w2, hsn] at g
        rw [show cn m - cn m0 + 1 = cn m + 1 - cn m0 by omega, show sn m - sn m0 + v.toNatClampNeg = sn m + v.toNatClampNeg - sn m0 by omega]
        refine W.eq ?_ g
        show F0 mid (pc + 3) ls (Value.ref H.size :: r.map (sl_v ad)) = F0 mid (pc + 3) ls (Value.ref (ad q.1 q.2) :: r.map (sl_v ad))
        rw [w4, hHs]
    · cases h
  · cases h
end SLI
