/-! ===== all made: what stands then ===== -/
/-- the ints that aren't 0 -/
def sl_K0 : List (Nat × Nat × Nat × Int32) := [(8, 0, 0, 1), (8, 0, 1, 8), (8, 0, 2, 4), (8, 0, 3, 16), (8, 0, 4, 3), (3, 1, 1, (-1)), (6, 8, 1, 3840), (3, 2, 1, (-1)), (6, 9, 1, 3840), (3, 0, 1, (-1)), (11, 0, 7, (-1)), (11, 0, 9, 1), (11, 0, 10, 8), (11, 0, 11, 4), (11, 0, 12, 16), (11, 0, 13, 3), (50, 0, 1, 498536548), (50, 0, 2, 997073096), (50, 0, 3, 651767980), (50, 0, 4, 1994146192), (50, 0, 5, 1802195444), (50, 0, 6, 1303535960), (50, 0, 7, 1342533948), (50, 0, 8, (-306674912)), (50, 0, 9, (-267414716)), (50, 0, 10, (-690576408)), (50, 0, 11, (-882789492)), (50, 0, 12, (-1687895376)), (50, 0, 13, (-2032938284)), (50, 0, 14, (-1609899400)), (50, 0, 15, (-1111625188))]
def sl_m0 : sl_M := sl_mu sl_K0
def sl_eqK (L K : List (Nat × Nat × Nat × Int32)) : Bool := L.all (fun e => sl_lk L e.1 e.2.1 e.2.2.1 == sl_lk K e.1 e.2.1 e.2.2.1) && K.all (fun e => sl_lk L e.1 e.2.1 e.2.2.1 == sl_lk K e.1 e.2.1 e.2.2.1)
theorem sl_lk_no : ∀ (L : List (Nat × Nat × Nat × Int32)) (c i k : Nat), sl_lk L c i k = 0 ∨ ∃ e ∈ L, e.1 = c ∧ e.2.1 = i ∧ e.2.2.1 = k
  | [], _, _, _ => Or.inl rfl
  | e :: r, c, i, k => by
    unfold sl_lk
    cases hb : (Nat.beq e.1 c && (Nat.beq e.2.1 i && Nat.beq e.2.2.1 k)) with
    | true => exact Or.inr ⟨e, List.mem_cons_self, sl_bq.mp hb⟩
    | false =>
      rcases sl_lk_no r c i k with h | ⟨e1, h1, h2⟩
      · exact Or.inl h
      · exact Or.inr ⟨e1, List.mem_cons_of_mem _ h1, h2⟩
theorem sl_eqK_at {L K : List (Nat × Nat × Nat × Int32)} (h : sl_eqK L K = true) (c i k : Nat) : sl_lk L c i k = sl_lk K c i k := by
  unfold sl_eqK at h
  rw [Bool.and_eq_true] at h
  rcases sl_lk_no L c i k with h1 | ⟨e, h1, rfl, rfl, rfl⟩
  · rcases sl_lk_no K c i k with h2 | ⟨e, h2, rfl, rfl, rfl⟩
    · rw [h1, h2]
    · exact eq_of_beq (List.all_eq_true.mp h.2 e h2)
  · exact eq_of_beq (List.all_eq_true.mp h.1 e h1)
def sl_ck (S : List (Nat × Nat × Nat)) : Bool := (List.range 331).all (fun n => (List.range (bif Nat.blt (sl_sq n).1 12 then sl_NX (sl_sq n).1 else bif Nat.beq (sl_sq n).1 22 then 40 else 0)).all (fun k => match sl_rp (sl_sq n).1 (sl_sq n).2 k with
  | some _ => sl_is S (sl_sq n).1 (sl_sq n).2 k
  | none => true))
def sl_mq1 : Option ((Nat × Nat) × sl_D) := sl_alD (0, 0, [], []) 10 0
def sl_mq2 : Option (sl_PL × sl_D) := sl_mq1.bind (fun q => dF_X10_init [.inr (.inl (some q.1))] q.2)
def sl_mq3 : Option ((Nat × Nat) × sl_D) := sl_mq2.bind (fun x => sl_alD x.2 11 0)
def sl_mq4 : Option (sl_PL × sl_D) := sl_mq3.bind (fun q => dF_X11_init [.inr (.inl (some q.1))] q.2)
def sl_mq5 : Option ((Nat × Nat) × sl_D) := sl_mq4.bind (fun x => sl_alD x.2 103 1)
def sl_ok5 : Bool := match sl_mq5 with
  | some q => Nat.beq q.2.1 331 && (Nat.beq q.2.2.1 78833 && (sl_ck q.2.2.2.2 && sl_eqK q.2.2.2.1 sl_K0))
  | none => false
set_option maxRecDepth 100000 in
theorem sl_made : sl_ok5 = true := by decide +kernel
theorem sl_alD_q {m m1 : sl_D} {t : Nat} {x : Int32} {q : Nat × Nat} (h : sl_alD m t x = some (q, m1)) : q = sl_sq m.1 ∧ m1.1 = m.1 + 1 := by
  unfold sl_alD at h
  cases hw : (Nat.blt m.1 331 && sl_alok (sl_sq m.1) t x) with
  | false => rw [hw] at h; cases h
  | true => rw [hw] at h; cases h; exact ⟨rfl, rfl⟩
theorem sl_made2 : ∃ (d1 d3 d5 : sl_D) (x2 x4 : sl_PL × sl_D), sl_alD (0, 0, [], []) 10 0 = some ((10, 0), d1) ∧ dF_X10_init [.inr (.inl (some (10, 0)))] d1 = some x2 ∧ sl_alD x2.2 11 0 = some ((11, 0), d3) ∧ dF_X11_init [.inr (.inl (some (11, 0)))] d3 = some x4 ∧ sl_alD x4.2 103 1 = some ((40, 0), d5) ∧
    d5.1 = 331 ∧ d5.2.1 = 78833 ∧ sl_ck d5.2.2.2 = true ∧ ∀ c i k, sl_lk d5.2.2.1 c i k = sl_lk sl_K0 c i k := by
  have h := sl_made
  have hx : ∃ q5, sl_mq5 = some q5 ∧ (Nat.beq q5.2.1 331 && (Nat.beq q5.2.2.1 78833 && (sl_ck q5.2.2.2.2 && sl_eqK q5.2.2.2.1 sl_K0))) = true := by
    unfold sl_ok5 at h
    generalize sl_mq5 = z at h
    cases z with
    | none => cases h
    | some q => exact ⟨q, rfl, h⟩
  obtain ⟨⟨q5, d5⟩, h5, hc⟩ := hx
  obtain ⟨x4, h4, h5⟩ := Option.bind_eq_some_iff.mp h5
  obtain ⟨⟨q3, d3⟩, h3, h4⟩ := Option.bind_eq_some_iff.mp h4
  obtain ⟨x2, h2, h3⟩ := Option.bind_eq_some_iff.mp h3
  obtain ⟨⟨q1, d1⟩, h1, h2⟩ := Option.bind_eq_some_iff.mp h2
  simp only [Bool.and_eq_true, Nat.beq_eq] at hc
  obtain ⟨c1, c2, c3, c4⟩ := hc
  have e1 := (sl_alD_q h1).1
  have e1 : q1 = (10, 0) := e1
  subst e1
  have m5 := sl_alD_q h5
  have e5 : q5 = (40, 0) := by rw [m5.1, show x4.2.1 = 330 by have h7 : d5.1 = x4.2.1 + 1 := m5.2; have h8 : d5.1 = 331 := c1; omega]; rfl
  subst e5
  have h3' := h3
  unfold sl_alD at h3'
  cases hw : (Nat.blt x2.2.1 331 && sl_alok (sl_sq x2.2.1) 11 0) with
  | false => rw [hw] at h3'; cases h3'
  | true =>
    simp only [Bool.and_eq_true] at hw
    have e3 := (sl_alD_q h3).1
    have hk : Nat.beq (sl_sq x2.2.1).1 11 = true := hw.2
    have hs := sl_sq_in x2.2.1 (Nat.le_of_ble_eq_true hw.1)
    have e3 : q3 = (11, 0) := by
      rw [e3]
      have ha : (sl_sq x2.2.1).1 = 11 := Nat.eq_of_beq_eq_true hk
      have hb := hs.1
      rw [ha] at hb
      have hct : sl_ct 11 = 1 := rfl
      exact Prod.ext ha (by rw [hct] at hb; show (sl_sq x2.2.1).2 = 0; omega)
    subst e3
    exact ⟨d1, d3, d5, x2, x4, h1, h2, h3, h4, h5, c1, c2, c3, fun c i k => sl_eqK_at c4 c i k⟩
theorem sl_rn_id {b : Bool} {v : sl_V} (h : ∀ q, v = .inr (.inl (some q)) → b = true) : sl_rn b v = v := by
  unfold sl_rn
  split
  · rename_i q
    rw [h q rfl]; rfl
  · rfl
theorem sl_ck_at {S : List (Nat × Nat × Nat)} (h : sl_ck S = true) {c i k : Nat} (hv : i < sl_ct c) (h41 : c ≠ 41) (hk : c < 12 ∧ k < sl_NX c ∨ c = 22 ∧ k < 40) {q : Nat × Nat} (hq : sl_rp c i k = some q) : sl_is S c i k = true := by
  obtain ⟨h1, h2⟩ := sl_sq_od c (sl_ct_le (by omega)) h41 i hv
  have h3 := List.all_eq_true.mp h (sl_od c i) (List.mem_range.mpr h2)
  rw [h1] at h3
  have h4 := List.all_eq_true.mp h3 k (List.mem_range.mpr (by
    rcases hk with ⟨a, b⟩ | ⟨rfl, b⟩
    · rw [show Nat.blt (c, i).1 12 = true from Nat.ble_eq.mpr a]; exact b
    · exact b))
  dsimp only at h4
  rw [hq] at h4
  exact h4
theorem sl_HP_S {base b : Nat} {Hb : Heap} {D : va_G} {cA : Nat → ClassId} {d : sl_D} {H : Heap} (h1 : d.1 = 331) (h2 : sl_ck d.2.2.2 = true) (h3 : ∀ c i k, sl_lk d.2.2.1 c i k = sl_lk sl_K0 c i k) (hP : sl_HP (sl_ad base b) base 331 Hb D cA sl_ln sl_rdD sl_VD sl_cD d H) :
    sl_HP (sl_ad base b) base 331 Hb D cA sl_ln sl_rd sl_VS sl_cS sl_m0 H := by
  obtain ⟨p1, p2, p3, p4⟩ := hP
  have p1 : base + min d.1 331 ≤ H.size := p1
  refine ⟨by show base + min 331 331 ≤ H.size; omega, fun h => absurd h (Nat.lt_irrefl _), p3, fun c i hv => ?_⟩
  have hv : i < sl_ct c := hv
  have hrd : ∀ k, sl_rd (sl_mu d.2.2.1) c i k = sl_rd sl_m0 c i k := fun k => sl_rdc (h3 c i k) (fun _ => rfl)
  have hct : sl_ct c ≠ 0 := by omega
  by_cases h41 : c = 41
  · subst h41
    exact ⟨fun h => absurd h (by decide), fun _ h => absurd rfl h⟩
  · have hz := p4 c i ⟨hv, Or.inr (by rw [h1]; exact (sl_sq_od c (sl_ct_le hct) h41 i hv).2)⟩
    refine ⟨fun hc => (hz.1 hc).to (fun k hk => ?_), fun hc h41 => (hz.2 hc h41).trans (congrArg some (sl_arr_eq (fun k hk => ?_)))⟩
    · refine congrArg (sl_v _) ?_
      unfold sl_rdD
      rw [sl_rn_id (fun q hq => sl_ck_at h2 hv h41 (Or.inl ⟨hc, hk⟩) ((sl_rp_rd hct).mpr hq)), hrd]
    · refine congrArg (sl_v _) ?_
      unfold sl_rdD
      rw [sl_rn_id (fun q hq => ?_), hrd]
      by_cases h22 : c = 22
      · subst h22
        exact sl_ck_at h2 hv h41 (Or.inr ⟨rfl, hk⟩) ((sl_rp_rd hct).mpr hq)
      · rcases sl_ct_in hct with rfl | rfl | rfl | rfl | rfl | rfl | rfl | rfl | rfl | rfl | rfl | rfl | rfl | rfl | rfl | rfl | rfl | rfl | rfl | rfl | rfl | rfl | rfl | rfl | rfl | rfl | rfl | rfl | rfl | rfl | rfl | rfl | rfl | rfl | rfl | rfl | rfl | rfl | rfl | rfl | rfl | rfl | rfl | rfl
        · exact absurd hc (by decide)
        · exact absurd hc (by decide)
        · exact absurd hc (by decide)
        · exact absurd hc (by decide)
        · exact absurd hc (by decide)
        · exact absurd hc (by decide)
        · exact absurd hc (by decide)
        · exact absurd hc (by decide)
        · exact absurd hc (by decide)
        · exact absurd hc (by decide)
        · exact absurd hc (by decide)
        · exact (sl_rw20 hq).elim
        · exact absurd rfl h22
        · exact (sl_rw23 hq).elim
        · exact (sl_rw24 hq).elim
        · exact (sl_rw25 hq).elim
        · exact (sl_rw26 hq).elim
        · exact (sl_rw27 hq).elim
        · exact (sl_rw30 hq).elim
        · exact (sl_rw40 hq).elim
        · exact (sl_rw41 hq).elim
        · exact (sl_rw50 hq).elim
        · exact (sl_rw51 hq).elim
        · exact (sl_rw52 hq).elim
        · exact (sl_rw53 hq).elim
        · exact (sl_rw54 hq).elim
        · exact (sl_rw55 hq).elim
        · exact (sl_rw56 hq).elim
        · exact (sl_rw57 hq).elim
        · exact (sl_rw58 hq).elim
        · exact (sl_rw59 hq).elim
        · exact (sl_rw60 hq).elim
        · exact (sl_rw61 hq).elim
        · exact (sl_rw62 hq).elim
        · exact (sl_rw63 hq).elim
        · exact (sl_rw64 hq).elim
        · exact (sl_rw65 hq).elim
        · exact (sl_rw66 hq).elim
        · exact (sl_rw67 hq).elim
        · exact (sl_rw68 hq).elim
        · exact (sl_rw70 hq).elim
        · exact (sl_rw71 hq).elim
        · exact (sl_rw72 hq).elim
        · exact (sl_rw73 hq).elim
