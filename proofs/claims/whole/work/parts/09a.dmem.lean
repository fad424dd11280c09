/-! ===== the memory while objects are made: how many cells, how many slots, the ints written (newest first), the references set ===== -/
abbrev sl_D : Type := Nat × Nat × List (Nat × Nat × Nat × Int32) × List (Nat × Nat × Nat)
def sl_lk : List (Nat × Nat × Nat × Int32) → Nat → Nat → Nat → Int32
  | [], _, _, _ => 0
  | e :: r, c, i, k => bif Nat.beq e.1 c && (Nat.beq e.2.1 i && Nat.beq e.2.2.1 k) then e.2.2.2 else sl_lk r c i k
def sl_mu (L : List (Nat × Nat × Nat × Int32)) : sl_M := (fun c i k => sl_lk L c i k, 0)
def sl_is : List (Nat × Nat × Nat) → Nat → Nat → Nat → Bool
  | [], _, _, _ => false
  | e :: r, c, i, k => bif Nat.beq e.1 c && (Nat.beq e.2.1 i && Nat.beq e.2.2 k) then true else sl_is r c i k
def sl_rn (b : Bool) (v : sl_V) : sl_V := match v with
  | .inr (.inl (some q)) => bif b then .inr (.inl (some q)) else .inr (.inl none)
  | v => v
def sl_rdD (m : sl_D) (c i k : Nat) : sl_V := sl_rn (sl_is m.2.2.2 c i k) (sl_rd (sl_mu m.2.2.1) c i k)
/-- where a reference's place leads -/
def sl_rp (c i k : Nat) : Option (Nat × Nat) := match sl_rd (sl_mu []) c i k with
  | .inr (.inl (some q)) => some q
  | _ => none
def sl_sameq (a : Option (Nat × Nat)) (q : Nat × Nat) : Bool := match a with
  | some r => Nat.beq r.1 q.1 && Nat.beq r.2 q.2
  | none => false
def sl_wrD (m : sl_D) (c i k : Nat) (v : sl_V) : Option sl_D := match v with
  | .inl x => bif sl_wk c k then some (m.1, m.2.1, (c, i, k, x) :: m.2.2.1, m.2.2.2) else none
  | .inr (.inl (some q)) => bif (Nat.blt c 12 || Nat.beq c 22) && sl_sameq (sl_rp c i k) q then some (m.1, m.2.1, m.2.2.1, (c, i, k) :: m.2.2.2) else none
  | _ => none
def sl_alok (q : Nat × Nat) (t : Nat) (x : Int32) : Bool := bif Nat.blt t 12 then Nat.beq q.1 t else Nat.ble 100 t && (Nat.ble t 104 && (Nat.ble 20 q.1 && (!(Nat.beq q.1 41) && (Nat.beq (sl_ak q.1 + 100) t && (!(decide (x < 0)) && (Nat.beq (sl_ln q.1 q.2) x.toNatClampNeg && Nat.ble x.toNatClampNeg 100000))))))
def sl_siz (t : Nat) (x : Int32) : Nat := bif Nat.blt t 12 then sl_NX t else x.toNatClampNeg
def sl_alD (m : sl_D) (t : Nat) (x : Int32) : Option ((Nat × Nat) × sl_D) := bif Nat.blt m.1 331 && sl_alok (sl_sq m.1) t x then some (sl_sq m.1, (m.1 + 1, m.2.1 + sl_siz t x, m.2.2.1, m.2.2.2)) else none
def sl_VD (m : sl_D) (q : Nat × Nat) : Prop := q.2 < sl_ct q.1 ∧ (q.1 = 41 ∨ sl_od q.1 q.2 < m.1)
def sl_MD (m : sl_D) : Prop := (∀ e ∈ m.2.2.1, sl_VD m (e.1, e.2.1)) ∧ ∀ e ∈ m.2.2.2, sl_VD m (e.1, e.2.1) ∧ ∀ q, sl_rp e.1 e.2.1 e.2.2 = some q → sl_VD m q
def sl_cD (m : sl_D) : Nat := m.1
def sl_sD (m : sl_D) : Nat := m.2.1
theorem sl_bq {a b c d e f : Nat} : (Nat.beq a b && (Nat.beq c d && Nat.beq e f)) = true ↔ a = b ∧ c = d ∧ e = f := by
  simp only [Bool.and_eq_true, Nat.beq_eq]
theorem sl_lk_0 : ∀ (L : List (Nat × Nat × Nat × Int32)) (c i k : Nat), (∀ e ∈ L, (e.1, e.2.1) ≠ (c, i)) → sl_lk L c i k = 0
  | [], _, _, _, _ => rfl
  | e :: r, c, i, k, h => by
    unfold sl_lk
    cases hb : (Nat.beq e.1 c && (Nat.beq e.2.1 i && Nat.beq e.2.2.1 k)) with
    | true =>
      obtain ⟨h1, h2, -⟩ := sl_bq.mp hb
      exact absurd (by rw [h1, h2]) (h e List.mem_cons_self)
    | false => exact sl_lk_0 r c i k (fun e he => h e (List.mem_cons_of_mem _ he))
theorem sl_is_in : ∀ (S : List (Nat × Nat × Nat)) (c i k : Nat), sl_is S c i k = true → (c, i, k) ∈ S
  | [], _, _, _, h => by cases h
  | e :: r, c, i, k, h => by
    unfold sl_is at h
    cases hb : (Nat.beq e.1 c && (Nat.beq e.2.1 i && Nat.beq e.2.2 k)) with
    | true =>
      obtain ⟨h1, h2, h3⟩ := sl_bq.mp hb
      rw [← h1, ← h2, ← h3]
      exact List.mem_cons_self
    | false =>
      rw [hb] at h
      exact List.mem_cons_of_mem _ (sl_is_in r c i k h)
theorem sl_sq_in : ∀ n, n < 331 → (sl_sq n).2 < sl_ct (sl_sq n).1 ∧ (sl_sq n).1 ≠ 41 ∧ sl_od (sl_sq n).1 (sl_sq n).2 = n := by decide +kernel
theorem sl_moD : sl_Mo sl_wrD sl_alD sl_cD sl_sD := by
  refine ⟨fun m c i k v m1 h => ?_, fun m t v q m1 h => ?_⟩
  · unfold sl_wrD at h
    split at h
    · rename_i x
      cases hw : sl_wk c k with
      | false => rw [hw] at h; cases h
      | true => rw [hw] at h; cases h; exact ⟨rfl, rfl⟩
    · rename_i q
      cases hw : ((Nat.blt c 12 || Nat.beq c 22) && sl_sameq (sl_rp c i k) q) with
      | false => rw [hw] at h; cases h
      | true => rw [hw] at h; cases h; exact ⟨rfl, rfl⟩
    · cases h
  · unfold sl_alD at h
    cases hw : (Nat.blt m.1 331 && sl_alok (sl_sq m.1) t v) with
    | false => rw [hw] at h; cases h
    | true => rw [hw] at h; cases h; exact ⟨Nat.le_succ _, Nat.le_add_right _ _⟩
theorem sl_dz1 (ad : Nat → Nat → Nat) (i : Nat) : ∀ k, k < sl_NX 1 → sl_v ad (sl_rn false (sl_rd (sl_mu []) 1 i k)) = defaultValue (sl_TY 1 k) := by
  intro k hk
  match k, hk with
  | 0, _ => rfl
  | 1, _ => rfl
  | 2, _ => rfl
  | 3, _ => rfl
  | 4, _ => rfl
  | 5, _ => rfl
  | 6, _ => rfl
  | 7, _ => rfl
  | k + 8, h => exact absurd h (by have e : sl_NX 1 = 8 := rfl; rw [e]; omega)
theorem sl_dz2 (ad : Nat → Nat → Nat) (i : Nat) : ∀ k, k < sl_NX 2 → sl_v ad (sl_rn false (sl_rd (sl_mu []) 2 i k)) = defaultValue (sl_TY 2 k) := by
  intro k hk
  match k, hk with
  | 0, _ => rfl
  | 1, _ => rfl
  | 2, _ => rfl
  | 3, _ => rfl
  | 4, _ => rfl
  | k + 5, h => exact absurd h (by have e : sl_NX 2 = 5 := rfl; rw [e]; omega)
theorem sl_dz3 (ad : Nat → Nat → Nat) (i : Nat) : ∀ k, k < sl_NX 3 → sl_v ad (sl_rn false (sl_rd (sl_mu []) 3 i k)) = defaultValue (sl_TY 3 k) := by
  intro k hk
  match k, hk with
  | 0, _ => rfl
  | 1, _ => rfl
  | k + 2, h => exact absurd h (by have e : sl_NX 3 = 2 := rfl; rw [e]; omega)
theorem sl_dz4 (ad : Nat → Nat → Nat) (i : Nat) : ∀ k, k < sl_NX 4 → sl_v ad (sl_rn false (sl_rd (sl_mu []) 4 i k)) = defaultValue (sl_TY 4 k) := by
  intro k hk
  match k, hk with
  | 0, _ => rfl
  | 1, _ => rfl
  | 2, _ => rfl
  | 3, _ => rfl
  | 4, _ => rfl
  | k + 5, h => exact absurd h (by have e : sl_NX 4 = 5 := rfl; rw [e]; omega)
theorem sl_dz5 (ad : Nat → Nat → Nat) (i : Nat) : ∀ k, k < sl_NX 5 → sl_v ad (sl_rn false (sl_rd (sl_mu []) 5 i k)) = defaultValue (sl_TY 5 k) := by
  intro k hk
  match k, hk with
  | 0, _ => rfl
  | 1, _ => rfl
  | 2, _ => rfl
  | 3, _ => rfl
  | 4, _ => rfl
  | 5, _ => rfl
  | 6, _ => rfl
  | k + 7, h => exact absurd h (by have e : sl_NX 5 = 7 := rfl; rw [e]; omega)
theorem sl_dz6 (ad : Nat → Nat → Nat) (i : Nat) : ∀ k, k < sl_NX 6 → sl_v ad (sl_rn false (sl_rd (sl_mu []) 6 i k)) = defaultValue (sl_TY 6 k) := by
  intro k hk
  match k, hk with
  | 0, _ => rfl
  | 1, _ => rfl
  | k + 2, h => exact absurd h (by have e : sl_NX 6 = 2 := rfl; rw [e]; omega)
theorem sl_dz7 (ad : Nat → Nat → Nat) (i : Nat) : ∀ k, k < sl_NX 7 → sl_v ad (sl_rn false (sl_rd (sl_mu []) 7 i k)) = defaultValue (sl_TY 7 k) := by
  intro k hk
  match k, hk with
  | 0, _ => rfl
  | 1, _ => rfl
  | 2, _ => rfl
  | 3, _ => rfl
  | 4, _ => rfl
  | 5, _ => rfl
  | 6, _ => rfl
  | 7, _ => rfl
  | 8, _ => rfl
  | 9, _ => rfl
  | 10, _ => rfl
  | 11, _ => rfl
  | 12, _ => rfl
  | k + 13, h => exact absurd h (by have e : sl_NX 7 = 13 := rfl; rw [e]; omega)
theorem sl_dz8 (ad : Nat → Nat → Nat) (i : Nat) : ∀ k, k < sl_NX 8 → sl_v ad (sl_rn false (sl_rd (sl_mu []) 8 i k)) = defaultValue (sl_TY 8 k) := by
  intro k hk
  match k, hk with
  | 0, _ => rfl
  | 1, _ => rfl
  | 2, _ => rfl
  | 3, _ => rfl
  | 4, _ => rfl
  | k + 5, h => exact absurd h (by have e : sl_NX 8 = 5 := rfl; rw [e]; omega)
theorem sl_dz9 (ad : Nat → Nat → Nat) (i : Nat) : ∀ k, k < sl_NX 9 → sl_v ad (sl_rn false (sl_rd (sl_mu []) 9 i k)) = defaultValue (sl_TY 9 k) := by
  intro k hk
  match k, hk with
  | 0, _ => rfl
  | k + 1, h => exact absurd h (by have e : sl_NX 9 = 1 := rfl; rw [e]; omega)
theorem sl_dz10 (ad : Nat → Nat → Nat) (i : Nat) : ∀ k, k < sl_NX 10 → sl_v ad (sl_rn false (sl_rd (sl_mu []) 10 i k)) = defaultValue (sl_TY 10 k) := by
  intro k hk
  match k, hk with
  | 0, _ => rfl
  | 1, _ => rfl
  | 2, _ => rfl
  | 3, _ => rfl
  | 4, _ => rfl
  | 5, _ => rfl
  | 6, _ => rfl
  | 7, _ => rfl
  | 8, _ => rfl
  | k + 9, h => exact absurd h (by have e : sl_NX 10 = 9 := rfl; rw [e]; omega)
theorem sl_dz11 (ad : Nat → Nat → Nat) (i : Nat) : ∀ k, k < sl_NX 11 → sl_v ad (sl_rn false (sl_rd (sl_mu []) 11 i k)) = defaultValue (sl_TY 11 k) := by
  intro k hk
  match k, hk with
  | 0, _ => rfl
  | 1, _ => rfl
  | 2, _ => rfl
  | 3, _ => rfl
  | 4, _ => rfl
  | 5, _ => rfl
  | 6, _ => rfl
  | 7, _ => rfl
  | 8, _ => rfl
  | 9, _ => rfl
  | 10, _ => rfl
  | 11, _ => rfl
  | 12, _ => rfl
  | 13, _ => rfl
  | 14, _ => rfl
  | 15, _ => rfl
  | 16, _ => rfl
  | 17, _ => rfl
  | 18, _ => rfl
  | 19, _ => rfl
  | 20, _ => rfl
  | 21, _ => rfl
  | 22, _ => rfl
  | 23, _ => rfl
  | 24, _ => rfl
  | 25, _ => rfl
  | 26, _ => rfl
  | 27, _ => rfl
  | 28, _ => rfl
  | 29, _ => rfl
  | 30, _ => rfl
  | 31, _ => rfl
  | 32, _ => rfl
  | 33, _ => rfl
  | 34, _ => rfl
  | 35, _ => rfl
  | 36, _ => rfl
  | 37, _ => rfl
  | 38, _ => rfl
  | 39, _ => rfl
  | 40, _ => rfl
  | 41, _ => rfl
  | 42, _ => rfl
  | 43, _ => rfl
  | k + 44, h => exact absurd h (by have e : sl_NX 11 = 44 := rfl; rw [e]; omega)
theorem sl_dz (ad : Nat → Nat → Nat) (c i : Nat) (hc : c < 12) (h0 : sl_ct c ≠ 0) : ∀ k, k < sl_NX c → sl_v ad (sl_rn false (sl_rd (sl_mu []) c i k)) = defaultValue (sl_TY c k) := by
  match c, hc with
  | 0, _ => exact absurd rfl h0
  | 1, _ => exact sl_dz1 ad i
  | 2, _ => exact sl_dz2 ad i
  | 3, _ => exact sl_dz3 ad i
  | 4, _ => exact sl_dz4 ad i
  | 5, _ => exact sl_dz5 ad i
  | 6, _ => exact sl_dz6 ad i
  | 7, _ => exact sl_dz7 ad i
  | 8, _ => exact sl_dz8 ad i
  | 9, _ => exact sl_dz9 ad i
  | 10, _ => exact sl_dz10 ad i
  | 11, _ => exact sl_dz11 ad i
  | c + 12, h => exact absurd h (by omega)
theorem sl_z1 : (0 : Int32) &&& 1 = 0 := by decide
theorem sl_z2 : sl_sx 0 = 0 := by decide
theorem sl_da (c i k : Nat) (h0 : sl_ct c ≠ 0) (h20 : 20 ≤ c) (h41 : c ≠ 41) : sl_rn false (sl_rd (sl_mu []) c i k) = (match sl_ak c + 100 with
    | 103 => .inr (.inr 0)
    | 104 => .inr (.inl none)
    | _ => .inl 0) := by
  rcases sl_ct_in h0 with rfl | rfl | rfl | rfl | rfl | rfl | rfl | rfl | rfl | rfl | rfl | rfl | rfl | rfl | rfl | rfl | rfl | rfl | rfl | rfl | rfl | rfl | rfl | rfl | rfl | rfl | rfl | rfl | rfl | rfl | rfl | rfl | rfl | rfl | rfl | rfl | rfl | rfl | rfl | rfl | rfl | rfl | rfl | rfl <;> first | exact absurd h20 (by decide) | exact absurd rfl h41 | rfl | exact congrArg Sum.inl sl_z1 | exact congrArg Sum.inl sl_z2
theorem sl_rd_same {m m1 : sl_D} {c i k : Nat} (h1 : sl_lk m1.2.2.1 c i k = sl_lk m.2.2.1 c i k) (h2 : sl_is m1.2.2.2 c i k = sl_is m.2.2.2 c i k) : sl_rdD m1 c i k = sl_rdD m c i k := by
  unfold sl_rdD
  rw [h2, sl_rdc (m1 := sl_mu m1.2.2.1) (m := sl_mu m.2.2.1) h1 (fun _ => rfl)]
theorem sl_lk_up (L : List (Nat × Nat × Nat × Int32)) (c i k : Nat) (x : Int32) : ∀ c1 i1 k1, sl_lk ((c, i, k, x) :: L) c1 i1 k1 = if c = c1 ∧ i = i1 ∧ k = k1 then x else sl_lk L c1 i1 k1 := by
  intro c1 i1 k1
  show (bif Nat.beq c c1 && (Nat.beq i i1 && Nat.beq k k1) then x else sl_lk L c1 i1 k1) = _
  cases hb : (Nat.beq c c1 && (Nat.beq i i1 && Nat.beq k k1)) with
  | true => rw [if_pos (sl_bq.mp hb)]; rfl
  | false => rw [if_neg (fun q => by rw [sl_bq.mpr q] at hb; cases hb)]; rfl
theorem sl_is_up (S : List (Nat × Nat × Nat)) (c i k : Nat) : ∀ c1 i1 k1, sl_is ((c, i, k) :: S) c1 i1 k1 = if c = c1 ∧ i = i1 ∧ k = k1 then true else sl_is S c1 i1 k1 := by
  intro c1 i1 k1
  show (bif Nat.beq c c1 && (Nat.beq i i1 && Nat.beq k k1) then true else sl_is S c1 i1 k1) = _
  cases hb : (Nat.beq c c1 && (Nat.beq i i1 && Nat.beq k k1)) with
  | true => rw [if_pos (sl_bq.mp hb)]; rfl
  | false => rw [if_neg (fun q => by rw [sl_bq.mpr q] at hb; cases hb)]; rfl

theorem sl_rdk1 (m m1 : sl_M) (i k : Nat) : sl_rd1 m1 i k = sl_rd1 m i k ∨ ∃ x, sl_rd1 m i k = .inl x := by
  unfold sl_rd1
  split <;> first | exact Or.inl rfl | exact Or.inr ⟨_, rfl⟩
theorem sl_rdk2 (m m1 : sl_M) (i k : Nat) : sl_rd2 m1 i k = sl_rd2 m i k ∨ ∃ x, sl_rd2 m i k = .inl x := by
  unfold sl_rd2
  split <;> first | exact Or.inl rfl | exact Or.inr ⟨_, rfl⟩
theorem sl_rdk3 (m m1 : sl_M) (i k : Nat) : sl_rd3 m1 i k = sl_rd3 m i k ∨ ∃ x, sl_rd3 m i k = .inl x := by
  unfold sl_rd3
  split <;> first | exact Or.inl rfl | exact Or.inr ⟨_, rfl⟩
theorem sl_rdk4 (m m1 : sl_M) (i k : Nat) : sl_rd4 m1 i k = sl_rd4 m i k ∨ ∃ x, sl_rd4 m i k = .inl x := by
  unfold sl_rd4
  split <;> first | exact Or.inl rfl | exact Or.inr ⟨_, rfl⟩
theorem sl_rdk5 (m m1 : sl_M) (i k : Nat) : sl_rd5 m1 i k = sl_rd5 m i k ∨ ∃ x, sl_rd5 m i k = .inl x := by
  unfold sl_rd5
  split <;> first | exact Or.inl rfl | exact Or.inr ⟨_, rfl⟩
theorem sl_rdk6 (m m1 : sl_M) (i k : Nat) : sl_rd6 m1 i k = sl_rd6 m i k ∨ ∃ x, sl_rd6 m i k = .inl x := by
  unfold sl_rd6
  split <;> first | exact Or.inl rfl | exact Or.inr ⟨_, rfl⟩
theorem sl_rdk7 (m m1 : sl_M) (i k : Nat) : sl_rd7 m1 i k = sl_rd7 m i k ∨ ∃ x, sl_rd7 m i k = .inl x := by
  unfold sl_rd7
  split <;> first | exact Or.inl rfl | exact Or.inr ⟨_, rfl⟩
theorem sl_rdk8 (m m1 : sl_M) (i k : Nat) : sl_rd8 m1 i k = sl_rd8 m i k ∨ ∃ x, sl_rd8 m i k = .inl x := by
  unfold sl_rd8
  split <;> first | exact Or.inl rfl | exact Or.inr ⟨_, rfl⟩
theorem sl_rdk9 (m m1 : sl_M) (i k : Nat) : sl_rd9 m1 i k = sl_rd9 m i k ∨ ∃ x, sl_rd9 m i k = .inl x := by
  unfold sl_rd9
  split <;> first | exact Or.inl rfl | exact Or.inr ⟨_, rfl⟩
theorem sl_rdk10 (m m1 : sl_M) (i k : Nat) : sl_rd10 m1 i k = sl_rd10 m i k ∨ ∃ x, sl_rd10 m i k = .inl x := by
  unfold sl_rd10
  split <;> first | exact Or.inl rfl | exact Or.inr ⟨_, rfl⟩
theorem sl_rdk11 (m m1 : sl_M) (i k : Nat) : sl_rd11 m1 i k = sl_rd11 m i k ∨ ∃ x, sl_rd11 m i k = .inl x := by
  unfold sl_rd11
  split <;> first | exact Or.inl rfl | exact Or.inr ⟨_, rfl⟩
theorem sl_rw1 {m m1 : sl_M} {i k : Nat} {q : Nat × Nat} (h : sl_rd m 1 i k = .inr (.inl (some q))) : sl_rd m1 1 i k = .inr (.inl (some q)) := by
  have h : sl_rd1 m i k = .inr (.inl (some q)) := h
  show sl_rd1 m1 i k = .inr (.inl (some q))
  rcases sl_rdk1 m m1 i k with e | ⟨x, e⟩
  · exact e.trans h
  · rw [e] at h; cases h
theorem sl_rw2 {m m1 : sl_M} {i k : Nat} {q : Nat × Nat} (h : sl_rd m 2 i k = .inr (.inl (some q))) : sl_rd m1 2 i k = .inr (.inl (some q)) := by
  have h : sl_rd2 m i k = .inr (.inl (some q)) := h
  show sl_rd2 m1 i k = .inr (.inl (some q))
  rcases sl_rdk2 m m1 i k with e | ⟨x, e⟩
  · exact e.trans h
  · rw [e] at h; cases h
theorem sl_rw3 {m m1 : sl_M} {i k : Nat} {q : Nat × Nat} (h : sl_rd m 3 i k = .inr (.inl (some q))) : sl_rd m1 3 i k = .inr (.inl (some q)) := by
  have h : sl_rd3 m i k = .inr (.inl (some q)) := h
  show sl_rd3 m1 i k = .inr (.inl (some q))
  rcases sl_rdk3 m m1 i k with e | ⟨x, e⟩
  · exact e.trans h
  · rw [e] at h; cases h
theorem sl_rw4 {m m1 : sl_M} {i k : Nat} {q : Nat × Nat} (h : sl_rd m 4 i k = .inr (.inl (some q))) : sl_rd m1 4 i k = .inr (.inl (some q)) := by
  have h : sl_rd4 m i k = .inr (.inl (some q)) := h
  show sl_rd4 m1 i k = .inr (.inl (some q))
  rcases sl_rdk4 m m1 i k with e | ⟨x, e⟩
  · exact e.trans h
  · rw [e] at h; cases h
theorem sl_rw5 {m m1 : sl_M} {i k : Nat} {q : Nat × Nat} (h : sl_rd m 5 i k = .inr (.inl (some q))) : sl_rd m1 5 i k = .inr (.inl (some q)) := by
  have h : sl_rd5 m i k = .inr (.inl (some q)) := h
  show sl_rd5 m1 i k = .inr (.inl (some q))
  rcases sl_rdk5 m m1 i k with e | ⟨x, e⟩
  · exact e.trans h
  · rw [e] at h; cases h
theorem sl_rw6 {m m1 : sl_M} {i k : Nat} {q : Nat × Nat} (h : sl_rd m 6 i k = .inr (.inl (some q))) : sl_rd m1 6 i k = .inr (.inl (some q)) := by
  have h : sl_rd6 m i k = .inr (.inl (some q)) := h
  show sl_rd6 m1 i k = .inr (.inl (some q))
  rcases sl_rdk6 m m1 i k with e | ⟨x, e⟩
  · exact e.trans h
  · rw [e] at h; cases h
theorem sl_rw7 {m m1 : sl_M} {i k : Nat} {q : Nat × Nat} (h : sl_rd m 7 i k = .inr (.inl (some q))) : sl_rd m1 7 i k = .inr (.inl (some q)) := by
  have h : sl_rd7 m i k = .inr (.inl (some q)) := h
  show sl_rd7 m1 i k = .inr (.inl (some q))
  rcases sl_rdk7 m m1 i k with e | ⟨x, e⟩
  · exact e.trans h
  · rw [e] at h; cases h
theorem sl_rw8 {m m1 : sl_M} {i k : Nat} {q : Nat × Nat} (h : sl_rd m 8 i k = .inr (.inl (some q))) : sl_rd m1 8 i k = .inr (.inl (some q)) := by
  have h : sl_rd8 m i k = .inr (.inl (some q)) := h
  show sl_rd8 m1 i k = .inr (.inl (some q))
  rcases sl_rdk8 m m1 i k with e | ⟨x, e⟩
  · exact e.trans h
  · rw [e] at h; cases h
theorem sl_rw9 {m m1 : sl_M} {i k : Nat} {q : Nat × Nat} (h : sl_rd m 9 i k = .inr (.inl (some q))) : sl_rd m1 9 i k = .inr (.inl (some q)) := by
  have h : sl_rd9 m i k = .inr (.inl (some q)) := h
  show sl_rd9 m1 i k = .inr (.inl (some q))
  rcases sl_rdk9 m m1 i k with e | ⟨x, e⟩
  · exact e.trans h
  · rw [e] at h; cases h
theorem sl_rw10 {m m1 : sl_M} {i k : Nat} {q : Nat × Nat} (h : sl_rd m 10 i k = .inr (.inl (some q))) : sl_rd m1 10 i k = .inr (.inl (some q)) := by
  have h : sl_rd10 m i k = .inr (.inl (some q)) := h
  show sl_rd10 m1 i k = .inr (.inl (some q))
  rcases sl_rdk10 m m1 i k with e | ⟨x, e⟩
  · exact e.trans h
  · rw [e] at h; cases h
theorem sl_rw11 {m m1 : sl_M} {i k : Nat} {q : Nat × Nat} (h : sl_rd m 11 i k = .inr (.inl (some q))) : sl_rd m1 11 i k = .inr (.inl (some q)) := by
  have h : sl_rd11 m i k = .inr (.inl (some q)) := h
  show sl_rd11 m1 i k = .inr (.inl (some q))
  rcases sl_rdk11 m m1 i k with e | ⟨x, e⟩
  · exact e.trans h
  · rw [e] at h; cases h
theorem sl_rw20 {m : sl_M} {i k : Nat} {q : Nat × Nat} (h : sl_rd m 20 i k = .inr (.inl (some q))) : False := by cases h
theorem sl_rw23 {m : sl_M} {i k : Nat} {q : Nat × Nat} (h : sl_rd m 23 i k = .inr (.inl (some q))) : False := by cases h
theorem sl_rw24 {m : sl_M} {i k : Nat} {q : Nat × Nat} (h : sl_rd m 24 i k = .inr (.inl (some q))) : False := by cases h
theorem sl_rw25 {m : sl_M} {i k : Nat} {q : Nat × Nat} (h : sl_rd m 25 i k = .inr (.inl (some q))) : False := by cases h
theorem sl_rw26 {m : sl_M} {i k : Nat} {q : Nat × Nat} (h : sl_rd m 26 i k = .inr (.inl (some q))) : False := by cases h
theorem sl_rw27 {m : sl_M} {i k : Nat} {q : Nat × Nat} (h : sl_rd m 27 i k = .inr (.inl (some q))) : False := by cases h
theorem sl_rw30 {m : sl_M} {i k : Nat} {q : Nat × Nat} (h : sl_rd m 30 i k = .inr (.inl (some q))) : False := by cases h
theorem sl_rw40 {m : sl_M} {i k : Nat} {q : Nat × Nat} (h : sl_rd m 40 i k = .inr (.inl (some q))) : False := by cases h
theorem sl_rw50 {m : sl_M} {i k : Nat} {q : Nat × Nat} (h : sl_rd m 50 i k = .inr (.inl (some q))) : False := by cases h
theorem sl_rw51 {m : sl_M} {i k : Nat} {q : Nat × Nat} (h : sl_rd m 51 i k = .inr (.inl (some q))) : False := by cases h
theorem sl_rw52 {m : sl_M} {i k : Nat} {q : Nat × Nat} (h : sl_rd m 52 i k = .inr (.inl (some q))) : False := by cases h
theorem sl_rw53 {m : sl_M} {i k : Nat} {q : Nat × Nat} (h : sl_rd m 53 i k = .inr (.inl (some q))) : False := by cases h
theorem sl_rw54 {m : sl_M} {i k : Nat} {q : Nat × Nat} (h : sl_rd m 54 i k = .inr (.inl (some q))) : False := by cases h
theorem sl_rw55 {m : sl_M} {i k : Nat} {q : Nat × Nat} (h : sl_rd m 55 i k = .inr (.inl (some q))) : False := by cases h
theorem sl_rw56 {m : sl_M} {i k : Nat} {q : Nat × Nat} (h : sl_rd m 56 i k = .inr (.inl (some q))) : False := by cases h
theorem sl_rw57 {m : sl_M} {i k : Nat} {q : Nat × Nat} (h : sl_rd m 57 i k = .inr (.inl (some q))) : False := by cases h
theorem sl_rw58 {m : sl_M} {i k : Nat} {q : Nat × Nat} (h : sl_rd m 58 i k = .inr (.inl (some q))) : False := by cases h
theorem sl_rw59 {m : sl_M} {i k : Nat} {q : Nat × Nat} (h : sl_rd m 59 i k = .inr (.inl (some q))) : False := by cases h
theorem sl_rw60 {m : sl_M} {i k : Nat} {q : Nat × Nat} (h : sl_rd m 60 i k = .inr (.inl (some q))) : False := by cases h
theorem sl_rw61 {m : sl_M} {i k : Nat} {q : Nat × Nat} (h : sl_rd m 61 i k = .inr (.inl (some q))) : False := by cases h
theorem sl_rw62 {m : sl_M} {i k : Nat} {q : Nat × Nat} (h : sl_rd m 62 i k = .inr (.inl (some q))) : False := by cases h
theorem sl_rw63 {m : sl_M} {i k : Nat} {q : Nat × Nat} (h : sl_rd m 63 i k = .inr (.inl (some q))) : False := by cases h
theorem sl_rw64 {m : sl_M} {i k : Nat} {q : Nat × Nat} (h : sl_rd m 64 i k = .inr (.inl (some q))) : False := by cases h
theorem sl_rw65 {m : sl_M} {i k : Nat} {q : Nat × Nat} (h : sl_rd m 65 i k = .inr (.inl (some q))) : False := by cases h
theorem sl_rw66 {m : sl_M} {i k : Nat} {q : Nat × Nat} (h : sl_rd m 66 i k = .inr (.inl (some q))) : False := by cases h
theorem sl_rw67 {m : sl_M} {i k : Nat} {q : Nat × Nat} (h : sl_rd m 67 i k = .inr (.inl (some q))) : False := by cases h
theorem sl_rw68 {m : sl_M} {i k : Nat} {q : Nat × Nat} (h : sl_rd m 68 i k = .inr (.inl (some q))) : False := by cases h
theorem sl_rw70 {m : sl_M} {i k : Nat} {q : Nat × Nat} (h : sl_rd m 70 i k = .inr (.inl (some q))) : False := by cases h
theorem sl_rw71 {m : sl_M} {i k : Nat} {q : Nat × Nat} (h : sl_rd m 71 i k = .inr (.inl (some q))) : False := by cases h
theorem sl_rw72 {m : sl_M} {i k : Nat} {q : Nat × Nat} (h : sl_rd m 72 i k = .inr (.inl (some q))) : False := by cases h
theorem sl_rw73 {m : sl_M} {i k : Nat} {q : Nat × Nat} (h : sl_rd m 73 i k = .inr (.inl (some q))) : False := by cases h
theorem sl_rw41 {m : sl_M} {i k : Nat} {q : Nat × Nat} (h : sl_rd m 41 i k = .inr (.inl (some q))) : False := by cases h
theorem sl_rw22 {m m1 : sl_M} {i k : Nat} {q : Nat × Nat} (h : sl_rd m 22 i k = .inr (.inl (some q))) : sl_rd m1 22 i k = .inr (.inl (some q)) := by
  have h : (Sum.inr (Sum.inl (some (2, 40 * i + k))) : sl_V) = .inr (.inl (some q)) := h
  exact h
theorem sl_rd_wk {m m1 : sl_M} {c i k : Nat} {q : Nat × Nat} (h0 : sl_ct c ≠ 0) (h : sl_rd m c i k = .inr (.inl (some q))) : sl_rd m1 c i k = .inr (.inl (some q)) := by
  have hcc := sl_ct_in h0
  rcases hcc with rfl | rfl | rfl | rfl | rfl | rfl | rfl | rfl | rfl | rfl | rfl | rfl | rfl | rfl | rfl | rfl | rfl | rfl | rfl | rfl | rfl | rfl | rfl | rfl | rfl | rfl | rfl | rfl | rfl | rfl | rfl | rfl | rfl | rfl | rfl | rfl | rfl | rfl | rfl | rfl | rfl | rfl | rfl | rfl
  · exact sl_rw1 h
  · exact sl_rw2 h
  · exact sl_rw3 h
  · exact sl_rw4 h
  · exact sl_rw5 h
  · exact sl_rw6 h
  · exact sl_rw7 h
  · exact sl_rw8 h
  · exact sl_rw9 h
  · exact sl_rw10 h
  · exact sl_rw11 h
  · exact (sl_rw20 h).elim
  · exact sl_rw22 h
  · exact (sl_rw23 h).elim
  · exact (sl_rw24 h).elim
  · exact (sl_rw25 h).elim
  · exact (sl_rw26 h).elim
  · exact (sl_rw27 h).elim
  · exact (sl_rw30 h).elim
  · exact (sl_rw40 h).elim
  · exact (sl_rw41 h).elim
  · exact (sl_rw50 h).elim
  · exact (sl_rw51 h).elim
  · exact (sl_rw52 h).elim
  · exact (sl_rw53 h).elim
  · exact (sl_rw54 h).elim
  · exact (sl_rw55 h).elim
  · exact (sl_rw56 h).elim
  · exact (sl_rw57 h).elim
  · exact (sl_rw58 h).elim
  · exact (sl_rw59 h).elim
  · exact (sl_rw60 h).elim
  · exact (sl_rw61 h).elim
  · exact (sl_rw62 h).elim
  · exact (sl_rw63 h).elim
  · exact (sl_rw64 h).elim
  · exact (sl_rw65 h).elim
  · exact (sl_rw66 h).elim
  · exact (sl_rw67 h).elim
  · exact (sl_rw68 h).elim
  · exact (sl_rw70 h).elim
  · exact (sl_rw71 h).elim
  · exact (sl_rw72 h).elim
  · exact (sl_rw73 h).elim
theorem sl_rp_rd {m : sl_M} {c i k : Nat} {q : Nat × Nat} (h0 : sl_ct c ≠ 0) : sl_rp c i k = some q ↔ sl_rd m c i k = .inr (.inl (some q)) := by
  unfold sl_rp
  constructor
  · intro h
    split at h
    · rename_i q1 hq
      cases h
      exact sl_rd_wk h0 hq
    · cases h
  · intro h
    rw [sl_rd_wk (m1 := sl_mu []) h0 h]
theorem sl_wrD_in {m m1 : sl_D} {c i k : Nat} {v : sl_V} (h : sl_wrD m c i k v = some m1) : (∃ x, v = .inl x ∧ sl_wk c k = true ∧ m1 = (m.1, m.2.1, (c, i, k, x) :: m.2.2.1, m.2.2.2)) ∨ (∃ q, v = .inr (.inl (some q)) ∧ (c < 12 ∨ c = 22) ∧ sl_rp c i k = some q ∧ m1 = (m.1, m.2.1, m.2.2.1, (c, i, k) :: m.2.2.2)) := by
  unfold sl_wrD at h
  split at h
  · rename_i x
    cases hw : sl_wk c k with
    | false => rw [hw] at h; cases h
    | true => rw [hw] at h; exact Or.inl ⟨x, rfl, rfl, (Option.some.inj h).symm⟩
  · rename_i q
    cases hw : ((Nat.blt c 12 || Nat.beq c 22) && sl_sameq (sl_rp c i k) q) with
    | false => rw [hw] at h; cases h
    | true =>
      rw [hw] at h
      simp only [Bool.and_eq_true, Bool.or_eq_true, Nat.beq_eq] at hw
      refine Or.inr ⟨q, rfl, ?_, ?_, (Option.some.inj h).symm⟩
      · rcases hw.1 with z | z
        · exact Or.inl (Nat.le_of_ble_eq_true z)
        · exact Or.inr z
      · have z := hw.2
        unfold sl_sameq at z
        split at z
        · rename_i r hr
          simp only [Bool.and_eq_true, Nat.beq_eq] at z
          rw [hr, show r = q from Prod.ext z.1 z.2]
        · cases z
  · cases h
theorem sl_memD {base b : Nat} (hb : b < base) : sl_Mem (sl_ad base b) base 331 sl_ln sl_rdD sl_VD sl_cD sl_wrD sl_alD sl_MD sl_sD := by
  refine ⟨fun m c i k v m1 hw hv hq hI hc => ?_, fun m c i k q hv hI hk h => ?_, fun m q r hq hr h => sl_ap hb hq.1 hr.1 h, fun m t x q m1 h hI => ?_⟩
  · have hct : sl_ct c ≠ 0 := by have := hv.1; dsimp only at this; omega
    have had : c ≠ 41 → base ≤ sl_ad base b c i := fun h => by
      unfold sl_ad
      cases e : (c == 41) with
      | true => exact absurd (eq_of_beq e) h
      | false => exact Nat.le_add_right _ _
    rcases sl_wrD_in hw with ⟨x, rfl, hwk, rfl⟩ | ⟨r, rfl, hcr, hrp, rfl⟩
    · refine ⟨⟨fun e he => ?_, hI.2⟩, rfl, rfl, fun _ => Iff.rfl, had (fun z => by rw [z, sl_wk41] at hwk; cases hwk), fun c1 i1 _ hne => ?_, fun k1 _ => ?_⟩
      · rcases List.mem_cons.mp he with he | he
        · rw [he]; exact hv
        · exact hI.1 e he
      · funext k1
        refine sl_rd_same ?_ rfl
        rw [sl_lk_up, if_neg]
        rintro ⟨h1, h2, -⟩
        exact hne (by rw [h1, h2])
      · by_cases hk : k1 = k
        · rw [if_pos hk, hk]
          have e1 := sl_rdw (m := sl_mu m.2.2.1) (x := x) (i := i) hv.1 hwk
          have e2 : sl_rd (sl_mu ((c, i, k, x) :: m.2.2.1)) c i k = sl_rd (sl_up (sl_mu m.2.2.1) c i k x) c i k := by
            refine sl_rdc ?_ (fun _ => rfl)
            rw [sl_up_at]
            show sl_lk ((c, i, k, x) :: m.2.2.1) c i k = _
            rw [sl_lk_up]
            simp
          show sl_rn _ (sl_rd (sl_mu ((c, i, k, x) :: m.2.2.1)) c i k) = _
          rw [e2, e1]
          unfold sl_nf
          cases Nat.ble 20 c with
          | false => rfl
          | true =>
            rw [cond_true]
            unfold sl_nar
            dsimp only
            split <;> rfl
        · rw [if_neg hk]
          refine sl_rd_same ?_ rfl
          rw [sl_lk_up, if_neg]
          rintro ⟨-, -, h⟩
          exact hk h.symm
    · have h41 : c ≠ 41 := by omega
      refine ⟨⟨hI.1, fun e he => ?_⟩, rfl, rfl, fun _ => Iff.rfl, had h41, fun c1 i1 _ hne => ?_, fun k1 _ => ?_⟩
      · rcases List.mem_cons.mp he with he | he
        · rw [he]
          exact ⟨hv, fun q1 h1 => by rw [hrp] at h1; cases h1; exact hq _ rfl⟩
        · exact hI.2 e he
      · funext k1
        refine sl_rd_same rfl ?_
        rw [sl_is_up, if_neg]
        rintro ⟨h1, h2, -⟩
        exact hne (by rw [h1, h2])
      · by_cases hk : k1 = k
        · rw [if_pos hk, hk]
          show sl_rn (sl_is ((c, i, k) :: m.2.2.2) c i k) (sl_rd (sl_mu m.2.2.1) c i k) = _
          rw [(sl_rp_rd hct).mp hrp, sl_is_up, if_pos ⟨rfl, rfl, rfl⟩]
          unfold sl_nf
          cases Nat.ble 20 c with
          | false => rfl
          | true => rfl
        · rw [if_neg hk]
          refine sl_rd_same rfl ?_
          rw [sl_is_up, if_neg]
          rintro ⟨-, -, h⟩
          exact hk h.symm
  · unfold sl_rdD at h
    have hct : sl_ct c ≠ 0 := by have := hv.1; dsimp only at this; omega
    cases hs : sl_is m.2.2.2 c i k with
    | true =>
      refine (hI.2 _ (sl_is_in _ _ _ _ hs)).2 q ?_
      rw [hs] at h
      refine (sl_rp_rd (m := sl_mu m.2.2.1) hct).mpr ?_
      generalize sl_rd (sl_mu m.2.2.1) c i k = w at h
      unfold sl_rn at h
      split at h
      · exact h
      · exact h
    | false =>
      rw [hs] at h
      generalize sl_rd (sl_mu m.2.2.1) c i k = w at h
      unfold sl_rn at h
      split at h
      · cases h
      · rename_i w9 hw9
        exact absurd h (hw9 q)
  · unfold sl_alD at h
    cases hw : (Nat.blt m.1 331 && sl_alok (sl_sq m.1) t x) with
    | false => rw [hw] at h; cases h
    | true =>
      rw [hw] at h
      simp only [Bool.and_eq_true] at hw
      have hn : m.1 < 331 := Nat.le_of_ble_eq_true hw.1
      have hok := hw.2
      obtain ⟨s1, s2, s3⟩ := sl_sq_in m.1 hn
      replace h : some (sl_sq m.1, ((m.1 + 1, m.2.1 + sl_siz t x, m.2.2.1, m.2.2.2) : sl_D)) = some (q, m1) := h
      cases h
      have hup : ∀ r, sl_VD m r → sl_VD (m.1 + 1, m.2.1 + sl_siz t x, m.2.2.1, m.2.2.2) r := fun r hr => ⟨hr.1, hr.2.imp id (fun z => Nat.lt_succ_of_lt z)⟩
      have hfre : ∀ c i, sl_VD m (c, i) → (c, i) ≠ sl_sq m.1 := fun c i hv he => by
        rcases hv.2 with z | z
        · rw [← he] at s2; exact s2 z
        · rw [← he] at s3; dsimp only at s3 z; omega
      have hdef : ∀ k, sl_rdD (m.1 + 1, m.2.1 + sl_siz t x, m.2.2.1, m.2.2.2) (sl_sq m.1).1 (sl_sq m.1).2 k = sl_rn false (sl_rd (sl_mu []) (sl_sq m.1).1 (sl_sq m.1).2 k) := fun k => by
        have z := sl_rd_same (m := ((0, 0, [], []) : sl_D)) (m1 := (m.1 + 1, m.2.1 + sl_siz t x, m.2.2.1, m.2.2.2)) (c := (sl_sq m.1).1) (i := (sl_sq m.1).2) (k := k) (sl_lk_0 _ _ _ _ (fun e he z => hfre _ _ (hI.1 e he) z)) (by
          cases hs : sl_is m.2.2.2 (sl_sq m.1).1 (sl_sq m.1).2 k with
          | false => rfl
          | true => exact absurd rfl (hfre _ _ (hI.2 _ (sl_is_in _ _ _ _ hs)).1))
        exact z
      refine ⟨⟨fun e he => hup _ (hI.1 e he), fun e he => ⟨hup _ (hI.2 e he).1, fun r hr => hup _ ((hI.2 e he).2 r hr)⟩⟩, rfl, hn, ?_, fun r => ?_, fun c i hv => rfl, ?_⟩
      · unfold sl_ad
        cases e : ((sl_sq m.1).1 == 41) with
        | true => exact absurd (eq_of_beq e) s2
        | false => rw [cond_false, s3]; rfl
      · constructor
        · intro hr
          by_cases z : r = sl_sq m.1
          · exact Or.inr z
          · refine Or.inl ⟨hr.1, ?_⟩
            by_cases hno0 : r.1 = 41
            · exact Or.inl hno0
            have hno : ¬ r.1 = 41 := hno0
            rcases hr.2 with y | y
            · exact Or.inl y
            · right
              have y : sl_od r.1 r.2 < m.1 + 1 := y
              rcases Nat.lt_or_ge (sl_od r.1 r.2) m.1 with w | w
              · exact w
              · exfalso
                rcases Nat.decEq r.1 41 with h41 | h41
                · have h1 := (sl_sq_od r.1 (sl_ct_le (by have := hr.1; omega)) h41 r.2 hr.1).1
                  rw [show sl_od r.1 r.2 = m.1 by omega] at h1
                  exact z h1.symm
                · exact hno h41
        · rintro (hr | rfl)
          · exact hup _ hr
          · exact ⟨s1, Or.inr (by show sl_od _ _ < m.1 + 1; omega)⟩
      · unfold sl_alok at hok
        cases ht : Nat.blt t 12 with
        | true =>
          rw [ht] at hok
          have ht2 : t < 12 := Nat.le_of_ble_eq_true ht
          have hq1 : (sl_sq m.1).1 = t := Nat.eq_of_beq_eq_true hok
          refine Or.inl ⟨ht2, hq1, ?_, fun k hk => ?_⟩
          · show m.2.1 + sl_siz t x = m.2.1 + sl_NX t
            unfold sl_siz
            rw [ht]; rfl
          · rw [hdef, hq1]
            exact sl_dz _ t _ ht2 (by rw [← hq1]; omega) k hk
        | false =>
          rw [ht] at hok
          simp only [cond_false, Bool.and_eq_true, Nat.beq_eq, Bool.not_eq_true', decide_eq_false_iff_not] at hok
          obtain ⟨h1, h2, h3, h4, h5, h6, h7, h8⟩ := hok
          have h4 : (sl_sq m.1).1 ≠ 41 := s2
          refine Or.inr ⟨Nat.le_of_ble_eq_true h1, Nat.le_of_ble_eq_true h2, Nat.le_of_ble_eq_true h3, h4, h5, h6, Nat.le_of_ble_eq_true h8, h7, ?_, fun k => ?_⟩
          · show m.2.1 + sl_siz t x = m.2.1 + x.toNatClampNeg
            unfold sl_siz
            rw [ht]; rfl
          · rw [hdef, sl_da _ _ _ (by omega) (Nat.le_of_ble_eq_true h3) h4, h5]
            rfl
