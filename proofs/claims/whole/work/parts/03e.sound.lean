theorem sl_bif {α : Type} {b : Bool} {A : Option α} {x : α} (h : (bif b then A else none) = some x) : A = some x := by
  cases b
  · cases h
  · exact h
section SLP
variable {M : Type} {X : sl_S → M → Option (sl_PL × M)} {pc n j : Nat} {a : Int32} {ts : List Nat} {lo : List (Option sl_V)} {st : List sl_V} {m : M} {x : sl_PL × M} {rd : M → Nat → Nat → Nat → sl_V} {wr : M → Nat → Nat → Nat → sl_V → Option M} {al : M → Nat → Int32 → Option ((Nat × Nat) × M)} {ln : Nat → Nat → Nat} {f2 : Int32 → Int32 → Int32} {f1 : Int32 → sl_V} {ff : Option (Nat × Nat)} {fb : Nat → Bool} {sL : Nat} {sf : Nat → Int32} {cn sn : M → Nat}
theorem sl_p_iload (h : sl_iload X pc n lo st m j = some x) : ∃ S1, X S1 m = some x := by
  unfold sl_iload at h
  repeat' split at h
  all_goals first | exact ⟨_, h⟩ | exact ⟨_, sl_bif h⟩ | (cases h; done) | (have h := sl_bif h; first | (cases h; done) | (split at h <;> first | exact ⟨_, h⟩ | (cases h; done)))
theorem sl_p_aload (h : sl_aload X pc n lo st m j = some x) : ∃ S1, X S1 m = some x := by
  unfold sl_aload at h
  repeat' split at h
  all_goals first | exact ⟨_, h⟩ | exact ⟨_, sl_bif h⟩ | (cases h; done) | (have h := sl_bif h; first | (cases h; done) | (split at h <;> first | exact ⟨_, h⟩ | (cases h; done)))
theorem sl_p_istore (h : sl_istore X pc n lo st m j = some x) : ∃ S1, X S1 m = some x := by
  unfold sl_istore at h
  repeat' split at h
  all_goals first | exact ⟨_, h⟩ | exact ⟨_, sl_bif h⟩ | (cases h; done) | (have h := sl_bif h; first | (cases h; done) | (split at h <;> first | exact ⟨_, h⟩ | (cases h; done)))
theorem sl_p_astore (h : sl_astore X pc n lo st m j = some x) : ∃ S1, X S1 m = some x := by
  unfold sl_astore at h
  repeat' split at h
  all_goals first | exact ⟨_, h⟩ | exact ⟨_, sl_bif h⟩ | (cases h; done) | (have h := sl_bif h; first | (cases h; done) | (split at h <;> first | exact ⟨_, h⟩ | (cases h; done)))
theorem sl_p_iinc (h : sl_iinc X pc n lo st m j a = some x) : ∃ S1, X S1 m = some x := by
  unfold sl_iinc at h
  repeat' split at h
  all_goals first | exact ⟨_, h⟩ | exact ⟨_, sl_bif h⟩ | (cases h; done) | (have h := sl_bif h; first | (cases h; done) | (split at h <;> first | exact ⟨_, h⟩ | (cases h; done)))
theorem sl_p_bin (h : sl_bin X pc n lo st m f2 = some x) : ∃ S1, X S1 m = some x := by
  unfold sl_bin at h
  repeat' split at h
  all_goals first | exact ⟨_, h⟩ | exact ⟨_, sl_bif h⟩ | (cases h; done) | (have h := sl_bif h; first | (cases h; done) | (split at h <;> first | exact ⟨_, h⟩ | (cases h; done)))
theorem sl_p_dv (h : sl_dv X pc n lo st m f2 = some x) : ∃ S1, X S1 m = some x := by
  unfold sl_dv at h
  repeat' split at h
  all_goals first | exact ⟨_, h⟩ | exact ⟨_, sl_bif h⟩ | (cases h; done) | (have h := sl_bif h; first | (cases h; done) | (split at h <;> first | exact ⟨_, h⟩ | (cases h; done)))
theorem sl_p_un (h : sl_un X pc n lo st m f1 = some x) : ∃ S1, X S1 m = some x := by
  unfold sl_un at h
  repeat' split at h
  all_goals first | exact ⟨_, h⟩ | exact ⟨_, sl_bif h⟩ | (cases h; done) | (have h := sl_bif h; first | (cases h; done) | (split at h <;> first | exact ⟨_, h⟩ | (cases h; done)))
theorem sl_p_dup (h : sl_dup X pc n lo st m = some x) : ∃ S1, X S1 m = some x := by
  unfold sl_dup at h
  repeat' split at h
  all_goals first | exact ⟨_, h⟩ | exact ⟨_, sl_bif h⟩ | (cases h; done) | (have h := sl_bif h; first | (cases h; done) | (split at h <;> first | exact ⟨_, h⟩ | (cases h; done)))
theorem sl_p_dup2 (h : sl_dup2 X pc n lo st m = some x) : ∃ S1, X S1 m = some x := by
  unfold sl_dup2 at h
  repeat' split at h
  all_goals first | exact ⟨_, h⟩ | exact ⟨_, sl_bif h⟩ | (cases h; done) | (have h := sl_bif h; first | (cases h; done) | (split at h <;> first | exact ⟨_, h⟩ | (cases h; done)))
theorem sl_p_pop (h : sl_pop X pc n lo st m = some x) : ∃ S1, X S1 m = some x := by
  unfold sl_pop at h
  repeat' split at h
  all_goals first | exact ⟨_, h⟩ | exact ⟨_, sl_bif h⟩ | (cases h; done) | (have h := sl_bif h; first | (cases h; done) | (split at h <;> first | exact ⟨_, h⟩ | (cases h; done)))
theorem sl_p_ceq (h : sl_ceq X pc n lo st m j = some x) : ∃ S1, X S1 m = some x := by
  unfold sl_ceq at h
  repeat' split at h
  all_goals first | exact ⟨_, h⟩ | exact ⟨_, sl_bif h⟩ | (cases h; done) | (have h := sl_bif h; first | (cases h; done) | (split at h <;> first | exact ⟨_, h⟩ | (cases h; done)))
theorem sl_p_cne (h : sl_cne X pc n lo st m j = some x) : ∃ S1, X S1 m = some x := by
  unfold sl_cne at h
  repeat' split at h
  all_goals first | exact ⟨_, h⟩ | exact ⟨_, sl_bif h⟩ | (cases h; done) | (have h := sl_bif h; first | (cases h; done) | (split at h <;> first | exact ⟨_, h⟩ | (cases h; done)))
theorem sl_p_clt (h : sl_clt X pc n lo st m j = some x) : ∃ S1, X S1 m = some x := by
  unfold sl_clt at h
  repeat' split at h
  all_goals first | exact ⟨_, h⟩ | exact ⟨_, sl_bif h⟩ | (cases h; done) | (have h := sl_bif h; first | (cases h; done) | (split at h <;> first | exact ⟨_, h⟩ | (cases h; done)))
theorem sl_p_cge (h : sl_cge X pc n lo st m j = some x) : ∃ S1, X S1 m = some x := by
  unfold sl_cge at h
  repeat' split at h
  all_goals first | exact ⟨_, h⟩ | exact ⟨_, sl_bif h⟩ | (cases h; done) | (have h := sl_bif h; first | (cases h; done) | (split at h <;> first | exact ⟨_, h⟩ | (cases h; done)))
theorem sl_p_cgt (h : sl_cgt X pc n lo st m j = some x) : ∃ S1, X S1 m = some x := by
  unfold sl_cgt at h
  repeat' split at h
  all_goals first | exact ⟨_, h⟩ | exact ⟨_, sl_bif h⟩ | (cases h; done) | (have h := sl_bif h; first | (cases h; done) | (split at h <;> first | exact ⟨_, h⟩ | (cases h; done)))
theorem sl_p_cle (h : sl_cle X pc n lo st m j = some x) : ∃ S1, X S1 m = some x := by
  unfold sl_cle at h
  repeat' split at h
  all_goals first | exact ⟨_, h⟩ | exact ⟨_, sl_bif h⟩ | (cases h; done) | (have h := sl_bif h; first | (cases h; done) | (split at h <;> first | exact ⟨_, h⟩ | (cases h; done)))
theorem sl_p_zeq (h : sl_zeq X pc n lo st m j = some x) : ∃ S1, X S1 m = some x := by
  unfold sl_zeq at h
  repeat' split at h
  all_goals first | exact ⟨_, h⟩ | exact ⟨_, sl_bif h⟩ | (cases h; done) | (have h := sl_bif h; first | (cases h; done) | (split at h <;> first | exact ⟨_, h⟩ | (cases h; done)))
theorem sl_p_zne (h : sl_zne X pc n lo st m j = some x) : ∃ S1, X S1 m = some x := by
  unfold sl_zne at h
  repeat' split at h
  all_goals first | exact ⟨_, h⟩ | exact ⟨_, sl_bif h⟩ | (cases h; done) | (have h := sl_bif h; first | (cases h; done) | (split at h <;> first | exact ⟨_, h⟩ | (cases h; done)))
theorem sl_p_zlt (h : sl_zlt X pc n lo st m j = some x) : ∃ S1, X S1 m = some x := by
  unfold sl_zlt at h
  repeat' split at h
  all_goals first | exact ⟨_, h⟩ | exact ⟨_, sl_bif h⟩ | (cases h; done) | (have h := sl_bif h; first | (cases h; done) | (split at h <;> first | exact ⟨_, h⟩ | (cases h; done)))
theorem sl_p_zge (h : sl_zge X pc n lo st m j = some x) : ∃ S1, X S1 m = some x := by
  unfold sl_zge at h
  repeat' split at h
  all_goals first | exact ⟨_, h⟩ | exact ⟨_, sl_bif h⟩ | (cases h; done) | (have h := sl_bif h; first | (cases h; done) | (split at h <;> first | exact ⟨_, h⟩ | (cases h; done)))
theorem sl_p_zgt (h : sl_zgt X pc n lo st m j = some x) : ∃ S1, X S1 m = some x := by
  unfold sl_zgt at h
  repeat' split at h
  all_goals first | exact ⟨_, h⟩ | exact ⟨_, sl_bif h⟩ | (cases h; done) | (have h := sl_bif h; first | (cases h; done) | (split at h <;> first | exact ⟨_, h⟩ | (cases h; done)))
theorem sl_p_zle (h : sl_zle X pc n lo st m j = some x) : ∃ S1, X S1 m = some x := by
  unfold sl_zle at h
  repeat' split at h
  all_goals first | exact ⟨_, h⟩ | exact ⟨_, sl_bif h⟩ | (cases h; done) | (have h := sl_bif h; first | (cases h; done) | (split at h <;> first | exact ⟨_, h⟩ | (cases h; done)))
theorem sl_p_ifn (h : sl_ifn X pc n lo st m j = some x) : ∃ S1, X S1 m = some x := by
  unfold sl_ifn at h
  repeat' split at h
  all_goals first | exact ⟨_, h⟩ | exact ⟨_, sl_bif h⟩ | (cases h; done) | (have h := sl_bif h; first | (cases h; done) | (split at h <;> first | exact ⟨_, h⟩ | (cases h; done)))
theorem sl_p_ifnn (h : sl_ifnn X pc n lo st m j = some x) : ∃ S1, X S1 m = some x := by
  unfold sl_ifnn at h
  repeat' split at h
  all_goals first | exact ⟨_, h⟩ | exact ⟨_, sl_bif h⟩ | (cases h; done) | (have h := sl_bif h; first | (cases h; done) | (split at h <;> first | exact ⟨_, h⟩ | (cases h; done)))
theorem sl_p_lcmp (h : sl_lcmp X pc n lo st m = some x) : ∃ S1, X S1 m = some x := by
  unfold sl_lcmp at h
  repeat' split at h
  all_goals first | exact ⟨_, h⟩ | exact ⟨_, sl_bif h⟩ | (cases h; done) | (have h := sl_bif h; first | (cases h; done) | (split at h <;> first | exact ⟨_, h⟩ | (cases h; done)))
theorem sl_p_oi (h : sl_oi X pc n lo st m = some x) : ∃ S1, X S1 m = some x := by
  unfold sl_oi at h
  repeat' split at h
  all_goals first | exact ⟨_, h⟩ | exact ⟨_, sl_bif h⟩ | (cases h; done) | (have h := sl_bif h; first | (cases h; done) | (split at h <;> first | exact ⟨_, h⟩ | (cases h; done)))
theorem sl_p_getf (h : sl_getf X pc n lo st m rd ff = some x) : ∃ S1, X S1 m = some x := by
  unfold sl_getf at h
  repeat' split at h
  all_goals first | exact ⟨_, h⟩ | exact ⟨_, sl_bif h⟩ | (cases h; done) | (have h := sl_bif h; first | (cases h; done) | (split at h <;> first | exact ⟨_, h⟩ | (cases h; done)))
theorem sl_p_xld (h : sl_xld X pc n lo st m rd ln fb = some x) : ∃ S1, X S1 m = some x := by
  unfold sl_xld at h
  repeat' split at h
  all_goals first | exact ⟨_, h⟩ | exact ⟨_, sl_bif h⟩ | (cases h; done) | (have h := sl_bif h; first | (cases h; done) | (split at h <;> first | exact ⟨_, h⟩ | (cases h; done)))
theorem sl_p_alen (h : sl_alen X pc n lo st m ln = some x) : ∃ S1, X S1 m = some x := by
  unfold sl_alen at h
  repeat' split at h
  all_goals first | exact ⟨_, h⟩ | exact ⟨_, sl_bif h⟩ | (cases h; done) | (have h := sl_bif h; first | (cases h; done) | (split at h <;> first | exact ⟨_, h⟩ | (cases h; done)))
theorem sl_p_sld (h : sl_sld X pc n lo st m sL sf = some x) : ∃ S1, X S1 m = some x := by
  unfold sl_sld at h
  repeat' split at h
  all_goals first | exact ⟨_, h⟩ | exact ⟨_, sl_bif h⟩ | (cases h; done) | (have h := sl_bif h; first | (cases h; done) | (split at h <;> first | exact ⟨_, h⟩ | (cases h; done)))
theorem sl_p_sln (h : sl_sln X pc n lo st m sL = some x) : ∃ S1, X S1 m = some x := by
  unfold sl_sln at h
  repeat' split at h
  all_goals first | exact ⟨_, h⟩ | exact ⟨_, sl_bif h⟩ | (cases h; done) | (have h := sl_bif h; first | (cases h; done) | (split at h <;> first | exact ⟨_, h⟩ | (cases h; done)))
theorem sl_p_tsw (h : sl_tsw X lo st m j ts = some x) : ∃ S1, X S1 m = some x := by
  unfold sl_tsw at h
  split at h
  · rename_i v r
    rcases sl_sw_in v r ts 0 h with ⟨t, k, h1, h2, h3⟩ | ⟨h1, h2⟩
    · exact ⟨_, h3⟩
    · exact ⟨_, h2⟩
  · cases h
theorem sl_p_wrt {c i k : Nat} {v : sl_V} {r : List sl_V} (h : sl_wrt X pc n lo m wr c i k v r = some x) : ∃ S1 m1, X S1 m1 = some x ∧ wr m c i k v = some m1 := by
  unfold sl_wrt at h
  split at h
  · rename_i m1 hw
    exact ⟨_, m1, h, hw⟩
  · cases h
theorem sl_p_pok {t : Nat} {v : sl_V} {z : Option (sl_PL × M)} (h : sl_pok t v z = some x) : z = some x := by
  unfold sl_pok at h
  repeat' split at h
  all_goals first | exact h | (cases h; done)
theorem sl_p_putf {f : Option (Nat × Nat × Nat)} (h : sl_putf X pc n lo st m wr f = some x) : ∃ S1 m1 c i k v, X S1 m1 = some x ∧ wr m c i k v = some m1 := by
  unfold sl_putf at h
  split at h
  · split at h
    · obtain ⟨S1, m1, h1, h2⟩ := sl_p_wrt (sl_p_pok (sl_bif h))
      exact ⟨S1, m1, _, _, _, _, h1, h2⟩
    · cases h
  · cases h
theorem sl_p_xst {ok : Nat → sl_V → Bool} (h : sl_xst X pc n lo st m wr ln ok = some x) : ∃ S1 m1 c i k v, X S1 m1 = some x ∧ wr m c i k v = some m1 := by
  obtain ⟨v, i, c9, i9, r, m1, rfl, hok, h41, h0, hlt, hw, hz⟩ := sl_xst_in h
  exact ⟨_, m1, _, _, _, _, hz, hw⟩
theorem sl_p_alo {f : Option ((Nat × Nat) × M)} {r : List sl_V} (h : sl_alo X pc n lo f r = some x) : ∃ S1 m1 q, X S1 m1 = some x ∧ f = some (q, m1) := by
  unfold sl_alo at h
  split at h
  · exact ⟨_, _, _, h, rfl⟩
  · cases h
theorem sl_p_newc {f : Option Nat} (h : sl_newc X pc n lo st m al f = some x) : ∃ S1 m1 q t v, X S1 m1 = some x ∧ al m t v = some (q, m1) := by
  unfold sl_newc at h
  split at h
  · obtain ⟨S1, m1, q, h1, h2⟩ := sl_p_alo h
    exact ⟨S1, m1, q, _, _, h1, h2⟩
  · cases h
theorem sl_p_newa {t : Nat} (h : sl_newa X pc n lo st m al t = some x) : ∃ S1 m1 q t v, X S1 m1 = some x ∧ al m t v = some (q, m1) := by
  unfold sl_newa at h
  split at h
  · obtain ⟨S1, m1, q, h1, h2⟩ := sl_p_alo h
    exact ⟨S1, m1, q, _, _, h1, h2⟩
  · cases h
theorem sl_p_back {rk rc : Nat} {q : sl_PL × M} {r : List sl_V} (h : sl_back X pc n lo rk rc q r = some x) : ∃ S1, X S1 q.2 = some x := by
  unfold sl_back at h
  repeat' split at h
  all_goals exact ⟨_, h⟩
/-- a memory's counts never fall -/
def sl_Mo (wr : M → Nat → Nat → Nat → sl_V → Option M) (al : M → Nat → Int32 → Option ((Nat × Nat) × M)) (cn sn : M → Nat) : Prop :=
  (∀ m c i k v m1, wr m c i k v = some m1 → cn m1 = cn m ∧ sn m1 = sn m) ∧ ∀ m t v q m1, al m t v = some (q, m1) → cn m ≤ cn m1 ∧ sn m ≤ sn m1
def sl_st (cn sn : M → Nat) (th9 : Nat) (m : M) (x : sl_PL × M) (X : sl_S → M → Option (sl_PL × M)) : Prop := (∃ S1 m1, X S1 m1 = some x ∧ cn m ≤ cn m1 ∧ sn m ≤ sn m1) ∨ (cn m ≤ cn x.2 ∧ sn m ≤ sn x.2 ∧ (th9 = 0 → x.1.2.2 ≠ 2))
theorem sl_e1 {th9 : Nat} (h : ∃ S1, X S1 m = some x) : sl_st cn sn th9 m x X := by
  obtain ⟨S1, h⟩ := h
  exact Or.inl ⟨S1, m, h, Nat.le_refl _, Nat.le_refl _⟩
theorem sl_e2 {th9 : Nat} (hMo : sl_Mo wr al cn sn) (h : ∃ S1 m1 c i k v, X S1 m1 = some x ∧ wr m c i k v = some m1) : sl_st cn sn th9 m x X := by
  obtain ⟨S1, m1, c, i, k, v, h, hw⟩ := h
  obtain ⟨e1, e2⟩ := hMo.1 m c i k v m1 hw
  exact Or.inl ⟨S1, m1, h, by omega, by omega⟩
theorem sl_e3 {th9 : Nat} (hMo : sl_Mo wr al cn sn) (h : ∃ S1 m1 q t v, X S1 m1 = some x ∧ al m t v = some (q, m1)) : sl_st cn sn th9 m x X := by
  obtain ⟨S1, m1, q, t, v, h, hw⟩ := h
  obtain ⟨e1, e2⟩ := hMo.2 m t v q m1 hw
  exact Or.inl ⟨S1, m1, h, by omega, by omega⟩
theorem sl_e4 {th9 : Nat} (h : ∃ y, some ((y, m) : sl_PL × M) = some x ∧ y.2.2 ≠ 2) : sl_st cn sn th9 m x X := by
  obtain ⟨y, h, hy⟩ := h
  cases h
  exact Or.inr ⟨Nat.le_refl _, Nat.le_refl _, fun _ => hy⟩
theorem sl_p_iret (h : sl_iret st m j = some x) : ∃ y, some ((y, m) : sl_PL × M) = some x ∧ y.2.2 ≠ 2 := by
  unfold sl_iret at h
  repeat' split at h
  all_goals first | exact ⟨_, h, Nat.zero_ne_add_one 1⟩ | (cases h; done)
theorem sl_p_aret (h : sl_aret st m j = some x) : ∃ y, some ((y, m) : sl_PL × M) = some x ∧ y.2.2 ≠ 2 := by
  unfold sl_aret at h
  split at h
  · exact ⟨_, sl_bif h, Nat.zero_ne_add_one 1⟩
  · cases h
theorem sl_p_nret (h : sl_nret st m j = some x) : ∃ y, some ((y, m) : sl_PL × M) = some x ∧ y.2.2 ≠ 2 := by
  unfold sl_nret at h
  split at h
  · exact ⟨_, h, by decide⟩
  · exact ⟨_, sl_bif h, Nat.zero_ne_add_one 1⟩
  · cases h
theorem sl_p_vret (h : sl_vret st m = some x) : ∃ y, some ((y, m) : sl_PL × M) = some x ∧ y.2.2 ≠ 2 := by
  unfold sl_vret at h
  split at h
  · exact ⟨_, h, by decide⟩
  · cases h
theorem sl_e5 {th9 : Nat} {call : Nat → List sl_V → M → Option (sl_PL × M)} {f : Option sl_C} (hc : ∀ y na rk rc th rv, f = some (y, na, rk, rc, th, rv) → sl_Cp cn sn th (call y) ∧ (th ≠ 0 → th9 ≠ 0)) (h : sl_call X pc n lo st m call f = some x) : sl_st cn sn th9 m x X := by
  obtain ⟨y, na, rk, rc, th, rv, as, r, q, rfl, rfl, hna, hrc, hall, hsum, hq, hcase⟩ := sl_call_in h
  obtain ⟨hcp, ht⟩ := hc y na rk rc th rv rfl
  obtain ⟨m1, m2, m3⟩ := hcp as m q hq
  rcases hcase with ⟨hth, hfl, rfl⟩ | ⟨-, hb⟩
  · exact Or.inr ⟨m1, m2, fun h0 => absurd h0 (ht hth)⟩
  · obtain ⟨S1, hX⟩ := sl_p_back hb
    exact Or.inl ⟨S1, q.2, hX, m1, m2⟩
end SLP
section SLQ
variable {M : Type} {tb : Nat → Option sl_E} {fl : Nat → Option (Nat × Nat)} {pf : Nat → Option (Nat × Nat × Nat)} {cl : Nat → Option sl_C} {nw : Nat → Option Nat} {rd : M → Nat → Nat → Nat → sl_V} {wr : M → Nat → Nat → Nat → sl_V → Option M} {al : M → Nat → Int32 → Option ((Nat × Nat) × M)} {ln : Nat → Nat → Nat} {sL : Nat} {sf : Nat → Int32} {call : Nat → List sl_V → M → Option (sl_PL × M)} {X : sl_S → M → Option (sl_PL × M)} {cn sn : M → Nat} {th9 : Nat} {stop : Nat → Bool} {mask : Nat → List Bool}
theorem sl_op_st {k : Nat} {a : Int32} {j n : Nat} {ts : List Nat} {pc : Nat} {lo : List (Option sl_V)} {st : List sl_V} {m : M} {x : sl_PL × M} (hMo : sl_Mo wr al cn sn) (hcl : ∀ j y na rk rc th rv, cl j = some (y, na, rk, rc, th, rv) → sl_Cp cn sn th (call y) ∧ (th ≠ 0 → th9 ≠ 0)) (h56 : k = 56 → th9 ≠ 0)
    (h : sl_op fl pf cl nw rd wr al ln sL sf call X k a j n ts pc lo st m = some x) : sl_st cn sn th9 m x X := by
  unfold sl_op at h
  split at h
  · exact sl_e1 (sl_p_iload h)
  · exact sl_e1 (sl_p_aload h)
  · exact sl_e1 ⟨_, h⟩
  · exact sl_e1 (sl_p_istore h)
  · exact sl_e1 (sl_p_astore h)
  · exact sl_e1 (sl_p_iinc h)
  · exact sl_e1 (sl_p_bin h)
  · exact sl_e1 (sl_p_bin h)
  · exact sl_e1 (sl_p_bin h)
  · exact sl_e1 (sl_p_dv h)
  · exact sl_e1 (sl_p_dv h)
  · exact sl_e1 (sl_p_bin h)
  · exact sl_e1 (sl_p_bin h)
  · exact sl_e1 (sl_p_bin h)
  · exact sl_e1 (sl_p_bin h)
  · exact sl_e1 (sl_p_bin h)
  · exact sl_e1 (sl_p_bin h)
  · exact sl_e1 (sl_p_un h)
  · exact sl_e1 (sl_p_un h)
  · exact sl_e1 (sl_p_dup h)
  · exact sl_e1 (sl_p_dup2 h)
  · exact sl_e1 (sl_p_pop h)
  · exact sl_e1 (sl_p_ceq h)
  · exact sl_e1 (sl_p_cne h)
  · exact sl_e1 (sl_p_clt h)
  · exact sl_e1 (sl_p_cge h)
  · exact sl_e1 (sl_p_cgt h)
  · exact sl_e1 (sl_p_cle h)
  · exact sl_e1 (sl_p_zeq h)
  · exact sl_e1 (sl_p_zne h)
  · exact sl_e1 (sl_p_zlt h)
  · exact sl_e1 (sl_p_zge h)
  · exact sl_e1 (sl_p_zgt h)
  · exact sl_e1 (sl_p_zle h)
  · exact sl_e1 ⟨_, h⟩
  · exact sl_e1 (sl_p_getf h)
  · exact sl_e2 hMo (sl_p_putf h)
  · exact sl_e1 (sl_p_xld h)
  · exact sl_e1 (sl_p_xld h)
  · exact sl_e1 (sl_p_xld h)
  · exact sl_e1 (sl_p_xld h)
  · exact sl_e2 hMo (sl_p_xst h)
  · exact sl_e2 hMo (sl_p_xst h)
  · exact sl_e2 hMo (sl_p_xst h)
  · exact sl_e2 hMo (sl_p_xst h)
  · exact sl_e1 (sl_p_alen h)
  · exact sl_e5 (fun y na rk rc th rv e => hcl j y na rk rc th rv e) h
  · exact sl_e4 (sl_p_iret h)
  · exact sl_e4 (sl_p_aret h)
  · exact sl_e4 (sl_p_nret h)
  · exact sl_e4 (sl_p_vret h)
  · exact sl_e1 ⟨_, h⟩
  · exact sl_e1 (sl_p_ifn h)
  · exact sl_e1 (sl_p_ifnn h)
  · exact sl_e3 hMo (sl_p_newc h)
  · exact sl_e3 hMo (sl_p_newa h)
  · unfold sl_thr at h
    split at h
    · cases h; exact Or.inr ⟨Nat.le_refl _, Nat.le_refl _, fun h0 => absurd h0 (h56 rfl)⟩
    · cases h
  · exact sl_e1 (sl_p_tsw h)
  · exact sl_e1 (sl_p_lcmp h)
  · exact sl_e1 (sl_p_oi h)
  · exact sl_e1 ⟨_, h⟩
  · exact sl_e3 hMo (sl_p_newa h)
  · exact sl_e1 (sl_p_sld h)
  · exact sl_e1 (sl_p_sln h)
  · cases h
theorem sl_step_st {S : sl_S} {m : M} {x : sl_PL × M} (hMo : sl_Mo wr al cn sn) (hcl : ∀ j y na rk rc th rv, cl j = some (y, na, rk, rc, th, rv) → sl_Cp cn sn th (call y) ∧ (th ≠ 0 → th9 ≠ 0)) (h56 : ∀ p k a j n ts, tb p = some (k, a, j, n, ts) → k = 56 → th9 ≠ 0)
    (h : sl_step tb fl pf cl nw rd wr al ln sL sf call X S m = some x) : sl_st cn sn th9 m x X := by
  unfold sl_step at h
  split at h
  · rename_i k a j n ts ht
    exact sl_op_st hMo hcl (h56 _ k a j n ts ht) h
  · cases h
theorem sl_run_st {C : sl_S → M → Option (sl_PL × M)} (hMo : sl_Mo wr al cn sn) (hcl : ∀ j y na rk rc th rv, cl j = some (y, na, rk, rc, th, rv) → sl_Cp cn sn th (call y) ∧ (th ≠ 0 → th9 ≠ 0)) (h56 : ∀ p k a j n ts, tb p = some (k, a, j, n, ts) → k = 56 → th9 ≠ 0) {x : sl_PL × M}
    (hCC : ∀ S m, C S m = some x → cn m ≤ cn x.2 ∧ sn m ≤ sn x.2 ∧ (th9 = 0 → x.1.2.2 ≠ 2)) : ∀ (N : Nat) (S : sl_S) (m : M), sl_run tb fl pf cl nw rd wr al ln sL sf call stop C N S m = some x → cn m ≤ cn x.2 ∧ sn m ≤ sn x.2 ∧ (th9 = 0 → x.1.2.2 ≠ 2)
  | 0, S, m, h => by cases h
  | N + 1, S, m, h => by
    unfold sl_run at h
    rcases sl_step_st hMo hcl h56 h with ⟨S1, m1, h1, h2, h3⟩ | h1
    · dsimp only at h1
      cases hs : stop S1.1 with
      | true =>
        rw [hs] at h1
        obtain ⟨q1, q2, q3⟩ := hCC S1 m1 h1
        exact ⟨by omega, by omega, q3⟩
      | false =>
        rw [hs] at h1
        obtain ⟨q1, q2, q3⟩ := sl_run_st hMo hcl h56 hCC N S1 m1 h1
        exact ⟨by omega, by omega, q3⟩
    · exact h1
theorem sl_B_st (hMo : sl_Mo wr al cn sn) (hcl : ∀ j y na rk rc th rv, cl j = some (y, na, rk, rc, th, rv) → sl_Cp cn sn th (call y) ∧ (th ≠ 0 → th9 ≠ 0)) (h56 : ∀ p k a j n ts, tb p = some (k, a, j, n, ts) → k = 56 → th9 ≠ 0) {x : sl_PL × M} : ∀ (N : Nat) (S : sl_S) (m : M), sl_B tb fl pf cl nw rd wr al ln sL sf call stop mask N S m = some x → cn m ≤ cn x.2 ∧ sn m ≤ sn x.2 ∧ (th9 = 0 → x.1.2.2 ≠ 2)
  | 0, S, m, h => by cases h
  | N + 1, S, m, h => by
    unfold sl_B at h
    exact sl_run_st hMo hcl h56 (fun S1 m1 h1 => sl_B_st hMo hcl h56 N _ _ h1) 400 S m h
theorem sl_F_cp {nL : Nat} (hMo : sl_Mo wr al cn sn) (hcl : ∀ j y na rk rc th rv, cl j = some (y, na, rk, rc, th, rv) → sl_Cp cn sn th (call y) ∧ (th ≠ 0 → th9 ≠ 0)) (h56 : ∀ p k a j n ts, tb p = some (k, a, j, n, ts) → k = 56 → th9 ≠ 0) : sl_Cp cn sn th9 (fun as m => sl_B tb fl pf cl nw rd wr al ln sL sf call stop mask 100000 (0, sl_lo nL as, []) m) :=
  fun as m x h => sl_B_st hMo hcl h56 100000 _ m h
end SLQ
