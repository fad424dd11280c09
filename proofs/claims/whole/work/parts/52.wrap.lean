/-! ===== the law's eight methods with handlers ===== -/
def sl_wR (tb : Nat → Option sl_E) (stop : Nat → Bool) (C9 : sl_S → sl_L → Option (sl_PL × sl_L)) (N : Nat) (S : sl_S) (m : sl_L) : Option (sl_PL × sl_L) := sl_run tb (fun _ => none) (fun _ => none) (fun _ => none) (fun _ => none) sl_rdL sl_wrL sl_alL sl_ln 0 (fun _ => 0) (fun _ _ _ => none) stop C9 N S m
def sl_wC (tb : Nat → Option sl_E) (P na : Nat) (F : List sl_V → sl_M → Option (sl_PL × sl_M)) (S : sl_S) (m : sl_L) : Option (sl_PL × sl_L) :=
  bif Nat.beq S.1 P && (Nat.beq (S.2.2.take na).reverse.length na && (sl_rc 11 (S.2.2.take na).reverse && ((S.2.2.take na).reverse.all sl_c1 && Nat.ble (sl_cs (S.2.2.drop na)) 8))) then
    (F (S.2.2.take na).reverse m.1).bind (fun q => if q.1.2.2 = 2 then some ((1, 0, 0), (q.2, m.2.1 + 1, m.2.2 + 6)) else sl_wR tb (fun _ => false) (fun _ _ => none) 10 (P + 3, S.2.1, .inl q.1.1 :: S.2.2.drop na) (q.2, m.2))
  else none
def sl_wF (tb : Nat → Option sl_E) (P na mL : Nat) (F : List sl_V → sl_M → Option (sl_PL × sl_M)) (as : List sl_V) (m : sl_L) : Option (sl_PL × sl_L) := sl_wR tb (fun pc => Nat.beq pc P) (sl_wC tb P na F) 20 (0, sl_lo mL as, []) m
section SLWX
variable {p : Program} {l : Launch} {e : Env} {R : Room} {s : State} {mid : MethodId} {args : Array Value} {below : List Frame} {meth : Method} {c : Code} {base b : Nat} {Hb : Heap} {D : va_G} {cA : Nat → ClassId} {nL : Nat} {x : sl_PL × sl_L} {Q : State → Prop} {m0 : sl_L} {cc : ByteArray} {own : String}
theorem sl_wst {tb : Nat → Option sl_E} {stop : Nat → Bool} {C9 : sl_S → sl_L → Option (sl_PL × sl_L)} (hS : ∀ pc k a j n ts, tb pc = some (k, a, j, n, ts) → (k = 47 ∧ j = 1) ∨ k = 0 ∨ k = 1 ∨ k = 2 ∨ k = 18 ∨ k = 34 ∨ k = 44) (hx2 : x.1.2.2 ≠ 2) (hCst : ∀ S m, C9 S m = some x → m.2.1 ≤ x.2.2.1 ∧ m.2.2 ≤ x.2.2.2) (N : Nat) (S : sl_S) (m : sl_L) (h : sl_wR tb stop C9 N S m = some x) : m.2.1 ≤ x.2.2.1 ∧ m.2.2 ≤ x.2.2.2 := by
  have g := sl_run_st (th9 := 0) sl_moL (fun j y na rk rc th rv e => by cases e) (fun p k a j n ts e h56 => by rcases hS _ _ _ _ _ _ e with ⟨h, -⟩ | h | h | h | h | h | h <;> omega) (fun S m h => ⟨(hCst S m h).1, (hCst S m h).2, fun _ => hx2⟩) N S m h
  exact ⟨g.1, g.2.1⟩
theorem sl_wok {tb : Nat → Option sl_E} {NT : Nat} {stop : Nat → Bool} {C9 : sl_S → sl_L → Option (sl_PL × sl_L)} (hb : b < base) (hC : sl_Cx p s mid args c cc nL own D cA) (hKK : sl_KK D cA base s) (hsb : ∀ q : Nat, q < base → s.heap[q]? = Hb[q]?) (hNT : ∀ pc, NT ≤ pc → tb pc = none) (hd : sl_okT cc (fun _ => 0) tb NT = true)
    (hS : ∀ pc k a j n ts, tb pc = some (k, a, j, n, ts) → (k = 47 ∧ j = 1) ∨ k = 0 ∨ k = 1 ∨ k = 2 ∨ k = 18 ∨ k = 34 ∨ k = 44) (hx2 : x.1.2.2 ≠ 2) (hQ : Q = MQ below (sl_Qc (sl_ad base b) base 331 Hb D cA sl_ln sl_rdL sl_VL sl_ML sl_cL 1 0 m0 x) args s (x.2.2.1 - m0.2.1) (x.2.2.2 - m0.2.2) (fun q => base ≤ q))
    (hr : meth.sig.returnType = some .int) (hlk : meth.locks = false) (hR : x.2.2.1 - m0.2.1 ≤ R.cells ∧ x.2.2.2 - m0.2.2 ≤ R.slots) (hCst : ∀ S m, C9 S m = some x → m.2.1 ≤ x.2.2.1 ∧ m.2.2 ≤ x.2.2.2)
    (hCC : ∀ S m, C9 S m = some x → sl_G p l e R s mid args below meth c (sl_ad base b) base 331 Hb D cA sl_ln sl_rdL sl_VL sl_ML sl_cL sl_sL nL x Q m0 S m) (N : Nat) (S : sl_S) (m : sl_L) (h : sl_wR tb stop C9 N S m = some x) : sl_G p l e R s mid args below meth c (sl_ad base b) base 331 Hb D cA sl_ln sl_rdL sl_VL sl_ML sl_cL sl_sL nL x Q m0 S m := by
  refine sl_run_ok (th9 := 0) (ck := fun _ => 0) hC hKK (sl_memL hb) sl_moL hsb (fun pc E ht => sl_okT_at hd hNT ht) (fun pc k a j n ts ht => ?_) (fun j ci k h => by cases h) (fun j ci k t h => by cases h) (fun j ci h => by cases h) (fun j y na rk rc th rv e => by cases e) (fun j y na rk rc th rv e => by cases e) (fun p k a j n ts e h56 => by rcases hS _ _ _ _ _ _ e with ⟨h, -⟩ | h | h | h | h | h | h <;> omega)
    ⟨by rw [if_neg hx2]; exact hR.1, by rw [if_neg hx2]; exact hR.2⟩ (fun h => absurd h hx2) (fun h => absurd h hx2) hlk (fun X pc lo st m1 k a j n ts ht hk ih hop => ?_) (fun S m h => ⟨(hCst S m h).1, (hCst S m h).2, fun _ => hx2⟩) hCC N S m h
  · have h1 := hS _ _ _ _ _ _ ht
    exact ⟨fun h => by omega, fun h => by omega, fun h => by omega, fun h => by omega, fun h => by omega⟩
  · have hd9 := sl_okT_at hd hNT ht
    obtain ⟨hx, hb9, -⟩ := hC
    rcases hS _ _ _ _ _ _ ht with ⟨rfl, rfl⟩ | h1
    · obtain ⟨hdg, rfl⟩ := sl_d1 hd9 rfl
      replace hop : sl_iret st m1 1 = some x := hop
      unfold sl_iret at hop
      split at hop
      · rename_i v
        replace hop : some ((v, 0, 0), m1) = some x := hop
        cases hop
        intro H locs ls a1 a2 a3 a4 a5 a6 a7 a8 a9 a10
        rw [hQ]
        exact W.iret (v := v) hx hb9 hr (fun t ht9 hW => ⟨rfl, by rw [ht9]; exact a6, by rw [ht9]; exact a5, a4, a1, fun h => absurd h (by decide), fun h => absurd h (by decide)⟩) a10 hdg hlk
      · cases hop
    · exfalso
      simp only [List.contains_cons, List.contains_nil, Bool.or_false, Bool.or_eq_true, beq_iff_eq] at hk
      omega
end SLWX
