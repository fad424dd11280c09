/-! ===== rounds one behind the other ===== -/
def sl_LN (L : Nat) (xs : Nat → Int32) : Nat → sl_S → sl_L → Option (sl_PL × sl_L)
  | 0 => fun _ _ => none
  | n + 1 => sl_LI L xs (sl_LN L xs n)
section SLLV
variable {p : Program} {l : Launch} {e : Env} {s : State} {mid : MethodId} {below : List Frame} {meth : Method} {c : Code} {b L : Nat} {xs : Nat → Int32} {D : va_G} {cA : Nat → ClassId} {x : sl_PL × sl_L} {m0 : sl_L} {Q : State → Prop}
theorem sl_LN_st (hst : l.stackTraces = false) (hbl : b < s.heap.size) (hKK : sl_KK D cA s.heap.size s) (hx1 : x.1 = (1, 0, 0)) : ∀ (n : Nat) (S : sl_S) (m : sl_L), sl_LN L xs n S m = some x → m.2.1 ≤ x.2.2.1 ∧ m.2.2 ≤ x.2.2.2
  | 0, _, _, h => by cases h
  | n + 1, S, m, h => sl_LI_st hst hbl hKK hx1 (sl_LN_st hst hbl hKK hx1 n) S m h
theorem sl_LN_ok (hst : l.stackTraces = false) (hX : va_X b L xs s s.heap) (hbl : b < s.heap.size) (hC : sl_Cx p s mid #[Value.ref b] c cL_law 7 RL D cA) (hKK : sl_KK D cA s.heap.size s) (hend : ∀ (pc : Nat) (H : Heap) (ls : Array Slot), decode cL_law pc = .ok (.ireturn, 1) → W p l e room_1 s mid #[Value.ref b] below meth c H [] 601024 7293034 Q (F0 mid pc ls [.int 1])) (hlk : meth.locks = false) (hx1 : x.1 = (1, 0, 0)) (hR : x.2.2.1 ≤ 601024 ∧ x.2.2.2 ≤ 7293034) : ∀ (n : Nat) (S : sl_S) (m : sl_L), sl_LN L xs n S m = some x → sl_G p l e room_1 s mid #[Value.ref b] below meth c (sl_ad s.heap.size b) s.heap.size 331 s.heap D cA sl_ln sl_rdL sl_VL sl_ML sl_cL sl_sL 7 x Q m0 S m
  | 0, _, _, h => by cases h
  | n + 1, S, m, h => sl_LI_ok hst hX hbl hC hKK hend hlk hx1 hR (sl_LN_st hst hbl hKK hx1 n) (sl_LN_ok hst hX hbl hC hKK hend hlk hx1 hR n) S m h
end SLLV
