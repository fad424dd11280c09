/-! ===== values, states, one step ===== -/
/-- an int; a reference (which kind of cell, which one of it) or null; a long -/
abbrev sl_V : Type := Sum Int32 (Sum (Option (Nat × Nat)) Int64)
/-- what a method answers: an int, which cell, 0 (1: null, 2: it threw) -/
abbrev sl_PL : Type := Int32 × Nat × Nat
/-- pc, locals, stack -/
abbrev sl_S : Type := Nat × List (Option sl_V) × List sl_V
/-- an instruction: its number, a constant, an index or target, its length, a table's targets -/
abbrev sl_E : Type := Nat × Int32 × Nat × Nat × List Nat
/-- a call: method, how many arguments, what comes back, its cells' kind, does it throw, the receiver's kind and 1 (0: none) -/
abbrev sl_C : Type := Nat × Nat × Nat × Nat × Nat × Nat
def sl_v (ad : Nat → Nat → Nat) (v : sl_V) : Value := match v with
  | .inl x => .int x
  | .inr (.inl none) => .null
  | .inr (.inl (some q)) => .ref (ad q.1 q.2)
  | .inr (.inr y) => .long y
def sl_c1 (v : sl_V) : Bool := match v with
  | .inr (.inr _) => false
  | _ => true
def sl_cs : List sl_V → Nat
  | [] => 0
  | v :: r => (bif sl_c1 v then 1 else 2) + sl_cs r
/-- null alone, or a cell of that kind -/
def sl_rc1 (c : Nat) (as : List sl_V) : Bool := match as with
  | .inr (.inl (some q)) :: _ => q.1 == c
  | _ => false
def sl_rc (rv : Nat) (as : List sl_V) : Bool := match rv with
  | 0 => true
  | c + 1 => sl_rc1 c as
/-- an array cell's kind of elements, by its kind -/
def sl_ak (c : Nat) : Nat := bif Nat.ble 74 c then 9 else bif Nat.ble 70 c then 2 else bif Nat.ble 50 c then 1 else match c with
  | 20 => 0 | 22 => 4 | 23 => 1 | 24 => 1 | 25 => 1 | 26 => 2 | 27 => 1 | 30 => 0 | 40 => 3 | 41 => 1 | _ => 9
section SLA
variable {M : Type} (X : sl_S → M → Option (sl_PL × M)) (pc n : Nat) (lo : List (Option sl_V)) (st : List sl_V) (m : M)
def sl_iload (j : Nat) : Option (sl_PL × M) := match lo[j]? with
  | some (some (.inl x)) => X (pc + n, lo, .inl x :: st) m
  | _ => none
def sl_aload (j : Nat) : Option (sl_PL × M) := match lo[j]? with
  | some (some (.inr (.inl r))) => X (pc + n, lo, .inr (.inl r) :: st) m
  | _ => none
def sl_istore (j : Nat) : Option (sl_PL × M) := match st with
  | .inl x :: r => X (pc + n, lo.set j (some (.inl x)), r) m
  | _ => none
def sl_astore (j : Nat) : Option (sl_PL × M) := match st with
  | .inr (.inl a) :: r => X (pc + n, lo.set j (some (.inr (.inl a))), r) m
  | _ => none
def sl_iinc (j : Nat) (k : Int32) : Option (sl_PL × M) := match lo[j]? with
  | some (some (.inl x)) => X (pc + n, lo.set j (some (.inl (x + k))), st) m
  | _ => none
def sl_bin (f : Int32 → Int32 → Int32) : Option (sl_PL × M) := match st with
  | .inl y :: .inl x :: r => X (pc + n, lo, .inl (f x y) :: r) m
  | _ => none
def sl_dv (f : Int32 → Int32 → Int32) : Option (sl_PL × M) := match st with
  | .inl y :: .inl x :: r => if y = 0 then none else X (pc + n, lo, .inl (f x y) :: r) m
  | _ => none
def sl_un (f : Int32 → sl_V) : Option (sl_PL × M) := match st with
  | .inl x :: r => X (pc + n, lo, f x :: r) m
  | _ => none
def sl_dup : Option (sl_PL × M) := match st with
  | v :: r => bif sl_c1 v then X (pc + n, lo, v :: v :: r) m else none
  | _ => none
def sl_dup2 : Option (sl_PL × M) := match st with
  | v :: w :: r => bif sl_c1 v && sl_c1 w then X (pc + n, lo, v :: w :: v :: w :: r) m else none
  | _ => none
def sl_pop : Option (sl_PL × M) := match st with
  | v :: r => bif sl_c1 v then X (pc + n, lo, r) m else none
  | _ => none
def sl_ceq (j : Nat) : Option (sl_PL × M) := match st with
  | .inl y :: .inl x :: r => if x = y then X (j, lo, r) m else X (pc + n, lo, r) m
  | _ => none
def sl_cne (j : Nat) : Option (sl_PL × M) := match st with
  | .inl y :: .inl x :: r => if x = y then X (pc + n, lo, r) m else X (j, lo, r) m
  | _ => none
def sl_clt (j : Nat) : Option (sl_PL × M) := match st with
  | .inl y :: .inl x :: r => if x < y then X (j, lo, r) m else X (pc + n, lo, r) m
  | _ => none
def sl_cge (j : Nat) : Option (sl_PL × M) := match st with
  | .inl y :: .inl x :: r => if y ≤ x then X (j, lo, r) m else X (pc + n, lo, r) m
  | _ => none
def sl_cgt (j : Nat) : Option (sl_PL × M) := match st with
  | .inl y :: .inl x :: r => if y < x then X (j, lo, r) m else X (pc + n, lo, r) m
  | _ => none
def sl_cle (j : Nat) : Option (sl_PL × M) := match st with
  | .inl y :: .inl x :: r => if x ≤ y then X (j, lo, r) m else X (pc + n, lo, r) m
  | _ => none
def sl_zeq (j : Nat) : Option (sl_PL × M) := match st with
  | .inl x :: r => if x = 0 then X (j, lo, r) m else X (pc + n, lo, r) m
  | _ => none
def sl_zne (j : Nat) : Option (sl_PL × M) := match st with
  | .inl x :: r => if x = 0 then X (pc + n, lo, r) m else X (j, lo, r) m
  | _ => none
def sl_zlt (j : Nat) : Option (sl_PL × M) := match st with
  | .inl x :: r => if x < 0 then X (j, lo, r) m else X (pc + n, lo, r) m
  | _ => none
def sl_zge (j : Nat) : Option (sl_PL × M) := match st with
  | .inl x :: r => if 0 ≤ x then X (j, lo, r) m else X (pc + n, lo, r) m
  | _ => none
def sl_zgt (j : Nat) : Option (sl_PL × M) := match st with
  | .inl x :: r => if 0 < x then X (j, lo, r) m else X (pc + n, lo, r) m
  | _ => none
def sl_zle (j : Nat) : Option (sl_PL × M) := match st with
  | .inl x :: r => if x ≤ 0 then X (j, lo, r) m else X (pc + n, lo, r) m
  | _ => none
def sl_ifn (j : Nat) : Option (sl_PL × M) := match st with
  | .inr (.inl none) :: r => X (j, lo, r) m
  | .inr (.inl (some _)) :: r => X (pc + n, lo, r) m
  | _ => none
def sl_ifnn (j : Nat) : Option (sl_PL × M) := match st with
  | .inr (.inl none) :: r => X (pc + n, lo, r) m
  | .inr (.inl (some _)) :: r => X (j, lo, r) m
  | _ => none
def sl_sw (j : Nat) (x : Int32) (r : List sl_V) : Nat → List Nat → Option (sl_PL × M)
  | _, [] => X (j, lo, r) m
  | i, t :: ts => if x = Int32.ofNat i then X (t, lo, r) m else sl_sw j x r (i + 1) ts
def sl_tsw (j : Nat) (ts : List Nat) : Option (sl_PL × M) := match st with
  | .inl x :: r => sl_sw X lo m j x r 0 ts
  | _ => none
def sl_lcmp : Option (sl_PL × M) := match st with
  | .inr (.inr y) :: .inr (.inr x) :: r => X (pc + n, lo, .inl (lg_cmp x y) :: r) m
  | _ => none
def sl_oi : Option (sl_PL × M) := match st with
  | .inr (.inl (some _)) :: r => bif Nat.ble (sl_cs r) 8 then X (pc + n, lo, r) m else none
  | _ => none
variable (rd : M → Nat → Nat → Nat → sl_V) (wr : M → Nat → Nat → Nat → sl_V → Option M) (ln : Nat → Nat → Nat)
def sl_getf (f : Option (Nat × Nat)) : Option (sl_PL × M) := match f with
  | some (ci, k) => match st with
    | .inr (.inl (some q)) :: r => bif q.1 == ci then X (pc + n, lo, rd m ci q.2 k :: r) m else none
    | _ => none
  | none => none
def sl_wrt (c i k : Nat) (v : sl_V) (r : List sl_V) : Option (sl_PL × M) := match wr m c i k v with
  | some m' => X (pc + n, lo, r) m'
  | none => none
def sl_pok (t : Nat) (v : sl_V) (z : Option (sl_PL × M)) : Option (sl_PL × M) := match t with
  | 0 => (match v with
    | .inl _ => z
    | _ => none)
  | 1 => (match v with
    | .inl x => if x = 0 ∨ x = 1 then z else none
    | _ => none)
  | 2 => (match v with
    | .inr (.inl _) => z
    | _ => none)
  | _ => none
def sl_putf (f : Option (Nat × Nat × Nat)) : Option (sl_PL × M) := match f with
  | some (ci, k, t) => match st with
    | v :: .inr (.inl (some q)) :: r => bif q.1 == ci then sl_pok t v (sl_wrt X pc n lo m wr ci q.2 k v r) else none
    | _ => none
  | none => none
/-- an array's kind of elements: 0 byte, 1 int, 2 boolean, 3 long, 4 references -/
def sl_xld (ok : Nat → Bool) : Option (sl_PL × M) := match st with
  | .inl i :: .inr (.inl (some q)) :: r => bif ok q.1 && !(q.1 == 41) then (if 0 ≤ i ∧ i.toNatClampNeg < ln q.1 q.2 then X (pc + n, lo, rd m q.1 q.2 i.toNatClampNeg :: r) m else none) else none
  | _ => none
def sl_xst (ok : Nat → sl_V → Bool) : Option (sl_PL × M) := match st with
  | v :: .inl i :: .inr (.inl (some q)) :: r => bif ok q.1 v && !(q.1 == 41) then (if 0 ≤ i ∧ i.toNatClampNeg < ln q.1 q.2 then sl_wrt X pc n lo m wr q.1 q.2 i.toNatClampNeg v r else none) else none
  | _ => none
/-- the script: its elements, its length -/
def sl_sld (sL : Nat) (sf : Nat → Int32) : Option (sl_PL × M) := match st with
  | .inl i :: .inr (.inl (some q)) :: r => bif q.1 == 41 then (if 0 ≤ i ∧ i.toNatClampNeg < sL then X (pc + n, lo, .inl (sf i.toNatClampNeg) :: r) m else none) else none
  | _ => none
def sl_sln (sL : Nat) : Option (sl_PL × M) := match st with
  | .inr (.inl (some q)) :: r => bif q.1 == 41 then X (pc + n, lo, .inl (Int32.ofNat sL) :: r) m else none
  | _ => none
def sl_alen : Option (sl_PL × M) := match st with
  | .inr (.inl (some q)) :: r => bif Nat.ble (sl_ak q.1) 4 && !(q.1 == 41) then X (pc + n, lo, .inl (Int32.ofNat (ln q.1 q.2)) :: r) m else none
  | _ => none
def sl_back (rk rc : Nat) (q : sl_PL × M) (r : List sl_V) : Option (sl_PL × M) := match rk with
  | 0 => X (pc + n, lo, r) q.2
  | 1 => X (pc + n, lo, .inl q.1.1 :: r) q.2
  | 2 => X (pc + n, lo, .inr (.inl (some (rc, q.1.2.1))) :: r) q.2
  | _ => if q.1.2.2 = 1 then X (pc + n, lo, .inr (.inl none) :: r) q.2 else X (pc + n, lo, .inr (.inl (some (rc, q.1.2.1))) :: r) q.2
def sl_call (call : Nat → List sl_V → M → Option (sl_PL × M)) (f : Option sl_C) : Option (sl_PL × M) := match f with
  | some (y, na, rk, rc, th, rv) =>
    bif sl_rc rv (st.take na).reverse && ((st.take na).all sl_c1 && (Nat.ble (sl_cs (st.drop na)) 8 && Nat.beq (st.take na).length na)) then
      (match th with
      | 0 => (call y (st.take na).reverse m).bind (fun q => sl_back X pc n lo rk rc q (st.drop na))
      | _ => (call y (st.take na).reverse m).bind (fun q => if q.1.2.2 = 2 then some ((0, 0, 2), q.2) else sl_back X pc n lo rk rc q (st.drop na)))
    else none
  | none => none
def sl_alo (f : Option ((Nat × Nat) × M)) (r : List sl_V) : Option (sl_PL × M) := match f with
  | some (q, m') => X (pc + n, lo, .inr (.inl (some q)) :: r) m'
  | none => none
def sl_newc (al : M → Nat → Int32 → Option ((Nat × Nat) × M)) (f : Option Nat) : Option (sl_PL × M) := match f with
  | some ci => sl_alo X pc n lo (al m ci 0) st
  | none => none
def sl_newa (al : M → Nat → Int32 → Option ((Nat × Nat) × M)) (t : Nat) : Option (sl_PL × M) := match st with
  | .inl x :: r => sl_alo X pc n lo (al m t x) r
  | _ => none
def sl_iret (j : Nat) : Option (sl_PL × M) := match st with
  | [.inl x] => (match j with
    | 1 => some ((x, 0, 0), m)
    | _ => if x = 0 ∨ x = 1 then some ((x, 0, 0), m) else none)
  | _ => none
def sl_aret (j : Nat) : Option (sl_PL × M) := match st with
  | [.inr (.inl (some q))] => bif q.1 == j then some ((0, q.2, 0), m) else none
  | _ => none
def sl_nret (j : Nat) : Option (sl_PL × M) := match st with
  | [.inr (.inl none)] => some ((0, 0, 1), m)
  | [.inr (.inl (some q))] => bif q.1 == j then some ((0, q.2, 0), m) else none
  | _ => none
def sl_vret : Option (sl_PL × M) := match st with
  | [] => some ((0, 0, 0), m)
  | _ => none
def sl_thr : Option (sl_PL × M) := match st with
  | [] => some ((0, 0, 2), m)
  | _ => none
end SLA
def sl_okb (c : Nat) : Bool := match sl_ak c with
  | 0 => true | 2 => true | _ => false
def sl_osi (c : Nat) (v : sl_V) : Bool := match v with
  | .inl _ => sl_ak c == 1
  | _ => false
def sl_osb (c : Nat) (v : sl_V) : Bool := match v with
  | .inl _ => sl_okb c
  | _ => false
def sl_osl (c : Nat) (v : sl_V) : Bool := match v with
  | .inr (.inr _) => sl_ak c == 3
  | _ => false
def sl_osa (c : Nat) (v : sl_V) : Bool := match v with
  | .inr (.inl (some q)) => sl_ak c == 4 && q.1 == 2
  | _ => false
section SLB
variable {M : Type} (tb : Nat → Option sl_E) (fl : Nat → Option (Nat × Nat)) (pf : Nat → Option (Nat × Nat × Nat)) (cl : Nat → Option sl_C) (nw : Nat → Option Nat) (rd : M → Nat → Nat → Nat → sl_V) (wr : M → Nat → Nat → Nat → sl_V → Option M) (al : M → Nat → Int32 → Option ((Nat × Nat) × M)) (ln : Nat → Nat → Nat) (sL : Nat) (sf : Nat → Int32) (call : Nat → List sl_V → M → Option (sl_PL × M)) (X : sl_S → M → Option (sl_PL × M))
def sl_op (k : Nat) (x : Int32) (j n : Nat) (ts : List Nat) (pc : Nat) (lo : List (Option sl_V)) (st : List sl_V) (m : M) : Option (sl_PL × M) :=
  match k with
  | 0 => sl_iload X pc n lo st m j
  | 1 => sl_aload X pc n lo st m j
  | 2 => X (pc + n, lo, .inl x :: st) m
  | 3 => sl_istore X pc n lo st m j
  | 4 => sl_astore X pc n lo st m j
  | 5 => sl_iinc X pc n lo st m j x
  | 6 => sl_bin X pc n lo st m (fun a b => a + b)
  | 7 => sl_bin X pc n lo st m (fun a b => a - b)
  | 8 => sl_bin X pc n lo st m (fun a b => a * b)
  | 9 => sl_dv X pc n lo st m (fun a b => a / b)
  | 10 => sl_dv X pc n lo st m (fun a b => a - a / b * b)
  | 11 => sl_bin X pc n lo st m (fun a b => a &&& b)
  | 12 => sl_bin X pc n lo st m (fun a b => a ||| b)
  | 13 => sl_bin X pc n lo st m (fun a b => a ^^^ b)
  | 14 => sl_bin X pc n lo st m (fun a b => a <<< (b &&& 31))
  | 15 => sl_bin X pc n lo st m (fun a b => a >>> (b &&& 31))
  | 16 => sl_bin X pc n lo st m (fun a b => (a.toUInt32 >>> (b.toUInt32 &&& Int32.toUInt32 31)).toInt32)
  | 17 => sl_un X pc n lo st m (fun a => .inl a.toInt8.toInt32)
  | 18 => sl_un X pc n lo st m (fun a => .inr (.inr a.toInt64))
  | 19 => sl_dup X pc n lo st m
  | 20 => sl_dup2 X pc n lo st m
  | 21 => sl_pop X pc n lo st m
  | 22 => sl_ceq X pc n lo st m j
  | 23 => sl_cne X pc n lo st m j
  | 24 => sl_clt X pc n lo st m j
  | 25 => sl_cge X pc n lo st m j
  | 26 => sl_cgt X pc n lo st m j
  | 27 => sl_cle X pc n lo st m j
  | 28 => sl_zeq X pc n lo st m j
  | 29 => sl_zne X pc n lo st m j
  | 30 => sl_zlt X pc n lo st m j
  | 31 => sl_zge X pc n lo st m j
  | 32 => sl_zgt X pc n lo st m j
  | 33 => sl_zle X pc n lo st m j
  | 34 => X (j, lo, st) m
  | 35 => sl_getf X pc n lo st m rd (fl j)
  | 36 => sl_putf X pc n lo st m wr (pf j)
  | 37 => sl_xld X pc n lo st m rd ln (fun c => sl_ak c == 1)
  | 38 => sl_xld X pc n lo st m rd ln sl_okb
  | 39 => sl_xld X pc n lo st m rd ln (fun c => sl_ak c == 4)
  | 40 => sl_xld X pc n lo st m rd ln (fun c => sl_ak c == 3)
  | 41 => sl_xst X pc n lo st m wr ln sl_osi
  | 42 => sl_xst X pc n lo st m wr ln sl_osb
  | 43 => sl_xst X pc n lo st m wr ln sl_osa
  | 44 => sl_xst X pc n lo st m wr ln sl_osl
  | 45 => sl_alen X pc n lo st m ln
  | 46 => sl_call X pc n lo st m call (cl j)
  | 47 => sl_iret st m j
  | 48 => sl_aret st m j
  | 49 => sl_nret st m j
  | 50 => sl_vret st m
  | 51 => X (pc + n, lo, .inr (.inl none) :: st) m
  | 52 => sl_ifn X pc n lo st m j
  | 53 => sl_ifnn X pc n lo st m j
  | 54 => sl_newc X pc n lo st m al (nw j)
  | 55 => sl_newa X pc n lo st m al j
  | 56 => sl_thr st m
  | 57 => sl_tsw X lo st m j ts
  | 58 => sl_lcmp X pc n lo st m
  | 59 => sl_oi X pc n lo st m
  | 60 => X (pc + n, lo, .inl x :: st) m
  | 61 => sl_newa X pc n lo st m al 104
  | 62 => sl_sld X pc n lo st m sL sf
  | 63 => sl_sln X pc n lo st m sL
  | _ => none
def sl_step (s : sl_S) (m : M) : Option (sl_PL × M) := match tb s.1 with
  | some (k, x, j, n, ts) => sl_op fl pf cl nw rd wr al ln sL sf call X k x j n ts s.1 s.2.1 s.2.2 m
  | none => none
variable (stop : Nat → Bool) (mask : Nat → List Bool)
def sl_run (C : sl_S → M → Option (sl_PL × M)) : Nat → sl_S → M → Option (sl_PL × M)
  | 0, _, _ => none
  | n + 1, s, m => sl_step tb fl pf cl nw rd wr al ln sL sf call (fun s' m' => bif stop s'.1 then C s' m' else sl_run C n s' m') s m
def sl_mask : List Bool → List (Option sl_V) → List (Option sl_V)
  | b :: bs, v :: vs => (bif b then v else none) :: sl_mask bs vs
  | _, _ => []
/-- from one stop to the next; what isn't wanted behind a stop is forgotten -/
def sl_B : Nat → sl_S → M → Option (sl_PL × M)
  | 0, _, _ => none
  | n + 1, s, m => sl_run tb fl pf cl nw rd wr al ln sL sf call stop (fun s' m' => sl_B n (s'.1, sl_mask (mask s'.1) s'.2.1, s'.2.2) m') 400 s m
def sl_lo (nL : Nat) (as : List sl_V) : List (Option sl_V) := as.map some ++ List.replicate (nL - as.length) none
def sl_F (nL : Nat) (as : List sl_V) (m : M) : Option (sl_PL × M) := sl_B tb fl pf cl nw rd wr al ln sL sf call stop mask 100000 (0, sl_lo nL as, []) m
end SLB
