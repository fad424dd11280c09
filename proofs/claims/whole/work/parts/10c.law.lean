theorem sl_ofWH {l : Launch} {y : MethodName} {ws' : List Cond} {rm : Room} {Pc : Array Value → State → Prop} {Qc : Array Value → State → Outcome → State → Prop} {mc ms : Nat} {free : Addr → Prop} {cc : ByteArray} {maxL : Nat} {ret : Option FieldType} {hh : List (Nat × Nat × Nat × Nat)} (hy : plainFor y = true)
    (k : ∀ p e s m args below meth c s₁, BodyLoose p l y (headSpec (Cond.codeWith y cc maxL ret hh :: ws') rm) cc maxL ret e s m args below meth c s₁ → c.maxLocals = maxL → c.exceptionTable.toList = tableOf hh → Pc args s →
      W p l e (headSpec (Cond.codeWith y cc maxL ret hh :: ws') rm).room s m args below meth c s.heap [] 0 0 (MQ below Qc args s mc ms free) (entryFrame m args maxL)) : Met l y (Cond.codeWith y cc maxL ret hh :: ws') rm Pc Qc mc ms free := by
  apply MetFree.of_bodySF (code := cc) (maxLocals := maxL) (ret := ret) hy
  · intro as1 s1 m1 hb hn
    obtain ⟨m9, mt, co, hn9, q1, q2, q3, q4, -, q5, q6, -⟩ := Cond.codeWith_spec (atoms_spec hb _ List.mem_cons_self)
    cases hn.symm.trans hn9
    exact ⟨mt, co, q1, q2, q3, q4, q5, q6⟩
  · intro p e s m args below meth c s₁ B hml hP _
    obtain ⟨t, st, o, b1, b2, b3⟩ := k p e s m args below meth c s₁ B hml (vx_table (x := y) B (atoms_spec B.pre _ List.mem_cons_self)) hP s₁ (by rw [B.state]; rfl) (Stand.of_body B)
    exact ⟨t, o, st, b1, b2, b3.1, b3.2⟩
