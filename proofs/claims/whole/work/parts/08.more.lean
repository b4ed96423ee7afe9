/-- the same for the JDK's own methods -/
theorem g_bodyF {l : Launch} {y : MethodName} {wy : Cond} {rm : Room} {av : (Nat → Nat) → List Value} {G : gT} {O : Int64} {o : gO} {G' : gT} {O' : Int64} {cc : ByteArray} {maxL : Nat} {ret : Option FieldType} {tb : List ExceptionTableEntry}
    (hy : plainFor y = true) (hw : gCode wy y cc maxL ret tb) (hlen : ∀ ad, (lg_sl (av ad)).length ≤ maxL)
    (body : ∀ (p : Program) (e : Env) (s0 s : State) (m : MethodId) (args : Array Value) (below : List Frame) (meth : Method) (c : Code) (D : va_G) (cI cL : ClassId) (ad : Nat → Nat), CallFix p m c cc maxL s args gtb y.cls → meth.sig.returnType = ret → meth.locks = false → c.exceptionTable.toList = tb → gB s0 s D cI cL ad G O s.heap [] →
      ∀ ls : Array Slot, lv_has ls maxL (lv_args 0 (av ad)) → W p l e rm s m args below meth c s.heap [] 0 0 (gE s0 below args s D cI cL ad rm.cells rm.slots o G' O') (F0 m 0 ls [])) : gMet l y wy rm av G O o G' O' := by
  intro s0 D cI cL ad sz
  refine MetFree.of_bodySF (code := cc) (maxLocals := maxL) (ret := ret) hy ?_ ?_
  · intro args s m h hn
    obtain ⟨m', meth, c, hn', h1, h2, h3, h4, h5, h6, -, -⟩ := hw args s (atoms_spec (ws := [wy]) h _ List.mem_cons_self)
    cases hn.symm.trans hn'
    exact ⟨meth, c, h1, h2, h3, h4, h5, h6⟩
  · intro p e s m args below meth c s₁ B hml hPP _
    obtain ⟨rfl, rfl, hP, hK, hD, hX⟩ := hPP
    have X0 : Stand p l e (headSpec [wy] rm).room s m (av ad).toArray below meth c s₁ [] 0 0 := Stand.of_body B
    obtain ⟨m', meth', c', hn', h1, h2, h3, h4, h5, h6, h7, -⟩ := hw (av ad).toArray s (atoms_spec (ws := [wy]) B.pre _ List.mem_cons_self)
    cases B.named.symm.trans hn'
    cases B.method.symm.trans h1
    cases X0.code.symm.trans h2
    have hh0 : s₁.heap = s.heap := by rw [B.state]; rfl
    have hC : CallFix p m c cc maxL s (av ad).toArray gtb y.cls := ⟨B.exec, B.bytes, hml, findClass_of_methodNamed B.named, g_word hX⟩
    have hl := lv_entry (av ad) (n := maxL) (hlen ad)
    have K := body p e s0 s m (av ad).toArray below meth c D cI cL ad hC B.returns B.notSynchronized h7 ⟨hP, hK, hD, va_S.rf, hX⟩ _ hl
    obtain ⟨t, a1, oc, b1, b2, b3⟩ := K s₁ hh0 X0
    refine ⟨t, oc, ?_, b1, b2, b3⟩
    rw [lg_entry_eq]
    exact a1
