/-! Starts, ends and calls of methods over the one world (own rows, over the library's Stand.outOf, outOfThrown, leaveThrown). -/
theorem gwd_ad {ad : Nat → Nat} {cI cL : ClassId} {G : gT} {O : Int64} : ∀ (k : Nat) (q : Nat × va_E), (gwd ad cI cL G O)[k]? = some q → k < 25 ∧ q.1 = ad k
  | 0, q, h => by cases h; exact ⟨by decide, rfl⟩
  | 1, q, h => by cases h; exact ⟨by decide, rfl⟩
  | 2, q, h => by cases h; exact ⟨by decide, rfl⟩
  | 3, q, h => by cases h; exact ⟨by decide, rfl⟩
  | 4, q, h => by cases h; exact ⟨by decide, rfl⟩
  | 5, q, h => by cases h; exact ⟨by decide, rfl⟩
  | 6, q, h => by cases h; exact ⟨by decide, rfl⟩
  | 7, q, h => by cases h; exact ⟨by decide, rfl⟩
  | 8, q, h => by cases h; exact ⟨by decide, rfl⟩
  | 9, q, h => by cases h; exact ⟨by decide, rfl⟩
  | 10, q, h => by cases h; exact ⟨by decide, rfl⟩
  | 11, q, h => by cases h; exact ⟨by decide, rfl⟩
  | 12, q, h => by cases h; exact ⟨by decide, rfl⟩
  | 13, q, h => by cases h; exact ⟨by decide, rfl⟩
  | 14, q, h => by cases h; exact ⟨by decide, rfl⟩
  | 15, q, h => by cases h; exact ⟨by decide, rfl⟩
  | 16, q, h => by cases h; exact ⟨by decide, rfl⟩
  | 17, q, h => by cases h; exact ⟨by decide, rfl⟩
  | 18, q, h => by cases h; exact ⟨by decide, rfl⟩
  | 19, q, h => by cases h; exact ⟨by decide, rfl⟩
  | 20, q, h => by cases h; exact ⟨by decide, rfl⟩
  | 21, q, h => by cases h; exact ⟨by decide, rfl⟩
  | 22, q, h => by cases h; exact ⟨by decide, rfl⟩
  | 23, q, h => by cases h; exact ⟨by decide, rfl⟩
  | 24, q, h => by cases h; exact ⟨by decide, rfl⟩
  | k + 25, q, h => by simp [gwd] at h
theorem g_Dn {ad : Nat → Nat} {cI cL : ClassId} {G G' : gT} {O O' : Int64} {a b : Nat} (h : va_D (gA ad a) (gwd ad cI cL G O)) : va_D (gA ad b) (gwd ad cI cL G O) := ⟨h.1, fun k q hk => Or.inl ⟨k, (gwd_ad k q hk).1, (gwd_ad k q hk).2⟩⟩
/-- what a method's code word says -/
def gCode (wy : Cond) (y : MethodName) (cc : ByteArray) (maxL : Nat) (ret : Option FieldType) (tb : List ExceptionTableEntry) : Prop :=
  ∀ (args : Array Value) (s : State), wy.before args s = true → ∃ m meth c, s.methodNamed? y = some m ∧ s.vm.method? m = some meth ∧ meth.code = some c ∧ c.code = cc ∧ c.maxLocals = maxL ∧ meth.sig.returnType = ret ∧ meth.locks = false ∧ c.exceptionTable.toList = tb ∧ parseMethodDescriptor y.desc = some meth.sig
theorem gCode_of (y : MethodName) (cc : ByteArray) (maxL : Nat) (ret : Option FieldType) : gCode (Cond.code y cc maxL ret) y cc maxL ret [] := by
  intro args s h
  obtain ⟨m, hn⟩ := Cond.code_named h
  obtain ⟨meth, c, h1, h2, h3, h4, h5, h6, h7, h8⟩ := Cond.code_spec hn h
  refine ⟨m, meth, c, hn, h1, h2, h3, h4, h5, h6, ?_, h8⟩
  have h0 : c.exceptionTable.size = 0 := by simpa [Array.isEmpty] using h7
  exact List.eq_nil_of_length_eq_zero (by simpa using h0)
theorem gCode_with (y : MethodName) (cc : ByteArray) (maxL : Nat) (ret : Option FieldType) (hh : List (Nat × Nat × Nat × Nat)) : gCode (Cond.codeWith y cc maxL ret hh) y cc maxL ret (tableOf hh) := by
  intro args s h
  obtain ⟨m, meth, c, hn, h1, h2, h3, h4, h5, h6, h7, h8⟩ := Cond.codeWith_spec h
  refine ⟨m, meth, c, hn, h1, h2, h3, h4, h6, h7, ?_, h8⟩
  rw [← h5]
  exact (table_eq _).symm
/-- A METHOD's BODY gives its contract -/
theorem g_body {l : Launch} {y : MethodName} {wy : Cond} {rm : Room} {av : (Nat → Nat) → List Value} {G : gT} {O : Int64} {o : gO} {G' : gT} {O' : Int64} {cc : ByteArray} {maxL : Nat} {ret : Option FieldType} {tb : List ExceptionTableEntry}
    (hy : plainName y.cls = true) (hw : gCode wy y cc maxL ret tb) (hlen : ∀ ad, (lg_sl (av ad)).length ≤ maxL)
    (body : ∀ (p : Program) (e : Env) (s0 s : State) (m : MethodId) (args : Array Value) (below : List Frame) (meth : Method) (c : Code) (D : va_G) (cI cL : ClassId) (ad : Nat → Nat), CallFix p m c cc maxL s args gtb y.cls → meth.sig.returnType = ret → meth.locks = false → c.exceptionTable.toList = tb → gB s0 s D cI cL ad G O s.heap [] →
      ∀ ls : Array Slot, lv_has ls maxL (lv_args 0 (av ad)) → W p l e rm s m args below meth c s.heap [] 0 0 (gE s0 below args s D cI cL ad rm.cells rm.slots o G' O') (F0 m 0 ls [])) : gMet l y wy rm av G O o G' O' := by
  intro s0 D cI cL ad sz
  refine MetFree.of_bodyS (code := cc) (maxLocals := maxL) (ret := ret) hy ?_ ?_
  · intro args s m h hn
    obtain ⟨m', meth, c, hn', h1, h2, h3, h4, h5, h6, -, -⟩ := hw args s (atoms_spec (ws := [wy]) h _ List.mem_cons_self)
    cases hn.symm.trans hn'
    exact ⟨meth, c, h1, h2, h3, h4, h5, h6⟩
  · intro p e s m args below meth c s₁ B hml hPP _
    obtain ⟨rfl, rfl, hP, hK, hD, hX⟩ := hPP
    have X0 : Stand p l e (headSpec [wy] rm).room s m (av ad).toArray below meth c s₁ [] 0 0 := Stand.of_body B
    obtain ⟨m', meth', c', hn', h1, h2, h3, h4, h5, h6, h7, -⟩ := hw (av ad).toArray s (atoms_spec (ws := [wy]) B.pre _ List.mem_cons_self)
    cases B.named.symm.trans hn'
    cases B.method.symm.trans h1
    cases X0.code.symm.trans h2
    have hh0 : s₁.heap = s.heap := by rw [B.state]; rfl
    have hC : CallFix p m c cc maxL s (av ad).toArray gtb y.cls := ⟨B.exec, B.bytes, hml, findClass_of_methodNamed B.named, g_word hX⟩
    have hl := lv_entry (av ad) (n := maxL) (hlen ad)
    have K := body p e s0 s m (av ad).toArray below meth c D cI cL ad hC B.returns B.notSynchronized h7 ⟨hP, hK, hD, va_S.rf, hX⟩ _ hl
    obtain ⟨t, a1, oc, b1, b2, b3⟩ := K s₁ hh0 X0
    refine ⟨t, oc, ?_, b1, b2, b3⟩
    rw [lg_entry_eq]
    exact a1
section GEnds
variable {p : Program} {l : Launch} {e : Env} {R : Room} {s0 s : State} {m : MethodId} {args : Array Value} {below : List Frame} {meth : Method} {c : Code} {H : Heap} {locs : List Loc} {cells slots mc ms : Nat} {Q : State → Prop} {cc : ByteArray} {nL pc : Nat} {ls : Array Slot} {rest : List Value} {own : String} {D : va_G} {cI cL : ClassId} {ad : Nat → Nat} {G : gT} {O : Int64}
theorem g_gW (hB : gB s0 s D cI cL ad G O H locs) {t : State} (ht : t.heap = H) (hW : s.WarmedH t.vm) : gW s0 D cI cL ad s.heap.size G O t :=
  ⟨by rw [ht]; exact hB.1, va_K.moved hW.alike hB.2.1, hB.2.2.1, gX_moved hB.2.2.2.2 hB.2.2.2.1 ht hW⟩
theorem g_MQ {v : Option Value} {a : Array Value} (t : State) (h : MQ below (fun _ st oc t => oc = .returned v ∧ va_F (gA ad s.heap.size) st t ∧ gW s0 D cI cL ad s.heap.size G O t) a s mc ms (gA ad s.heap.size) t) : gE s0 below a s D cI cL ad mc ms (.inl v) G O t := by
  obtain ⟨oc, h1, h2, ⟨h3, h4, h5⟩, L, ⟨-, h6, h7⟩, h8⟩ := h
  exact ⟨oc, h1, h2, ⟨L, h6, h7, h8⟩, h4, h5, h3⟩
theorem g_iret (hC : CallFix p m c cc nL s args gtb own) (hB : gB s0 s D cI cL ad G O H locs) (hr : meth.sig.returnType = some .int) (hlk : meth.locks = false) (hc : cells ≤ mc) (hs : slots ≤ ms) {v : Int32} {o : gO} {G' : gT} (ho : o = .inl (some (.int v))) (hG : G' = G) (hdg : decode cc pc = .ok (.ireturn, 1)) :
    W p l e R s m args below meth c H locs cells slots (gE s0 below args s D cI cL ad mc ms o G' O) (F0 m pc ls [.int v]) := by
  subst ho
  subst hG
  exact W.widen hc hs (W_mono g_MQ (W.iret (v := v) hC.1 hC.2.1 hr (fun t ht hW => ⟨rfl, hB.2.2.2.1.F ht, g_gW hB ht hW⟩) hB.2.2.2.1.2.2 hdg hlk))
theorem g_zret (hC : CallFix p m c cc nL s args gtb own) (hB : gB s0 s D cI cL ad G O H locs) (hr : meth.sig.returnType = some .boolean) (hlk : meth.locks = false) (hc : cells ≤ mc) (hs : slots ≤ ms) {v : Int32} {o : gO} {G' : gT} (hv : v = 0 ∨ v = 1) (ho : o = .inl (some (.int v))) (hG : G' = G) (hdg : decode cc pc = .ok (.ireturn, 1)) :
    W p l e R s m args below meth c H locs cells slots (gE s0 below args s D cI cL ad mc ms o G' O) (F0 m pc ls [.int v]) := by
  subst ho
  subst hG
  exact W.widen hc hs (W_mono g_MQ (W.zret (v := v) (ty := .boolean) hC.1 hC.2.1 hr (by rcases hv with rfl | rfl <;> decide +kernel) (fun t ht hW => ⟨rfl, hB.2.2.2.1.F ht, g_gW hB ht hW⟩) hB.2.2.2.1.2.2 hdg hlk))
theorem g_vret (hC : CallFix p m c cc nL s args gtb own) (hB : gB s0 s D cI cL ad G O H locs) (hr : meth.sig.returnType = none) (hlk : meth.locks = false) (hc : cells ≤ mc) (hs : slots ≤ ms) {o : gO} {G' : gT} (ho : o = .inl none) (hG : G' = G) (hdg : decode cc pc = .ok (.return_, 1)) :
    W p l e R s m args below meth c H locs cells slots (gE s0 below args s D cI cL ad mc ms o G' O) (F0 m pc ls []) := by
  subst ho
  subst hG
  exact W.widen hc hs (W_mono g_MQ (W.vret hC.1 hC.2.1 hr (fun t ht hW => ⟨rfl, hB.2.2.2.1.F ht, g_gW hB ht hW⟩) hB.2.2.2.1.2.2 hdg hlk))
end GEnds
section GCall
variable {p : Program} {l : Launch} {e : Env} {R : Room} {s0 s : State} {m : MethodId} {args : Array Value} {below : List Frame} {meth : Method} {c : Code} {H : Heap} {locs : List Loc} {cells slots mc ms : Nat} {Q : State → Prop} {cc : ByteArray} {nL pc : Nat} {ls : Array Slot} {rest : List Value} {own : String} {D : va_G} {cI cL : ClassId} {ad : Nat → Nat} {G : gT} {O : Int64}
/-- the frame g, q thrown over it -/
def gTh (p : Program) (l : Launch) (e : Env) (R : Room) (s : State) (m : MethodId) (args : Array Value) (below : List Frame) (meth : Method) (c : Code) (H : Heap) (locs : List Loc) (cells slots : Nat) (Q : State → Prop) (g : JFrame) (q : Addr) : Prop :=
  ∀ T : State, T.heap = H → Stand p l e R s m args below meth c T locs cells slots → ∃ t, Steps p.tables e below ((T.setTop g).pushFrame (.throwing q)) t ∧ Q t
theorem g_inv {y : MethodName} {wy : Cond} {rm : Room} {av : (Nat → Nat) → List Value} {o : gO} {G' : gT} {O' : Int64} {T : State} {g : JFrame} {ig : Instr} {len : Nat} {mk : MethodId} {methk : Method} {ck : Code} {k : Class}
    (hM : gMet l y wy rm av G O o G' O') (X : Stand p l e R s m args below meth c T locs cells slots) (hT : T.heap = H) (hB : gB s0 s D cI cL ad G O H locs)
    (hg : g.method = m) (hsize : g.locals.size = c.maxLocals) (hdg : decode c.code g.pc = .ok (ig, len))
    (hn : T.methodNamed? y = some mk) (hmk : T.vm.method? mk = some methk) (hck : methk.code = some ck) (hk : T.vm.classes[mk.cls]? = some k) (hki : k.init = .initialized)
    (hwy : ∀ a, wy.before a T = true)
    (hfr : rm.frames + 1 ≤ R.frames) (hlo : 2 * g.monitorRoom + (g.stack.map fun v => v.category).sum + (ck.maxLocals + 11) + rm.locals ≤ R.locals) (hcs : cells + rm.cells ≤ R.cells) (hss : slots + rm.slots ≤ R.slots) :
    ∃ (T' : State) (locs' : List Loc), Stand p l e R s m args below meth c T' locs' (cells + rm.cells) (slots + rm.slots) ∧ gB s0 s D cI cL ad G' O' T'.heap locs' ∧
      ((∃ v, o = .inl v ∧ Steps p.tables e below (doInvoke e (T.setTop g) [] mk (av ad).toArray).1 (T'.setTop { g with pc := g.pc + len, stack := v.toList ++ g.stack })) ∨
       (∃ (E : String) (q : Nat) (ce : Cell), o = .inr E ∧ T'.heap[q]? = some ce ∧ ce.vm = .none ∧ s.vm.findClass E = some ce.cls ∧ Steps p.tables e below (doInvoke e (T.setTop g) [] mk (av ad).toArray).1 ((T'.setTop g).pushFrame (.throwing q)))) := by
  obtain ⟨hP, hK, hD, hS, hX⟩ := id hB
  have hAt : At T g.method c below := by rw [hg]; exact X.here
  have hfrm : (T.setTop g).frames = .java g :: below := by rw [State.frames_setTop' g hAt.top, X.tail]
  have hpre : (headSpec [wy] rm).pre.before (av ad).toArray T = true := atoms_intro (fun w hw => by rw [List.mem_singleton.mp hw]; exact hwy _)
  have happ : (headSpec [wy] rm).appliesLoose y e.platform (T.calling g mk (av ad).toArray) = true :=
    Spec.appliesLoose_calling (g := g) hAt hdg hn hk hki (X.room_calling (g := g) (R' := rm) hsize hmk hck hfr hlo hcs hss) hpre
  have hgw : gW s0 D cI cL ad H.size G O (T.calling g mk (av ad).toArray) :=
    ⟨by rw [← hT] at hP; exact hP, va_K.moved X.warmed.alike hK, g_Dn (G' := G) (O' := O) hD, gX_moved hX hS hT X.warmed⟩
  obtain ⟨oc, t, hst, hrun, hend, hq⟩ := Steps.callFree (hM s0 D cI cL ad H.size) p X.admits X.cas X.clock (acts := []) (mid := [.java g]) (below := below) hfrm happ ⟨rfl, by rw [← hT]; rfl, hgw⟩ trivial
  obtain ⟨⟨L, hW, hsame, hL⟩, hF, hgw', hout⟩ := hq
  rw [hfrm] at hend
  have hF : va_F (gA ad H.size) (T.calling g mk (av ad).toArray) t := hF
  have hTH : (T.calling g mk (av ad).toArray).heap = H := hT
  have hz : H.size ≤ t.heap.size := by rw [← hTH]; exact hF.1
  have hle : s.heap.size ≤ H.size := hS.1
  have hB' : ∀ T' : State, T'.heap = t.heap → gB s0 s D cI cL ad G' O' T'.heap (locs ++ L) := by
    intro T' hh
    refine ⟨by rw [hh]; exact hgw'.1, hK, g_Dn (G' := G) (O' := O) hgw'.2.2.1, ⟨by rw [hh]; omega, fun q h1 h2 => ?_, fun z hz' => ?_⟩, hX⟩
    · have h3 : t.heap[q]? = H[q]? := by
        have := hF.2 q (by rw [hTH]; omega) (fun h => h2 (gA_mono hle h))
        rw [hTH] at this
        exact this
      rw [hh, h3]
      exact hS.2.1 q h1 h2
    · rcases List.mem_append.mp hz' with h | h
      · exact hS.2.2 z h
      · exact gA_mono hle (hL z h)
  cases o with
  | inl v =>
    have hoc : oc = .returned v := hout
    subst hoc
    obtain ⟨T', X', -, -, ht⟩ := X.outOf hg hdg hend hW hsame
    have hh : T'.heap = t.heap := by rw [ht]; rfl
    refine ⟨T', locs ++ L, X', hB' T' hh, Or.inl ⟨v, rfl, ?_⟩⟩
    rw [← ht]
    exact hst
  | inr E =>
    obtain ⟨q, ce, hoc, hce, hcv, hcl⟩ := hout
    subst hoc
    obtain ⟨T', X', -, -, ht⟩ := X.outOfThrown hg hend hW hsame
    have hh : T'.heap = t.heap := by rw [ht, State.pushFrame]; rfl
    have hcl' : s.vm.findClass E = some ce.cls := by
      have h1 : T.vm.findClass E = some ce.cls := hcl
      rw [X.warmed.alike.findClass] at h1
      exact h1
    refine ⟨T', locs ++ L, X', hB' T' hh, Or.inr ⟨E, q, ce, rfl, by rw [hh]; exact hce, hcv, hcl', ?_⟩⟩
    rw [← ht]
    exact hst
/-- what is known of a callee: its words, its name -/
def gKey (y : MethodName) (wy : Cond) (maxL n : Nat) : Prop := wy ∈ gtb ∧ (∃ cc ret tb, gCode wy y cc maxL ret tb) ∧ Cond.initialized y.cls ∈ gtb ∧ (y.cls ≠ "java/lang/invoke/MethodHandle" ∧ y.cls ≠ "java/lang/invoke/VarHandle") ∧ (parseMethodDescriptor y.desc).map (fun d => d.parameters.length) = some n
theorem g_callV0 {y : MethodName} {wy : Cond} {rm : Room} {av : (Nat → Nat) → List Value} {o : gO} {G' : gT} {O' : Int64} {b index maxL n : Nat} {As st : List Value}
    (hC : CallFix p m c cc nL s args gtb own) (hB : gB s0 s D cI cL ad G O H locs) (hM : gMet l y wy rm av G O o G' O') (hav : av ad = .ref b :: As) (hk : gKey y wy maxL n) (hn : As.length = n) (hi : Cond.instanceMethod y ∈ gtb) (hs : Cond.selects y.cls y y ∈ gtb) (hl : Cond.methodLink own index y ∈ gtb)
    (hrec : ∃ cellB : Cell, H[b]? = some cellB ∧ cellB.vm.isStatics = false ∧ s.vm.findClass y.cls = some cellB.cls)
    (hst : st = As.reverse ++ .ref b :: rest) (hsz : ls.size = nL) (hR : rm.frames + 1 ≤ R.frames ∧ (rest.map fun v => v.category).sum + (maxL + 11) + rm.locals ≤ R.locals ∧ cells + rm.cells ≤ R.cells ∧ slots + rm.slots ≤ R.slots)
    (hdg : decode cc pc = .ok (.invokevirtual index, 3))
    (kn : ∀ (v : Option Value) (H1 : Heap) (locs1 : List Loc), o = .inl v → gB s0 s D cI cL ad G' O' H1 locs1 → W p l e R s m args below meth c H1 locs1 (cells + rm.cells) (slots + rm.slots) Q (F0 m (pc + 3) ls (v.toList ++ rest)))
    (kt : ∀ (E : String) (q : Nat) (ce : Cell) (H1 : Heap) (locs1 : List Loc), o = .inr E → H1[q]? = some ce → ce.vm = .none → s.vm.findClass E = some ce.cls → gB s0 s D cI cL ad G' O' H1 locs1 → gTh p l e R s m args below meth c H1 locs1 (cells + rm.cells) (slots + rm.slots) Q (F0 m pc ls rest) q) :
    W p l e R s m args below meth c H locs cells slots Q (F0 m pc ls st) := by
  subst hst
  intro T hT X
  obtain ⟨hx, hb, hml, hown, hts⟩ := hC
  obtain ⟨hwy, ⟨cy, ry, ty, hcode⟩, hini, hy, hpar⟩ := hk
  obtain ⟨mk, methM, hnamed, hmethM, hstM, habM⟩ := Cond.instanceMethod_spec (hts _ hi)
  obtain ⟨m9, meth9, ck, hn9, hm9, hck, -, hckL, -, -, -, hsig⟩ := hcode args s (hts _ hwy)
  cases hnamed.symm.trans hn9
  cases hmethM.symm.trans hm9
  obtain ⟨cellB, hcB, hoB, hclB⟩ := hrec
  obtain ⟨c2, r2, m2, q1, q2, q3, q4, kP, hkP, hkPi⟩ := Cond.selects_spec (hts _ hs)
  cases hclB.symm.trans q1
  cases (State.methodFound?_of_named hnamed hy).symm.trans q2
  cases hnamed.symm.trans q3
  have hselP : selectMethod e.platform s.vm cellB.cls mk = .method mk := by rw [Launch.admits_selectMethod X.admits]; exact q4
  have hlen : As.length = methM.sig.parameters.length := by
    rw [hsig] at hpar
    rw [hn]
    exact (Option.some.inj hpar).symm
  obtain ⟨vm₁, X₁, hstep₁⟩ := X.invokevirtual hx hown (hts _ hl) hnamed hmethM hstM hkP hkPi hy (a := b) (cell := cellB) (by rw [hT]; exact hcB)
    (fun z h => by rw [h] at hoB; cases hoB) hselP hmethM habM hkP hkPi (g := F0 m pc ls (As.reverse ++ .ref b :: rest)) rfl (argsL := As) (rest := rest) hlen rfl (by rw [hb]; exact hdg)
  obtain ⟨kP', hkP', he⟩ := X₁.warmed.alike.2.2 _ _ hkP
  have hinitP : kP.init = .initialized := Cond.initialized_spec (findClass_of_methodNamed hnamed) hkP (hts _ hini)
  obtain ⟨T', locs', X', hB', hcase⟩ := g_inv (g := F0 m pc ls rest) hM X₁ hT hB rfl (hsz.trans hml.symm) (by rw [hb]; exact hdg) (X₁.named hnamed) (by rw [X₁.warmed.alike.method?]; exact hmethM) hck hkP' (by rw [he]; exact hinitP)
    (fun a => word_at X₁.warmed (good_of_word (List.mem_filter.mp hwy).2) (hts _ hwy)) hR.1 (by rw [hckL]; show 2 * 0 + (rest.map fun v => v.category).sum + (maxL + 11) + rm.locals ≤ R.locals; have := hR.2.1; omega) hR.2.2.1 hR.2.2.2
  rw [hav] at hcase
  rcases hcase with ⟨v, ho, st⟩ | ⟨E, q, ce, ho, hce, hcv, hcl, st⟩
  · obtain ⟨t, a1, b1⟩ := kn v T'.heap locs' ho hB' T' rfl X'
    exact ⟨t, hstep₁ _ (fun acts => by rw [doInvoke_state]; exact st.trans a1), b1⟩
  · obtain ⟨t, a1, b1⟩ := kt E q ce T'.heap locs' ho hce hcv hcl hB' T' rfl X'
    exact ⟨t, hstep₁ _ (fun acts => by rw [doInvoke_state]; exact st.trans a1), b1⟩
theorem g_callS0 {y : MethodName} {wy : Cond} {rm : Room} {av : (Nat → Nat) → List Value} {o : gO} {G' : gT} {O' : Int64} {index maxL n : Nat} {As st : List Value}
    (hC : CallFix p m c cc nL s args gtb own) (hB : gB s0 s D cI cL ad G O H locs) (hM : gMet l y wy rm av G O o G' O') (hav : av ad = As) (hk : gKey y wy maxL n) (hn : As.length = n) (hi : Cond.static y ∈ gtb) (hl : Cond.methodLink own index y ∈ gtb)
    (hst : st = As.reverse ++ rest) (hsz : ls.size = nL) (hR : rm.frames + 1 ≤ R.frames ∧ (rest.map fun v => v.category).sum + (maxL + 11) + rm.locals ≤ R.locals ∧ cells + rm.cells ≤ R.cells ∧ slots + rm.slots ≤ R.slots)
    (hdg : decode cc pc = .ok (.invokestatic index, 3))
    (kn : ∀ (v : Option Value) (H1 : Heap) (locs1 : List Loc), o = .inl v → gB s0 s D cI cL ad G' O' H1 locs1 → W p l e R s m args below meth c H1 locs1 (cells + rm.cells) (slots + rm.slots) Q (F0 m (pc + 3) ls (v.toList ++ rest)))
    (kt : ∀ (E : String) (q : Nat) (ce : Cell) (H1 : Heap) (locs1 : List Loc), o = .inr E → H1[q]? = some ce → ce.vm = .none → s.vm.findClass E = some ce.cls → gB s0 s D cI cL ad G' O' H1 locs1 → gTh p l e R s m args below meth c H1 locs1 (cells + rm.cells) (slots + rm.slots) Q (F0 m pc ls rest) q) :
    W p l e R s m args below meth c H locs cells slots Q (F0 m pc ls st) := by
  subst hst
  intro T hT X
  obtain ⟨hx, hb, hml, hown, hts⟩ := hC
  obtain ⟨hwy, ⟨cy, ry, ty, hcode⟩, hini, hy, hpar⟩ := hk
  obtain ⟨mk, methM, ck, hnamed, hmethM, hck, -, hckL, -, -, -, hsig⟩ := hcode args s (hts _ hwy)
  have hstatic : methM.isStatic = true := Cond.static_spec hnamed hmethM (hts _ hi)
  obtain ⟨kP, hkP, -⟩ := className_of_methodNamed hnamed
  have hinitP : kP.init = .initialized := Cond.initialized_spec (findClass_of_methodNamed hnamed) hkP (hts _ hini)
  have hlen : As.length = methM.sig.parameters.length := by
    rw [hsig] at hpar
    rw [hn]
    exact (Option.some.inj hpar).symm
  obtain ⟨vm₁, X₁, hstep₁⟩ := X.invokestatic hx hown (hts _ hl) hnamed hmethM hstatic hkP hinitP hy (g := F0 m pc ls (As.reverse ++ rest)) rfl (argsL := As) (rest := rest) hlen rfl (by rw [hb]; exact hdg)
  obtain ⟨kP', hkP', he⟩ := X₁.warmed.alike.2.2 _ _ hkP
  obtain ⟨T', locs', X', hB', hcase⟩ := g_inv (g := F0 m pc ls rest) hM X₁ hT hB rfl (hsz.trans hml.symm) (by rw [hb]; exact hdg) (X₁.named hnamed) (by rw [X₁.warmed.alike.method?]; exact hmethM) hck hkP' (by rw [he]; exact hinitP)
    (fun a => word_at X₁.warmed (good_of_word (List.mem_filter.mp hwy).2) (hts _ hwy)) hR.1 (by rw [hckL]; show 2 * 0 + (rest.map fun v => v.category).sum + (maxL + 11) + rm.locals ≤ R.locals; have := hR.2.1; omega) hR.2.2.1 hR.2.2.2
  rw [hav] at hcase
  rcases hcase with ⟨v, ho, st⟩ | ⟨E, q, ce, ho, hce, hcv, hcl, st⟩
  · obtain ⟨t, a1, b1⟩ := kn v T'.heap locs' ho hB' T' rfl X'
    exact ⟨t, hstep₁ _ (fun acts => by rw [doInvoke_state]; exact st.trans a1), b1⟩
  · obtain ⟨t, a1, b1⟩ := kt E q ce T'.heap locs' ho hce hcv hcl hB' T' rfl X'
    exact ⟨t, hstep₁ _ (fun acts => by rw [doInvoke_state]; exact st.trans a1), b1⟩
theorem g_callV {y : MethodName} {wy : Cond} {rm : Room} {av : (Nat → Nat) → List Value} {v : Option Value} {G' : gT} {O' : Int64} {b index maxL n : Nat} {As st : List Value}
    (hC : CallFix p m c cc nL s args gtb own) (hB : gB s0 s D cI cL ad G O H locs) (hM : gMet l y wy rm av G O (.inl v) G' O') (hav : av ad = .ref b :: As) (hk : gKey y wy maxL n) (hn : As.length = n) (hi : Cond.instanceMethod y ∈ gtb) (hs : Cond.selects y.cls y y ∈ gtb) (hl : Cond.methodLink own index y ∈ gtb)
    (hrec : ∃ cellB : Cell, H[b]? = some cellB ∧ cellB.vm.isStatics = false ∧ s.vm.findClass y.cls = some cellB.cls)
    (hst : st = As.reverse ++ .ref b :: rest) (hsz : ls.size = nL) (hR : rm.frames + 1 ≤ R.frames ∧ (rest.map fun v => v.category).sum + (maxL + 11) + rm.locals ≤ R.locals ∧ cells + rm.cells ≤ R.cells ∧ slots + rm.slots ≤ R.slots)
    (hdg : decode cc pc = .ok (.invokevirtual index, 3))
    (kn : ∀ (H1 : Heap) (locs1 : List Loc), gB s0 s D cI cL ad G' O' H1 locs1 → W p l e R s m args below meth c H1 locs1 (cells + rm.cells) (slots + rm.slots) Q (F0 m (pc + 3) ls (v.toList ++ rest))) :
    W p l e R s m args below meth c H locs cells slots Q (F0 m pc ls st) :=
  g_callV0 hC hB hM hav hk hn hi hs hl hrec hst hsz hR hdg (fun v' H1 locs1 ho hB' => by cases ho; exact kn H1 locs1 hB') (fun E q ce H1 locs1 ho => by cases ho)
theorem g_callS {y : MethodName} {wy : Cond} {rm : Room} {av : (Nat → Nat) → List Value} {v : Option Value} {G' : gT} {O' : Int64} {index maxL n : Nat} {As st : List Value}
    (hC : CallFix p m c cc nL s args gtb own) (hB : gB s0 s D cI cL ad G O H locs) (hM : gMet l y wy rm av G O (.inl v) G' O') (hav : av ad = As) (hk : gKey y wy maxL n) (hn : As.length = n) (hi : Cond.static y ∈ gtb) (hl : Cond.methodLink own index y ∈ gtb)
    (hst : st = As.reverse ++ rest) (hsz : ls.size = nL) (hR : rm.frames + 1 ≤ R.frames ∧ (rest.map fun v => v.category).sum + (maxL + 11) + rm.locals ≤ R.locals ∧ cells + rm.cells ≤ R.cells ∧ slots + rm.slots ≤ R.slots)
    (hdg : decode cc pc = .ok (.invokestatic index, 3))
    (kn : ∀ (H1 : Heap) (locs1 : List Loc), gB s0 s D cI cL ad G' O' H1 locs1 → W p l e R s m args below meth c H1 locs1 (cells + rm.cells) (slots + rm.slots) Q (F0 m (pc + 3) ls (v.toList ++ rest))) :
    W p l e R s m args below meth c H locs cells slots Q (F0 m pc ls st) :=
  g_callS0 hC hB hM hav hk hn hi hl hst hsz hR hdg (fun v' H1 locs1 ho hB' => by cases ho; exact kn H1 locs1 hB') (fun E q ce H1 locs1 ho => by cases ho)
theorem g_callVi {y : MethodName} {wy : Cond} {rm : Room} {av : (Nat → Nat) → List Value} {r : Int32} {G' : gT} {O' : Int64} {b index maxL n : Nat} {As st : List Value}
    (hC : CallFix p m c cc nL s args gtb own) (hB : gB s0 s D cI cL ad G O H locs) (hM : gMet l y wy rm av G O (.inl (some (.int r))) G' O') (hav : av ad = .ref b :: As) (hk : gKey y wy maxL n) (hn : As.length = n) (hi : Cond.instanceMethod y ∈ gtb) (hs : Cond.selects y.cls y y ∈ gtb) (hl : Cond.methodLink own index y ∈ gtb)
    (hrec : ∃ cellB : Cell, H[b]? = some cellB ∧ cellB.vm.isStatics = false ∧ s.vm.findClass y.cls = some cellB.cls)
    (hst : st = As.reverse ++ .ref b :: rest) (hsz : ls.size = nL) (hR : rm.frames + 1 ≤ R.frames ∧ (rest.map fun v => v.category).sum + (maxL + 11) + rm.locals ≤ R.locals ∧ cells + rm.cells ≤ R.cells ∧ slots + rm.slots ≤ R.slots)
    (hdg : decode cc pc = .ok (.invokevirtual index, 3))
    (kn : ∀ (H1 : Heap) (locs1 : List Loc), gB s0 s D cI cL ad G' O' H1 locs1 → W p l e R s m args below meth c H1 locs1 (cells + rm.cells) (slots + rm.slots) Q (F0 m (pc + 3) ls (.int r :: rest))) :
    W p l e R s m args below meth c H locs cells slots Q (F0 m pc ls st) :=
  g_callV hC hB hM hav hk hn hi hs hl hrec hst hsz hR hdg kn
theorem g_callVv {y : MethodName} {wy : Cond} {rm : Room} {av : (Nat → Nat) → List Value} {G' : gT} {O' : Int64} {b index maxL n : Nat} {As st : List Value}
    (hC : CallFix p m c cc nL s args gtb own) (hB : gB s0 s D cI cL ad G O H locs) (hM : gMet l y wy rm av G O (.inl none) G' O') (hav : av ad = .ref b :: As) (hk : gKey y wy maxL n) (hn : As.length = n) (hi : Cond.instanceMethod y ∈ gtb) (hs : Cond.selects y.cls y y ∈ gtb) (hl : Cond.methodLink own index y ∈ gtb)
    (hrec : ∃ cellB : Cell, H[b]? = some cellB ∧ cellB.vm.isStatics = false ∧ s.vm.findClass y.cls = some cellB.cls)
    (hst : st = As.reverse ++ .ref b :: rest) (hsz : ls.size = nL) (hR : rm.frames + 1 ≤ R.frames ∧ (rest.map fun v => v.category).sum + (maxL + 11) + rm.locals ≤ R.locals ∧ cells + rm.cells ≤ R.cells ∧ slots + rm.slots ≤ R.slots)
    (hdg : decode cc pc = .ok (.invokevirtual index, 3))
    (kn : ∀ (H1 : Heap) (locs1 : List Loc), gB s0 s D cI cL ad G' O' H1 locs1 → W p l e R s m args below meth c H1 locs1 (cells + rm.cells) (slots + rm.slots) Q (F0 m (pc + 3) ls rest)) :
    W p l e R s m args below meth c H locs cells slots Q (F0 m pc ls st) :=
  g_callV hC hB hM hav hk hn hi hs hl hrec hst hsz hR hdg kn
theorem g_callSi {y : MethodName} {wy : Cond} {rm : Room} {av : (Nat → Nat) → List Value} {r : Int32} {G' : gT} {O' : Int64} {index maxL n : Nat} {As st : List Value}
    (hC : CallFix p m c cc nL s args gtb own) (hB : gB s0 s D cI cL ad G O H locs) (hM : gMet l y wy rm av G O (.inl (some (.int r))) G' O') (hav : av ad = As) (hk : gKey y wy maxL n) (hn : As.length = n) (hi : Cond.static y ∈ gtb) (hl : Cond.methodLink own index y ∈ gtb)
    (hst : st = As.reverse ++ rest) (hsz : ls.size = nL) (hR : rm.frames + 1 ≤ R.frames ∧ (rest.map fun v => v.category).sum + (maxL + 11) + rm.locals ≤ R.locals ∧ cells + rm.cells ≤ R.cells ∧ slots + rm.slots ≤ R.slots)
    (hdg : decode cc pc = .ok (.invokestatic index, 3))
    (kn : ∀ (H1 : Heap) (locs1 : List Loc), gB s0 s D cI cL ad G' O' H1 locs1 → W p l e R s m args below meth c H1 locs1 (cells + rm.cells) (slots + rm.slots) Q (F0 m (pc + 3) ls (.int r :: rest))) :
    W p l e R s m args below meth c H locs cells slots Q (F0 m pc ls st) :=
  g_callS hC hB hM hav hk hn hi hl hst hsz hR hdg kn
theorem g_callSv {y : MethodName} {wy : Cond} {rm : Room} {av : (Nat → Nat) → List Value} {G' : gT} {O' : Int64} {index maxL n : Nat} {As st : List Value}
    (hC : CallFix p m c cc nL s args gtb own) (hB : gB s0 s D cI cL ad G O H locs) (hM : gMet l y wy rm av G O (.inl none) G' O') (hav : av ad = As) (hk : gKey y wy maxL n) (hn : As.length = n) (hi : Cond.static y ∈ gtb) (hl : Cond.methodLink own index y ∈ gtb)
    (hst : st = As.reverse ++ rest) (hsz : ls.size = nL) (hR : rm.frames + 1 ≤ R.frames ∧ (rest.map fun v => v.category).sum + (maxL + 11) + rm.locals ≤ R.locals ∧ cells + rm.cells ≤ R.cells ∧ slots + rm.slots ≤ R.slots)
    (hdg : decode cc pc = .ok (.invokestatic index, 3))
    (kn : ∀ (H1 : Heap) (locs1 : List Loc), gB s0 s D cI cL ad G' O' H1 locs1 → W p l e R s m args below meth c H1 locs1 (cells + rm.cells) (slots + rm.slots) Q (F0 m (pc + 3) ls rest)) :
    W p l e R s m args below meth c H locs cells slots Q (F0 m pc ls st) :=
  g_callS hC hB hM hav hk hn hi hl hst hsz hR hdg kn
def g_swt (d lo hi : Int) (offs : Array Int) (x : Int) : Int := if x < lo ∨ hi < x then d else (offs[(x - lo).toNat]?).getD d
theorem g_ne {x K : Int32} {k : Int} (h : ¬ x = K) (hk : K.toInt = k) : x.toInt ≠ k := fun e => h (Int32.toInt_inj.mp (e.trans hk.symm))
theorem g_switch {x : Int32} {d lo hi : Int} {offs : Array Int} {len tgt : Nat} (hC : CallFix p m c cc nL s args gtb own) (hdg : decode cc pc = .ok (.tableswitch d lo hi offs, len)) (hz : ∀ i : Nat, (i : Int) ≤ hi - lo → i < offs.size) (ht : (pc : Int) + g_swt d lo hi offs x.toInt = (tgt : Int))
    (k : W p l e R s m args below meth c H locs cells slots Q (F0 m tgt ls rest)) : W p l e R s m args below meth c H locs cells slots Q (F0 m pc ls (.int x :: rest)) := by
  by_cases h : x.toInt < lo ∨ hi < x.toInt
  · exact lv_tableOut hC.1 hC.2.1 hdg h (by rw [g_swt, if_pos h] at ht; exact ht) k
  · have h1 : ¬ x.toInt < lo := fun q => h (Or.inl q)
    have h2 : ¬ hi < x.toInt := fun q => h (Or.inr q)
    have hs : (x.toInt - lo).toNat < offs.size := hz _ (by omega)
    refine lv_tableIn hC.1 hC.2.1 hdg h1 h2 (Array.getElem?_eq_getElem hs) ?_ k
    rw [g_swt, if_neg h, Array.getElem?_eq_getElem hs] at ht
    exact ht
theorem g_rec0 (hB : gB s0 s D cI cL ad G O H locs) : ∃ cellB : Cell, H[ad 0]? = some cellB ∧ cellB.vm.isStatics = false ∧ s.vm.findClass R_BS = some cellB.cls := va_recv hB.2.1 hB.1 (ci := 2) (q0 := 0) rfl rfl
theorem g_rec3 (hB : gB s0 s D cI cL ad G O H locs) : ∃ cellB : Cell, H[ad 3]? = some cellB ∧ cellB.vm.isStatics = false ∧ s.vm.findClass R_Ma = some cellB.cls := va_recv hB.2.1 hB.1 (ci := 0) (q0 := 3) rfl rfl
theorem g_rec5 (hB : gB s0 s D cI cL ad G O H locs) : ∃ cellB : Cell, H[ad 5]? = some cellB ∧ cellB.vm.isStatics = false ∧ s.vm.findClass R_Ma = some cellB.cls := va_recv hB.2.1 hB.1 (ci := 0) (q0 := 5) rfl rfl
theorem g_rec7 (hB : gB s0 s D cI cL ad G O H locs) : ∃ cellB : Cell, H[ad 7]? = some cellB ∧ cellB.vm.isStatics = false ∧ s.vm.findClass R_Ro = some cellB.cls := va_recv hB.2.1 hB.1 (ci := 1) (q0 := 7) rfl rfl
theorem g_rec16 (hB : gB s0 s D cI cL ad G O H locs) : ∃ cellB : Cell, H[ad 16]? = some cellB ∧ cellB.vm.isStatics = false ∧ s.vm.findClass R_Mo = some cellB.cls := va_recv hB.2.1 hB.1 (ci := 3) (q0 := 16) rfl rfl
end GCall
