/-! Throwing: own rows over the library's Stand.newCold, ldcString, ctorThrowS, leaveThrown. -/
def gexc (c : Nat) : String := if c = 1 then "java/lang/IllegalArgumentException" else if c = 2 then "java/lang/IndexOutOfBoundsException" else "java/lang/UnsupportedOperationException"
def gox (c : Nat) (v : Option Value) : gO := if c = 0 then .inl v else .inr (gexc c)
theorem gox_0 {c : Nat} {v : Option Value} (h : c = 0) : gox c v = .inl v := if_pos h
theorem gox_n {c : Nat} {v : Option Value} (h : ¬ c = 0) : gox c v = .inr (gexc c) := if_neg h
abbrev xnames : List String := ["java/lang/RuntimeException", "java/lang/Exception"]
/-- the words on Throwable's statics -/
abbrev xsta : List Cond := [.isRef (.static Bundle.tN "UNASSIGNED_STACK" Bundle.steD), .isRef (.static Bundle.tN "SUPPRESSED_SENTINEL" Bundle.listD)]
/-- which kinds of words are lifted from the law's start -/
def xkind : Cond → Bool
  | .castable .. => true
  | .declares _ => true
  | .laysStatic .. => true
  | .isRef (.static ..) => true
  | w => goodWord w
theorem g_sta0 {s0 : State} {A0 : Array Value} (h : (Jvm.Cond.and given_1 narrow_1).before A0 s0 = true) : ∀ w ∈ xsta, w.before A0 s0 = true := by
  intro w hw
  exact flat_of_before _ h w ((show ∀ w ∈ xsta, w ∈ flatC (Jvm.Cond.and given_1 narrow_1) by decide +kernel) w hw)
theorem g_field {s0 U : State} {ad : Nat → Nat} (hX : gX s0 ad U) {C n d : String} {c i : Nat} {k : Class} {f : Field} (hi : s0.fieldFound? C n d = some (c, k, i, f)) : ∃ k' : Class, U.fieldFound? C n d = some (c, k', i, f) ∧ k'.statics = k.statics ∧ k'.staticTypes = k.staticTypes := by
  obtain ⟨k', hi', he⟩ := State.fieldFound?_setVm hX.2.1.alike hi
  exact ⟨k', hi', by rw [he], by rw [he]⟩
theorem g_lift {s0 U : State} {ad : Nat → Nat} (hX : gX s0 ad U) {w : Cond} {A0 a : Array Value} (h : w.before A0 s0 = true) (hk : xkind w = true) : w.before a U = true := by
  have hW := hX.2.1
  have good : goodWord w = true → w.before a U = true := fun hg => word_at hW (good_of_word hg) h
  cases w with
  | castable C T => exact va_Nw.use rfl (va_Nw.warmC hW (va_Nw.of rfl h))
  | declares x => exact va_Nw.use rfl (va_Nw.warmD hW (va_Nw.of rfl h))
  | laysStatic C n d =>
    obtain ⟨c, k, i, f, a', cell, hc, hi, hst, ha, hcell, hs, hcls, hlt, hty⟩ := Cond.laysStatic_spec h
    obtain ⟨k', hi', e1, e2⟩ := g_field hX hi
    have hlt' : a' < s0.heap.size := (Array.getElem?_eq_some_iff.mp hcell).1
    exact Cond.laysStatic_of (by rw [hW.alike.findClass]; exact hc) hi' hst (by rw [e1]; exact ha) (by rw [hX.2.2.2.1 a' hlt']; exact hcell) hs hcls hlt (by rw [e2]; exact hty)
  | isRef t =>
    cases t with
    | static C n d =>
      cases hv : (Term.static C n d).eval A0 s0 none [] s0 with
      | none => simp [Cond.before, Cond.holds, Cond.value, hv] at h
      | some v =>
        have hr : v.isRef = true := by
          simp only [Cond.before, Cond.holds, Cond.value, hv] at h
          cases v <;> simp_all [Value.isRef]
        cases hff : s0.fieldFound? C n d with
        | none => simp [Term.eval, State.fieldNamed?, hff] at hv
        | some q =>
          obtain ⟨c, k, i, f⟩ := q
          obtain ⟨hst, a', cell, ha, hcell, hun, hsl⟩ := Term.static_spec hff hv
          obtain ⟨k', hi', e1, -⟩ := g_field hX hff
          have hlt' : a' < s0.heap.size := (Array.getElem?_eq_some_iff.mp hcell).1
          have hcell' : U.heap[a']? = some cell := by rw [hX.2.2.2.1 a' hlt']; exact hcell
          have hv' : (Term.static C n d).eval a U none [] U = some v := by
            simp [Term.eval, State.fieldNamed?, hff, hst, ha, hcell] at hv
            simp [Term.eval, State.fieldNamed?, hi', hst, e1, ha, hcell']
            exact hv
          simp only [Cond.before, Cond.holds, Cond.value, hv']
          cases v <;> simp_all [Value.isRef]
    | _ => exact good hk
  | _ => exact good hk
/-- what a throw of this class needs of the tables -/
def gXk (ik is ic : Nat) (cls text : String) : Prop := Cond.classLink R_BS ik cls ∈ gtb ∧ Cond.initialized cls ∈ gtb ∧ Cond.stringRef R_BS is text ∈ lw_tbl ∧ Bundle.fit cls = true ∧ ∀ w ∈ Bundle.ownAtoms R_BS ic cls xnames, (w ∈ lw_tbl ∨ w ∈ xsta) ∧ xkind w = true
theorem g_atoms {s0 U : State} {ad : Nat → Nat} (hX : gX s0 ad U) {ik is ic : Nat} {cls text : String} (hk : gXk ik is ic cls text) {a : Array Value} : ∀ w ∈ Bundle.ownAtoms R_BS ic cls xnames, w.before a U = true := by
  intro w hw
  obtain ⟨A0, h1, h2⟩ := hX.1
  obtain ⟨h3, h4⟩ := hk.2.2.2.2 w hw
  exact g_lift hX (h3.elim (h1 w) (g_sta0 h2 w)) h4
theorem g_str {s0 U : State} {ad : Nat → Nat} (hX : gX s0 ad U) {is : Nat} {text : String} (h : Cond.stringRef R_BS is text ∈ lw_tbl) : ∃ sa, vk_R R_BS is text sa U := by
  obtain ⟨A0, h1, -⟩ := hX.1
  have h2 := h1 _ h
  have hcur : ∃ cur, s0.vm.findClass R_BS = some cur := by
    have h3 := h2
    simp only [Cond.before, Cond.holds, Cond.value] at h3
    cases hc : s0.vm.findClass R_BS with
    | none => simp [hc] at h3
    | some cur => exact ⟨cur, rfl⟩
  obtain ⟨cur, hcur⟩ := hcur
  obtain ⟨-, -, -, sa, -, -, -, -, -, hev⟩ := Cond.stringRef_spec hcur h2
  exact ⟨sa, vk_R.warm hX.2.1 (vk_R.of h2 hev)⟩
section GThrow
variable {p : Program} {l : Launch} {e : Env} {R : Room} {s0 s : State} {m : MethodId} {args : Array Value} {below : List Frame} {meth : Method} {c : Code} {H : Heap} {locs : List Loc} {cells slots mc ms : Nat} {Q : State → Prop} {cc : ByteArray} {nL pc : Nat} {ls : Array Slot} {rest : List Value} {own : String} {D : va_G} {cI cL : ClassId} {ad : Nat → Nat} {G : gT} {O : Int64}
theorem g_kept {U : State} {k n : Nat} (h : s.sameButNew ({ U with vm := s.vm } : State) [] k n) : s.heap.size ≤ U.heap.size ∧ ∀ q : Nat, q < s.heap.size → U.heap[q]? = s.heap[q]? := by
  obtain ⟨-, h2, -, -, -, h6⟩ := h
  refine ⟨h2, fun q hq => ?_⟩
  obtain ⟨c', e1, e2, e3, e4⟩ := h6 q _ (Array.getElem?_eq_getElem hq)
  have hs : c'.slots = (s.heap[q]).slots := Array.ext_getElem? fun i => e4 i (by simp)
  have e5 : U.heap[q]? = some c' := e1
  rw [e5, Array.getElem?_eq_getElem hq, e2, hs]
theorem gx_throw {E ik is ic : Nat} {cls text : String} {o : gO} {G' : gT} (hC : CallFix p m c cc nL s args gtb R_BS) (hB : gB s0 s D cI cL ad G O s.heap []) (hst : l.stackTraces = false) (htb : c.exceptionTable.toList = []) (hlk : meth.locks = false) (hsz : ls.size = nL)
    (hk : gXk ik is ic cls text) (hE : gexc E = cls)
    (d0 : decode cc pc = .ok (.new ik, 3)) (d3 : decode cc (pc + 3) = .ok (.dup, 1)) (d4 : decode cc (pc + 4) = .ok (.ldc is, 2)) (d6 : decode cc (pc + 6) = .ok (.invokespecial ic, 3)) (d9 : decode cc (pc + 9) = .ok (.athrow, 1))
    (hR : 6 ≤ R.frames ∧ 82 ≤ R.locals ∧ 1 ≤ R.cells ∧ 6 ≤ R.slots) (hm : 1 ≤ mc ∧ 6 ≤ ms) (ho : o = .inr (gexc E)) (hG : G' = G) :
    W p l e R s m args below meth c s.heap [] 0 0 (gE s0 below args s D cI cL ad mc ms o G' O) (F0 m pc ls []) := by
  subst ho
  subst hG
  subst hE
  obtain ⟨hexec, hb, hml, hown, hts⟩ := hC
  obtain ⟨hP, hK, hD, hS, hX⟩ := hB
  intro T hT X
  have htr : e.platform.stackTraces = false := (show e.platform.stackTraces = l.stackTraces by rw [X.admits.platform]).trans hst
  have h := g_atoms (a := args) hX hk
  obtain ⟨hcl, hini, hsr, hfit, -⟩ := hk
  obtain ⟨sa, hsa⟩ := g_str hX hsr
  have hsr' : (Cond.stringRef R_BS is text).before args s = true := hsa.1
  have hev' : (Term.string R_BS is).eval args s none [] s = some (.ref sa) := hsa.2
  have hins : (Cond.instantiable (gexc E) 6).before args s = true := h _ (by simp [Bundle.ownAtoms])
  obtain ⟨vm₁, cX, kX, hfX, hkX, -, -, X₁, st1⟩ := X.newCold hexec (own := R_BS) (C := gexc E) (index := ik) (n := 6) hown (hts _ hcl) hins (hts _ hini)
    (g := F0 m pc ls []) rfl (by rw [hb]; exact d0) (by have := hR.2.2.1; omega) (by have := hR.2.2.2; omega)
  have d3' : decode c.code (pc + 3) = .ok (.dup, 1) := by rw [hb]; exact d3
  have d4' : decode c.code (pc + 4) = .ok (.ldc is, 2) := by rw [hb]; exact d4
  have hcellA : ((T.setVm vm₁).pushCell { cls := cX, slots := kX.instanceTypes.map defaultValue, vm := .none }).heap[T.heap.size]? = some (freshCell cX kX) := State.heap_pushCell_size _ _
  generalize hT1 : (T.setVm vm₁).pushCell { cls := cX, slots := kX.instanceTypes.map defaultValue, vm := .none } = T1 at X₁ st1 hcellA
  obtain ⟨U, st2, hrun, hend, hWU, hsame, ce, hce, hown2⟩ := X₁.ctorThrowS hexec htr (own := R_BS) (cls := gexc E) (names := xnames) (ic := ic) hown hfit (by decide) h (fun x hx => nomatch hx) hfX hkX (a := T.heap.size) hcellA (by rw [hT]; exact Nat.le_refl _) (msg := .ref sa) rfl
    (g := F0 m (pc + 6) ls [.ref sa, .ref T.heap.size, .ref T.heap.size]) rfl (hsz.trans hml.symm) rfl rfl (rest := []) rfl (by rw [hb]; exact d6) (by rw [hb]; exact d9) (by rw [htb]; intro x hx; cases hx) (by have := hR.1; simp; omega) (by have := hR.2.1; simp [Value.category]; omega) hlk
  obtain ⟨f1, f2⟩ := g_kept hsame
  refine ⟨U, ?_, .threw T.heap.size, hrun, hend, ⟨[], hWU, hsame.mono (by have := hm.1; omega) (by have := hm.2; omega), fun q hq => nomatch hq⟩, ⟨f1, fun q h1 _ => f2 q h1⟩, ⟨?_, va_K.moved hWU.alike hK, hD, ?_⟩, T.heap.size, ce, rfl, hce, hown2.vm, hown2.cls⟩
  · refine st1 _ ?_
    show Steps p.tables e below (T1.setTop { method := m, pc := pc + 3, locals := ls, stack := [.ref T.heap.size], locked := none }) _
    jvm_step X₁.here [X₁.here.top, hexec, d3', Value.category]
    exact X₁.ldcString hexec (own := R_BS) (text := text) (index := is) (a := sa) hown hsr' hev'
      (g := F0 m (pc + 4) ls [.ref T.heap.size, .ref T.heap.size]) rfl d4' _ st2
  · exact hP.kept (fun k q hq => f2 q.1 ((hP k q hq).lt))
  · refine ⟨hX.1, State.WarmedH.trans hX.2.1 hWU, Nat.le_trans hX.2.2.1 f1, fun q hq => ?_, hX.2.2.2.2⟩
    rw [f2 q (Nat.lt_of_lt_of_le hq hX.2.2.1)]
    exact hX.2.2.2.1 q hq
/-- not caught here: it leaves the method -/
theorem gx_out {E : String} {q : Nat} {ce : Cell} {o : gO} {G' : gT} (hB : gB s0 s D cI cL ad G O H locs) (htb : c.exceptionTable.toList = []) (hlk : meth.locks = false) (hce : H[q]? = some ce) (hcv : ce.vm = .none) (hcl : s.vm.findClass E = some ce.cls) (hm : cells ≤ mc ∧ slots ≤ ms) (ho : o = .inr E) (hG : G' = G) :
    gTh p l e R s m args below meth c H locs cells slots (gE s0 below args s D cI cL ad mc ms o G' O) (F0 m pc ls rest) q := by
  subst ho
  subst hG
  intro T hT X
  obtain ⟨st1, hrun, hend, hW, hsm⟩ := X.leaveThrown q (g := F0 m pc ls rest) rfl rfl rfl (by rw [htb]; intro x hx; cases hx) hlk
  exact ⟨_, st1, .threw q, hrun, hend, ⟨locs, hW, hsm.mono hm.1 hm.2, hB.2.2.2.1.2.2⟩, hB.2.2.2.1.F hT, g_gW hB hT hW, q, ce, rfl, by rw [← hT] at hce; exact hce, hcv, hcl⟩
/-- a check that stays: nothing changes -/
def gStay (l : Launch) (y : MethodName) (wy : Cond) (av : (Nat → Nat) → List Value) (G : gT) : Prop :=
  ∀ (s0 : State) (D : va_G) (cI cL : ClassId) (ad : Nat → Nat) (O : Int64) (sz : Nat),
    MetFree l y (headSpec [wy] {}) (fun v U => v = (av ad).toArray ∧ U.heap.size = sz ∧ gW s0 D cI cL ad sz G O U) (fun _ _ _ _ _ => True) (fun _ st oc t => oc = .returned none ∧ t.heap = st.heap ∧ st.WarmedH t.vm ∧ st.sameButNew ({ t with vm := st.vm } : State) [] 0 0)
theorem g_bodyS {y : MethodName} {wy : Cond} {av : (Nat → Nat) → List Value} {maxL : Nat} {ret : Option FieldType} {tb : List ExceptionTableEntry}
    (hy : plainName y.cls = true) (hw : gCode wy y cc maxL ret tb) (hlen : ∀ ad, (lg_sl (av ad)).length ≤ maxL)
    (body : ∀ (p : Program) (e : Env) (s0 s : State) (m : MethodId) (args : Array Value) (below : List Frame) (meth : Method) (c : Code) (D : va_G) (cI cL : ClassId) (ad : Nat → Nat) (O : Int64), CallFix p m c cc maxL s args gtb y.cls → meth.sig.returnType = ret → meth.locks = false → gB s0 s D cI cL ad G O s.heap [] →
      ∀ ls : Array Slot, lv_has ls maxL (lv_args 0 (av ad)) → W p l e {} s m args below meth c s.heap [] 0 0 (MQ below (fun _ st oc t => oc = .returned none ∧ t.heap = st.heap) args s 0 0 (fun _ => False)) (F0 m 0 ls [])) : gStay l y wy av G := by
  intro s0 D cI cL ad O sz
  refine MetFree.of_bodyS (code := cc) (maxLocals := maxL) (ret := ret) hy ?_ ?_
  · intro args s m h hn
    obtain ⟨m', meth, c, hn', h1, h2, h3, h4, h5, h6, -, -⟩ := hw args s (atoms_spec (ws := [wy]) h _ List.mem_cons_self)
    cases hn.symm.trans hn'
    exact ⟨meth, c, h1, h2, h3, h4, h5, h6⟩
  · intro p e s m args below meth c s₁ B hml hPP _
    obtain ⟨rfl, rfl, hP, hK, hD, hX⟩ := hPP
    have X0 : Stand p l e (headSpec [wy] {}).room s m (av ad).toArray below meth c s₁ [] 0 0 := Stand.of_body B
    have hh0 : s₁.heap = s.heap := by rw [B.state]; rfl
    have hC : CallFix p m c cc maxL s (av ad).toArray gtb y.cls := ⟨B.exec, B.bytes, hml, findClass_of_methodNamed B.named, g_word hX⟩
    have hl := lv_entry (av ad) (n := maxL) (hlen ad)
    have K := body p e s0 s m (av ad).toArray below meth c D cI cL ad O hC B.returns B.notSynchronized ⟨hP, hK, hD, va_S.rf, hX⟩ _ hl
    obtain ⟨t, a1, oc, b1, b2, ⟨b3, b4⟩, L, ⟨-, b5, b6⟩, b7⟩ := K s₁ hh0 X0
    have hLe : L = [] := by
      cases L with
      | nil => rfl
      | cons q L => exact (b7 q List.mem_cons_self).elim
    subst hLe
    refine ⟨t, oc, ?_, b1, b2, b3, b4, b5, b6⟩
    rw [lg_entry_eq]
    exact a1
theorem g_stayV {y : MethodName} {wy : Cond} {av : (Nat → Nat) → List Value} {b index maxL n : Nat} {As st : List Value}
    (hC : CallFix p m c cc nL s args gtb own) (hB : gB s0 s D cI cL ad G O H locs) (hM : gStay l y wy av G) (hav : av ad = .ref b :: As) (hk : gKey y wy maxL n) (hn : As.length = n) (hi : Cond.instanceMethod y ∈ gtb) (hs : Cond.selects y.cls y y ∈ gtb) (hl : Cond.methodLink own index y ∈ gtb)
    (hrec : ∃ cellB : Cell, H[b]? = some cellB ∧ cellB.vm.isStatics = false ∧ s.vm.findClass y.cls = some cellB.cls)
    (hst : st = As.reverse ++ .ref b :: rest) (hsz : ls.size = nL) (hR : 1 ≤ R.frames ∧ (rest.map fun v => v.category).sum + (maxL + 11) ≤ R.locals ∧ cells ≤ R.cells ∧ slots ≤ R.slots)
    (hdg : decode cc pc = .ok (.invokevirtual index, 3))
    (kn : W p l e R s m args below meth c H locs cells slots Q (F0 m (pc + 3) ls rest)) :
    W p l e R s m args below meth c H locs cells slots Q (F0 m pc ls st) := by
  subst hst
  intro T hT X
  obtain ⟨hx, hb, hml, hown, hts⟩ := hC
  obtain ⟨hwy, ⟨cy, ry, ty, hcode⟩, hini, hy, hpar⟩ := hk
  obtain ⟨mk, methM, hnamed, hmethM, hstM, habM⟩ := Cond.instanceMethod_spec (hts _ hi)
  obtain ⟨m9, meth9, ck, hn9, hm9, hck, -, hckL, -, -, -, hsig⟩ := hcode args s (hts _ hwy)
  cases hnamed.symm.trans hn9
  cases hmethM.symm.trans hm9
  obtain ⟨cellB, hcB, hoB, hclB⟩ := hrec
  obtain ⟨c2, r2, m2, q1, q2, q3, q4, kP, hkP, hkPi⟩ := Cond.selects_spec (hts _ hs)
  cases hclB.symm.trans q1
  cases (State.methodFound?_of_named hnamed hy).symm.trans q2
  cases hnamed.symm.trans q3
  have hselP : selectMethod e.platform s.vm cellB.cls mk = .method mk := by rw [Launch.admits_selectMethod X.admits]; exact q4
  have hlen : As.length = methM.sig.parameters.length := by
    rw [hsig] at hpar
    rw [hn]
    exact (Option.some.inj hpar).symm
  obtain ⟨vm₁, X₁, hstep₁⟩ := X.invokevirtual hx hown (hts _ hl) hnamed hmethM hstM hkP hkPi hy (a := b) (cell := cellB) (by rw [hT]; exact hcB)
    (fun z h => by rw [h] at hoB; cases hoB) hselP hmethM habM hkP hkPi (g := F0 m pc ls (As.reverse ++ .ref b :: rest)) rfl (argsL := As) (rest := rest) hlen rfl (by rw [hb]; exact hdg)
  obtain ⟨kP', hkP', he⟩ := X₁.warmed.alike.2.2 _ _ hkP
  have hinitP : kP.init = .initialized := Cond.initialized_spec (findClass_of_methodNamed hnamed) hkP (hts _ hini)
  obtain ⟨hP, hK, hD, hS, hX⟩ := id hB
  have hAt : At (T.setVm vm₁) m c below := X₁.here
  have hfrm : ((T.setVm vm₁).setTop (F0 m pc ls rest)).frames = .java (F0 m pc ls rest) :: below := by rw [State.frames_setTop' (F0 m pc ls rest) hAt.top, X₁.tail]
  have hpre : (headSpec [wy] {}).pre.before (av ad).toArray (T.setVm vm₁) = true := atoms_intro (fun w hw => by rw [List.mem_singleton.mp hw]; exact word_at X₁.warmed (good_of_word (List.mem_filter.mp hwy).2) (hts _ hwy))
  have happ : (headSpec [wy] {}).appliesLoose y e.platform ((T.setVm vm₁).calling (F0 m pc ls rest) mk (av ad).toArray) = true :=
    Spec.appliesLoose_calling (g := F0 m pc ls rest) hAt (by rw [hb]; exact hdg) (X₁.named hnamed) hkP' (by rw [he]; exact hinitP) (X₁.room_calling (g := F0 m pc ls rest) (R' := {}) (hsz.trans hml.symm) (by rw [X₁.warmed.alike.method?]; exact hmethM) hck hR.1 (by rw [hckL]; show 2 * 0 + (rest.map fun v => v.category).sum + (maxL + 11) + 0 ≤ R.locals; have := hR.2.1; omega) hR.2.2.1 hR.2.2.2) hpre
  have hgw : gW s0 D cI cL ad H.size G O ((T.setVm vm₁).calling (F0 m pc ls rest) mk (av ad).toArray) :=
    ⟨by rw [← hT] at hP; exact hP, va_K.moved X₁.warmed.alike hK, g_Dn (G' := G) (O' := O) hD, gX_moved hX hS hT X₁.warmed⟩
  obtain ⟨oc, t, hst, hrun, hend, hoc, hth, hW, hsame⟩ := Steps.callFree (hM s0 D cI cL ad O H.size) p X₁.admits X₁.cas X₁.clock (acts := []) (mid := [.java (F0 m pc ls rest)]) (below := below) hfrm happ ⟨rfl, by rw [← hT]; rfl, hgw⟩ trivial
  rw [hfrm] at hend
  subst hoc
  obtain ⟨T', X', -, -, ht⟩ := X₁.outOf (g := F0 m pc ls rest) rfl (by rw [hb]; exact hdg) hend hW hsame
  rw [List.append_nil] at X'
  have hh : T'.heap = H := by
    have h1 : T'.heap = t.heap := by rw [ht]; rfl
    rw [h1, hth]
    exact hT
  obtain ⟨t2, a1, b1⟩ := kn T' hh X'
  rw [hav] at hst
  exact ⟨t2, hstep₁ _ (fun acts => by rw [doInvoke_state]; rw [ht] at hst; exact hst.trans a1), b1⟩
/-- copying the numbers of one machine into the other's -/
def g_cpy (G : gT) (a b : Nat) : gT := fun x y => if x = b then va_cpy (G a) (G b) 0 0 264 y else G x y
theorem ml_copy : Cond.methodLink R_Ma 22 arraycopyName ∈ gtb := g_mem 163 (by decide +kernel) rfl
theorem sta_copy : Cond.static arraycopyName ∈ gtb := g_mem 164 (by decide +kernel) rfl
theorem nat_copy : Cond.native arraycopyName ∈ gtb := g_mem 165 (by decide +kernel) rfl
theorem ini_copy : Cond.initialized "java/lang/System" ∈ gtb := g_mem 12 (by decide +kernel) rfl
theorem g_copy_4_6 (hC : CallFix p m c cc nL s args gtb R_Ma) (hB : gB s0 s D cI cL ad G O H locs) (hsz : ls.size = nL) (hR : 1 ≤ R.frames ∧ (rest.map fun v => v.category).sum + 18 ≤ R.locals) (hdg : decode cc pc = .ok (.invokestatic 22, 3))
    (kk : ∀ (H1 : Heap) (locs1 : List Loc), gB s0 s D cI cL ad (g_cpy G 4 6) O H1 locs1 → W p l e R s m args below meth c H1 locs1 cells slots Q (F0 m (pc + 3) ls rest)) :
    W p l e R s m args below meth c H locs cells slots Q (F0 m pc ls (.int 264 :: .int 0 :: .ref (ad 6) :: .int 0 :: .ref (ad 4) :: rest)) := by
  obtain ⟨hx, hb, hml, hown, hts⟩ := hC
  exact va_copyi (q0 := 4) (q1 := 6) (t0 := 0) (t1 := 0) (ty := .int) hx hb (hml.trans hsz.symm) hown (hts _ ml_copy) (hts _ nat_copy) (hts _ sta_copy) (hts _ ini_copy) hB.2.1 hB.1 hB.2.2.1 hB.2.2.2.1 rfl rfl rfl rfl rfl (by decide) (by decide) (by decide) (by decide) (by decide) (fun i hi => rfl) hR.1 hR.2 hdg
    (fun H1 locs1 hP hD hS => kk H1 locs1 ⟨hP, hB.2.1, hD, hS, hB.2.2.2.2⟩)
end GThrow
theorem xk_47 : gXk 45 47 49 "java/lang/IndexOutOfBoundsException" "no such word of the program" := ⟨g_mem 263 (by decide +kernel) rfl, g_mem 9 (by decide +kernel) rfl, g_memL 304 (by decide +kernel), by decide, by decide +kernel⟩
theorem xk_57 : gXk 55 57 59 "java/lang/UnsupportedOperationException" "all inputs were given" := ⟨g_mem 339 (by decide +kernel) rfl, g_mem 10 (by decide +kernel) rfl, g_memL 348 (by decide +kernel), by decide, by decide +kernel⟩
theorem xk_74 : gXk 72 74 76 "java/lang/IllegalArgumentException" "not a number of steps" := ⟨g_mem 379 (by decide +kernel) rfl, g_mem 11 (by decide +kernel) rfl, g_memL 388 (by decide +kernel), by decide, by decide +kernel⟩
theorem xk_98 : gXk 45 98 49 "java/lang/IndexOutOfBoundsException" "nothing to look at" := ⟨g_mem 263 (by decide +kernel) rfl, g_mem 9 (by decide +kernel) rfl, g_memL 426 (by decide +kernel), by decide, by decide +kernel⟩
theorem xk_128 : gXk 72 128 76 "java/lang/IllegalArgumentException" "no row is kept from this time on" := ⟨g_mem 379 (by decide +kernel) rfl, g_mem 11 (by decide +kernel) rfl, g_memL 460 (by decide +kernel), by decide, by decide +kernel⟩
theorem xk_146 : gXk 45 146 49 "java/lang/IndexOutOfBoundsException" "no such register or memory word" := ⟨g_mem 263 (by decide +kernel) rfl, g_mem 9 (by decide +kernel) rfl, g_memL 366 (by decide +kernel), by decide, by decide +kernel⟩
theorem xk_148 : gXk 72 148 76 "java/lang/IllegalArgumentException" "the time is not kept" := ⟨g_mem 379 (by decide +kernel) rfl, g_mem 11 (by decide +kernel) rfl, g_memL 414 (by decide +kernel), by decide, by decide +kernel⟩
