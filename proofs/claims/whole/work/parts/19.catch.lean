/-! Catching, and the law's own little methods. -/
section GC0
variable {Q : Handler → Pre} {E : CtlPost} {e : Env} {d : Bool} {acts : List Action} {s : State} {f : JFrame} {a : Addr}
theorem gx_go {x : ExceptionTableEntry} {t : List ExceptionTableEntry} {c : ClassId} {cell : Cell} (hx : covers x f.pc = true) (h0 : x.catchType ≠ 0)
    (hl : s.vm.ClassLinks e.platform f.method.cls x.catchType c) (hcell : s.heap[a]? = some cell) (hobj : ∀ k, cell.vm ≠ .statics k)
    (hk : ∃ k, s.vm.classes[cell.cls]? = some k) (hc : ∃ k, s.vm.classes[c]? = some k) :
    wp (findHandler.go f a (x :: t)) Q E e d acts s ↔ if s.vm.assignable cell.cls c = true then Q (.found x.handlerPc) d acts (s.setVm (s.vm.noted f.method.cls x.catchType (.cls c))) else wp (findHandler.go f a t) Q E e d acts (s.setVm (s.vm.noted f.method.cls x.catchType (.cls c))) := by
  simp only [covers] at hx
  obtain ⟨ha, ht⟩ := (resolveClass_links e.toSetting hl).op (op := VmOp.resolveClass f.method.cls x.catchType) rfl
  have hal : s.vm.Alike (s.vm.noted f.method.cls x.catchType (.cls c)) := (Vm.Alike.refl s.vm).noted _ _ _
  obtain ⟨k1, hk1⟩ := hk
  obtain ⟨k2, hk2⟩ := hc
  obtain ⟨k1', hk1', -⟩ := hal.2.2 _ _ hk1
  obtain ⟨k2', hk2', -⟩ := hal.2.2 _ _ hk2
  have hfit : (s.vm.noted f.method.cls x.catchType (.cls c)).assignable cell.cls c = s.vm.assignable cell.cls c := by rw [hal.assignable]
  cases hq : s.vm.assignable cell.cls c <;> rw [hq] at hfit <;> simp [findHandler.go, hx, h0, ha, ht, hcell, hobj, hk1', hk2', hfit, VmOp.dirties, VmOp.acts]
end GC0
def gFinds (e : Env) (s : State) (f : JFrame) (a : Addr) (h : Handler) (vm' : Vm) : Prop :=
  ∀ (Q : Handler → Pre) (E : CtlPost) (d : Bool) (acts : List Action), wp (findHandler f a) Q E e d acts s ↔ Q h d acts (s.setVm vm')
theorem gx_step {e : Env} {s : State} {a : Addr} {f : JFrame} {r : List Frame} {pc : Nat} {vm' : Vm} (hfind : gFinds e s f a (.found pc) vm') :
    (stepThrowing e s a (.java f :: r)).Is ((s.setVm vm').setFrames (.java { f with pc := pc, stack := [.ref a] } :: r)) [] := by
  simp only [stepThrowing, searchFrame, vmDo]
  generalize hr : Sem.go _ e false [] s = res
  obtain ⟨as, rfl, ha⟩ := Sem.eq_ok_of hr (a := Handler.found pc) (s' := s.setVm vm') (acts' := []) (by simp [hfind _ _ _ _])
  exact ⟨rfl, ha⟩
theorem gx_caught {tb : Tables} {e : Env} {s target : State} {g : JFrame} {c : Code} {below : List Frame} {a : Addr} {vm' : Vm} (h : At s g.method c below) {pc : Nat} (hfind : gFinds e ((s.setTop g).pushFrame (.throwing a)) g a (.found pc) vm')
    (hrest : Steps tb e below ((s.setVm vm').setTop { g with pc := pc, stack := [.ref a] }) target) : Steps tb e below ((s.setTop g).pushFrame (.throwing a)) target := by
  obtain ⟨hgo, hw⟩ := h.throwing a
  refine Steps.head hgo hw ?_
  rw [stepThread_throwing (frames_entered h.top _), (gx_step (s := (s.setTop g).pushFrame (.throwing a)) hfind).1]
  obtain ⟨g₀, hg⟩ := Option.isSome_iff_exists.mp h.top
  obtain ⟨r, hr⟩ := State.topJava?_eq_some.mp hg
  have hr' : (s.setVm vm').frames = .java g₀ :: r := hr
  rw [State.setTop_of_frames _ hr'] at hrest
  have e1 : (((s.setTop g).pushFrame (.throwing a)).setVm vm').setFrames (.java { g with pc := pc, stack := [.ref a] } :: s.frames.tail) = (s.setVm vm').setFrames (.java { g with pc := pc, stack := [.ref a] } :: r) := by
    rw [State.pushFrame, State.setTop_of_frames _ hr, State.setFrames_setFrames, hr]
    rw [show ((s.setFrames (Frame.throwing a :: (s.setFrames (Frame.java g :: r)).frames)).setVm vm') = ((s.setVm vm').setFrames (Frame.throwing a :: (s.setFrames (Frame.java g :: r)).frames)) from rfl, State.setFrames_setFrames]
    rfl
  rw [e1]
  exact hrest
section GC1
variable {p : Program} {l : Launch} {e : Env} {R : Room} {s0 s : State} {m : MethodId} {args : Array Value} {below : List Frame} {meth : Method} {c : Code} {H : Heap} {locs : List Loc} {cells slots mc ms : Nat} {Q : State → Prop} {cc : ByteArray} {nL pc : Nat} {ls : Array Slot} {rest : List Value} {own : String} {D : va_G} {cI cL : ClassId} {ad : Nat → Nat} {G : gT} {O : Int64}
/-- caught by the first row -/
theorem gx_catch1 {name E : String} {ce : Cell} {q : Addr} {x : ExceptionTableEntry} {suf : List ExceptionTableEntry} (hC : CallFix p m c cc nL s args gtb own) (hsplit : c.exceptionTable.toList = x :: suf) (hx : covers x pc = true) (h0 : x.catchType ≠ 0)
    (hlink : Cond.classLink own x.catchType name ∈ gtb) (hcast : (Cond.castable E name).before args s = true) (hcell : H[q]? = some ce) (hv : ce.vm = .none) (hcl : s.vm.findClass E = some ce.cls)
    (kk : W p l e R s m args below meth c H locs cells slots Q (F0 m x.handlerPc ls [.ref q])) : gTh p l e R s m args below meth c H locs cells slots Q (F0 m pc ls rest) q := by
  intro T hT X
  have hpl : e.platform.magicAccessors = ({} : Platform).magicAccessors := by rw [X.admits.platform]
  obtain ⟨c3, c4, hc3, hc4, hasg⟩ := Cond.castable_spec hcast
  cases Option.some.inj (hc3.symm.trans hcl)
  obtain ⟨c5, hc5, hl5⟩ := Cond.classLink_spec hC.2.2.2.1 (hC.2.2.2.2 _ hlink) e.platform hpl
  cases Option.some.inj (hc4.symm.trans hc5)
  obtain ⟨kE, hkE⟩ := Vm.classAt_of_findClass hcl
  obtain ⟨kN, hkN⟩ := Vm.classAt_of_findClass hc4
  obtain ⟨kE', hkE', -⟩ := X.warmed.alike.2.2 _ _ hkE
  obtain ⟨kN', hkN', -⟩ := X.warmed.alike.2.2 _ _ hkN
  obtain ⟨dk, _, _, kt, hd, _, _, _, _, hkt, _, hopen⟩ := hl5.here
  have hWn : s.WarmedH (T.vm.noted m.cls x.catchType (.cls c4)) := X.warmed.noted hd hopen (State.rightAt_cls hl5)
  have hf : gFinds e ((T.setTop (F0 m pc ls rest)).pushFrame (.throwing q)) (F0 m pc ls rest) q (.found x.handlerPc) (T.vm.noted m.cls x.catchType (.cls c4)) := by
    intro Q E d acts
    rw [W.findHandler_eq (s := (T.setTop (F0 m pc ls rest)).pushFrame (.throwing q)) (f := F0 m pc ls rest) (a := q) X.method' X.code, hsplit, gx_go (s := (T.setTop (F0 m pc ls rest)).pushFrame (.throwing q)) (cell := ce) hx h0 (X.warmed.classLinks hl5) (by rw [← hT] at hcell; exact hcell) (VmData.ne_statics_of (by rw [hv]; rfl)) ⟨kE', hkE'⟩ ⟨kN', hkN'⟩, if_pos (by show T.vm.assignable _ _ = true; rw [X.warmed.alike.assignable]; exact hasg)]
    rfl
  obtain ⟨t, a1, b1⟩ := kk (T.setVm (T.vm.noted m.cls x.catchType (.cls c4))) hT (X.noted hWn)
  exact ⟨t, gx_caught (g := F0 m pc ls rest) X.here hf a1, b1⟩
/-- caught by the second row, the first one passed -/
theorem gx_catch2 {nm1 name E : String} {ce : Cell} {q : Addr} {x1 x : ExceptionTableEntry} {suf : List ExceptionTableEntry} (hC : CallFix p m c cc nL s args gtb own) (hsplit : c.exceptionTable.toList = x1 :: x :: suf) (hx1 : covers x1 pc = true) (h01 : x1.catchType ≠ 0) (hlink1 : Cond.classLink own x1.catchType nm1 ∈ gtb) (hno : va_Nc E nm1 s)
    (hx : covers x pc = true) (h0 : x.catchType ≠ 0)
    (hlink : Cond.classLink own x.catchType name ∈ gtb) (hcast : (Cond.castable E name).before args s = true) (hcell : H[q]? = some ce) (hv : ce.vm = .none) (hcl : s.vm.findClass E = some ce.cls)
    (kk : W p l e R s m args below meth c H locs cells slots Q (F0 m x.handlerPc ls [.ref q])) : gTh p l e R s m args below meth c H locs cells slots Q (F0 m pc ls rest) q := by
  intro T hT X
  have hpl : e.platform.magicAccessors = ({} : Platform).magicAccessors := by rw [X.admits.platform]
  obtain ⟨c3, c4, hc3, hc4, hasg⟩ := Cond.castable_spec hcast
  cases Option.some.inj (hc3.symm.trans hcl)
  obtain ⟨c5, hc5, hl5⟩ := Cond.classLink_spec hC.2.2.2.1 (hC.2.2.2.2 _ hlink) e.platform hpl
  cases Option.some.inj (hc4.symm.trans hc5)
  obtain ⟨c6, hc6, hl6⟩ := Cond.classLink_spec hC.2.2.2.1 (hC.2.2.2.2 _ hlink1) e.platform hpl
  obtain ⟨a8, b8, n1, n2, n3⟩ := hno
  cases Option.some.inj (n1.symm.trans hcl)
  cases Option.some.inj (n2.symm.trans hc6)
  obtain ⟨kE, hkE⟩ := Vm.classAt_of_findClass hcl
  obtain ⟨kN, hkN⟩ := Vm.classAt_of_findClass hc4
  obtain ⟨kM, hkM⟩ := Vm.classAt_of_findClass hc6
  obtain ⟨dk, _, _, kt, hd, _, _, _, _, hkt, _, hopen⟩ := hl5.here
  obtain ⟨dk1, _, _, kt1, hd1, _, _, _, _, hkt1, _, hopen1⟩ := hl6.here
  have hW1 : s.WarmedH (T.vm.noted m.cls x1.catchType (.cls c6)) := X.warmed.noted hd1 hopen1 (State.rightAt_cls hl6)
  obtain ⟨kE', hkE', -⟩ := X.warmed.alike.2.2 _ _ hkE
  obtain ⟨kM', hkM', -⟩ := X.warmed.alike.2.2 _ _ hkM
  obtain ⟨kE2, hkE2, -⟩ := hW1.alike.2.2 _ _ hkE
  obtain ⟨kN2, hkN2, -⟩ := hW1.alike.2.2 _ _ hkN
  have hWn : s.WarmedH ((T.vm.noted m.cls x1.catchType (.cls c6)).noted m.cls x.catchType (.cls c4)) := hW1.noted hd hopen (State.rightAt_cls hl5)
  have hcT : T.heap[q]? = some ce := by rw [hT]; exact hcell
  have hf : gFinds e ((T.setTop (F0 m pc ls rest)).pushFrame (.throwing q)) (F0 m pc ls rest) q (.found x.handlerPc) ((T.vm.noted m.cls x1.catchType (.cls c6)).noted m.cls x.catchType (.cls c4)) := by
    intro Q E d acts
    rw [W.findHandler_eq (s := (T.setTop (F0 m pc ls rest)).pushFrame (.throwing q)) (f := F0 m pc ls rest) (a := q) X.method' X.code, hsplit, gx_go (s := (T.setTop (F0 m pc ls rest)).pushFrame (.throwing q)) (cell := ce) hx1 h01 (X.warmed.classLinks hl6) hcT (VmData.ne_statics_of (by rw [hv]; rfl)) ⟨kE', hkE'⟩ ⟨kM', hkM'⟩, if_neg (by show ¬ T.vm.assignable _ _ = true; rw [X.warmed.alike.assignable, n3]; decide)]
    have hz := gx_go (Q := Q) (E := E) (e := e) (d := d) (acts := acts) (s := ((T.setTop (F0 m pc ls rest)).pushFrame (.throwing q)).setVm (T.vm.noted m.cls x1.catchType (.cls c6))) (f := F0 m pc ls rest) (a := q) (t := suf) (cell := ce) hx h0 (hW1.classLinks hl5) hcT (VmData.ne_statics_of (by rw [hv]; rfl)) ⟨kE2, hkE2⟩ ⟨kN2, hkN2⟩
    rw [if_pos (by show (T.vm.noted m.cls x1.catchType (.cls c6)).assignable _ _ = true; rw [hW1.alike.assignable]; exact hasg)] at hz
    exact hz
  obtain ⟨t, a1, b1⟩ := kk (T.setVm ((T.vm.noted m.cls x1.catchType (.cls c6)).noted m.cls x.catchType (.cls c4))) hT (X.noted hWn)
  exact ⟨t, gx_caught (g := F0 m pc ls rest) X.here hf a1, b1⟩
theorem g_cast {s0 s : State} {ad : Nat → Nat} (hX : gX s0 ad s) {E : Nat} {args : Array Value} (hE : E = 1 ∨ E = 2 ∨ E = 3) : (Cond.castable (gexc E) (gexc E)).before args s = true := by
  obtain ⟨A0, h1, -⟩ := id hX.1
  rcases hE with rfl | rfl | rfl
  · exact g_lift hX (h1 _ (g_memL 381 (by decide +kernel))) rfl
  · exact g_lift hX (h1 _ (g_memL 265 (by decide +kernel))) rfl
  · exact g_lift hX (h1 _ (g_memL 341 (by decide +kernel))) rfl
theorem g_nocast {s0 s : State} {ad : Nat → Nat} (hX : gX s0 ad s) : va_Nc (gexc 2) (gexc 1) s := by
  obtain ⟨A0, -, h2⟩ := id hX.1
  exact va_Nc.moved hX.2.1.alike (va_Nc.of (flat_of_before _ h2 _ (by decide +kernel)))
/-- out[0] = v -/
theorem gl_store {v : Int64} (hC : CallFix p m c cc nL s args gtb own) (hB : gB s0 s D cI cL ad G O H locs) (hdg : decode cc pc = .ok (.lastore, 1)) (kk : ∀ (H1 : Heap) (locs1 : List Loc), gB s0 s D cI cL ad G v H1 locs1 → W p l e R s m args below meth c H1 locs1 cells slots Q (F0 m (pc + 1) ls rest)) :
    W p l e R s m args below meth c H locs cells slots Q (F0 m pc ls (.long v :: .int 0 :: .ref (ad 24) :: rest)) := by
  refine va_last (q0 := 24) (t0 := 1) hC.1 hC.2.1 hB.2.1 hB.1 hB.2.2.1 hB.2.2.2.1 rfl rfl (by unfold vp_in; decide) hdg (fun H1 locs1 hP hD hS => kk H1 locs1 ⟨?_, hB.2.1, ?_, hS, hB.2.2.2.2⟩)
  · intro k q hk
    by_cases h24 : k = 24
    · subst h24
      have e1 : q = (ad 24, .inl (cL, 1, .inr (.inl (fun _ => v)))) := (Option.some.inj hk).symm
      subst e1
      have h1 := hP 24 (ad 24, .inl (cL, 1, .inr (.inl (vp_updL (fun _ => O) (0 : Int32).toNatClampNeg v)))) rfl
      show H1[ad 24]? = some (vp_cell cL (1, .inr (.inl (fun _ => v))))
      have h2 : H1[ad 24]? = some (vp_cell cL (1, .inr (.inl (vp_updL (fun _ => O) (0 : Int32).toNatClampNeg v)))) := h1
      rw [h2, vp_cell_l, vp_cell_l]
      congr 1
    · refine hP k q ?_
      rw [List.getElem?_set_ne (fun z => h24 z.symm)]
      have hk2 := gwd_ad k q hk
      match k, hk, h24, hk2 with
      | 0, hk, _, _ => exact hk
      | 1, hk, _, _ => exact hk
      | 2, hk, _, _ => exact hk
      | 3, hk, _, _ => exact hk
      | 4, hk, _, _ => exact hk
      | 5, hk, _, _ => exact hk
      | 6, hk, _, _ => exact hk
      | 7, hk, _, _ => exact hk
      | 8, hk, _, _ => exact hk
      | 9, hk, _, _ => exact hk
      | 10, hk, _, _ => exact hk
      | 11, hk, _, _ => exact hk
      | 12, hk, _, _ => exact hk
      | 13, hk, _, _ => exact hk
      | 14, hk, _, _ => exact hk
      | 15, hk, _, _ => exact hk
      | 16, hk, _, _ => exact hk
      | 17, hk, _, _ => exact hk
      | 18, hk, _, _ => exact hk
      | 19, hk, _, _ => exact hk
      | 20, hk, _, _ => exact hk
      | 21, hk, _, _ => exact hk
      | 22, hk, _, _ => exact hk
      | 23, hk, _, _ => exact hk
      | 24, _, h, _ => exact absurd rfl h
      | k + 25, _, _, h => exact absurd h.1 (by omega)
  · refine ⟨fun i j x y hi hj hxy => ?_, fun k q hk => Or.inl ⟨k, (gwd_ad k q hk).1, (gwd_ad k q hk).2⟩⟩
    have hi2 := gwd_ad i x hi
    have hj2 := gwd_ad j y hj
    have key : ∀ k : Nat, k < 25 → ∃ q, (gwd ad cI cL G O)[k]? = some q ∧ q.1 = ad k := by
      intro k hk
      have hlt : k < (gwd ad cI cL G O).length := hk
      exact ⟨_, List.getElem?_eq_getElem hlt, (gwd_ad k _ (List.getElem?_eq_getElem hlt)).2⟩
    obtain ⟨x', hx', ex⟩ := key i hi2.1
    obtain ⟨y', hy', ey⟩ := key j hj2.1
    exact hB.2.2.1.1 i j x' y' hx' hy' (by rw [ex, ey, ← hi2.2, ← hj2.2]; exact hxy)
end GC1
