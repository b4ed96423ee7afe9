def R_law : String := "BackStepsLaw"
def lw_P (b : Addr) (xs : List Int32) (args : Array Value) (s : State) : Prop := args = #[.ref b] ∧ s.IntsAt b xs ∧ xs.length ≤ 2050 ∧ (Jvm.Cond.and given_1 narrow_1).before args s = true
def lw_Q (_ : Array Value) (s : State) (o : Outcome) (t : State) : Prop := o = .returned (some (.int 1)) ∧ Framed s o t [] 601024 7293000
def lw_Z (below : List Frame) (a : Array Value) (s : State) : State → Prop := fun t => ∃ o, t.status = .running ∧ Ended t below o ∧ lw_Q a s o t
/-- the law's own end, with 1 on the stack, nothing written that was there before, its room as the claim has it -/
theorem lw_ret {p : Program} {l : Launch} {e : Env} {s : State} {m : MethodId} {below : List Frame} {meth : Method} {c : Code} {b : Nat} (hx : p.tables.exec = Jvm.exec) (hb : c.code = code) (hr : meth.sig.returnType = ret) (hlocks : meth.locks = false) {pc : Nat} {H : Heap} {ls : Array Slot} (hdg : decode code pc = .ok (.ireturn, 1)) : W p l e room_1 s m #[Value.ref b] below meth c H [] 601024 7293000 (lw_Z below #[Value.ref b] s) (F0 m pc ls [.int 1]) := by
  intro T hT X
  obtain ⟨fs, hret, hrun, hended, hW, hframe⟩ := X.leave (v := some (.int 1)) (hlocks := hlocks) (fun h => by rw [hr] at h; cases h)
  have hmeth' : T.vm.method? m = some meth := X.method'
  refine ⟨T.setFrames fs, ?_, .returned (some (.int 1)), hrun, hended, rfl, ⟨_, rfl⟩, hW, hframe⟩
  jvm_step X.here [X.here.top, hx, hb, hdg, hmeth', hr, ret, narrow_b1]
  (try refine ⟨rfl, ?_⟩); (try refine ⟨rfl, ?_⟩)
  first | (intro acts; rw [hret _ acts rfl rfl rfl]) | rw [hret _ _ rfl rfl rfl]
  exact Steps.refl _
/-- what holds at the law's entry: the machine, the code, the tables' words (any of lw_tbl by 'hts w (by decide +kernel)'), the script of L ints xs at the cell b, what the Statement gives of the start (any of its parts by flat_of_before) -/
def lw_At (p : Program) (s : State) (m : MethodId) (meth : Method) (c : Code) (b L : Nat) (xs : Nat → Int32) : Prop :=
  p.tables.exec = Jvm.exec ∧ c.code = code ∧ meth.sig.returnType = ret ∧ c.maxLocals = 7 ∧ s.vm.findClass R_law = some m.cls ∧ (∀ w ∈ lw_tbl, w.before #[Value.ref b] s = true) ∧ va_X b L xs s s.heap ∧ b < s.heap.size ∧ meth.locks = false ∧ (Jvm.Cond.and given_1 narrow_1).before #[Value.ref b] s = true
/-! The law's loop: ok_law says that all answers agree, now and in every later turn. -/
def ok_law (N : Nat) (xs : Nat → Int32) (L : Nat) : Nat → gT → Int64 → Int32 → Prop
  | 0, G, O, x4 => False
  | n + 1, G, O, x4 => ((((Int32.ofNat L) - (4 : Int32)) < x4 → True) ∧ (¬ ((Int32.ofNat L) - (4 : Int32)) < x4 → (vp_in x4 L ∧ ((((xs x4.toNatClampNeg) &&& (15 : Int32)) = 0 → (vp_in (x4 + (1 : Int32)) L ∧ (vp_in (x4 + (2 : Int32)) L ∧ (ok_BS_program G (xs (x4 + (1 : Int32)).toNatClampNeg) (xs (x4 + (2 : Int32)).toNatClampNeg) ∧ (vp_in (x4 + (1 : Int32)) L ∧ (vp_in (x4 + (2 : Int32)) L ∧ (ok_Mo_program ((f_BS_program G (xs (x4 + (1 : Int32)).toNatClampNeg) (xs (x4 + (2 : Int32)).toNatClampNeg)).2.2) (xs (x4 + (1 : Int32)).toNatClampNeg) (xs (x4 + (2 : Int32)).toNatClampNeg) ∧ (((f_Mo_thrown ((f_Mo_program ((f_BS_program G (xs (x4 + (1 : Int32)).toNatClampNeg) (xs (x4 + (2 : Int32)).toNatClampNeg)).2.2) (xs (x4 + (1 : Int32)).toNatClampNeg) (xs (x4 + (2 : Int32)).toNatClampNeg)).2)) = (kx1 (f_BS_program G (xs (x4 + (1 : Int32)).toNatClampNeg) (xs (x4 + (2 : Int32)).toNatClampNeg)).1) → (((kx1 (f_BS_program G (xs (x4 + (1 : Int32)).toNatClampNeg) (xs (x4 + (2 : Int32)).toNatClampNeg)).1) = 0 → (((lg_cmp (if (f_BS_program G (xs (x4 + (1 : Int32)).toNatClampNeg) (xs (x4 + (2 : Int32)).toNatClampNeg)).1 = 0 then (f_BS_program G (xs (x4 + (1 : Int32)).toNatClampNeg) (xs (x4 + (2 : Int32)).toNatClampNeg)).2.1.toInt64 else O) (((f_Mo_program ((f_BS_program G (xs (x4 + (1 : Int32)).toNatClampNeg) (xs (x4 + (2 : Int32)).toNatClampNeg)).2.2) (xs (x4 + (1 : Int32)).toNatClampNeg) (xs (x4 + (2 : Int32)).toNatClampNeg)).1).toInt64)) = 0 → ok_law N xs L n ((f_Mo_program ((f_BS_program G (xs (x4 + (1 : Int32)).toNatClampNeg) (xs (x4 + (2 : Int32)).toNatClampNeg)).2.2) (xs (x4 + (1 : Int32)).toNatClampNeg) (xs (x4 + (2 : Int32)).toNatClampNeg)).2) (if (f_BS_program G (xs (x4 + (1 : Int32)).toNatClampNeg) (xs (x4 + (2 : Int32)).toNatClampNeg)).1 = 0 then (f_BS_program G (xs (x4 + (1 : Int32)).toNatClampNeg) (xs (x4 + (2 : Int32)).toNatClampNeg)).2.1.toInt64 else O) (x4 + 4)) ∧ (¬ (lg_cmp (if (f_BS_program G (xs (x4 + (1 : Int32)).toNatClampNeg) (xs (x4 + (2 : Int32)).toNatClampNeg)).1 = 0 then (f_BS_program G (xs (x4 + (1 : Int32)).toNatClampNeg) (xs (x4 + (2 : Int32)).toNatClampNeg)).2.1.toInt64 else O) (((f_Mo_program ((f_BS_program G (xs (x4 + (1 : Int32)).toNatClampNeg) (xs (x4 + (2 : Int32)).toNatClampNeg)).2.2) (xs (x4 + (1 : Int32)).toNatClampNeg) (xs (x4 + (2 : Int32)).toNatClampNeg)).1).toInt64)) = 0 → False))) ∧ (¬ (kx1 (f_BS_program G (xs (x4 + (1 : Int32)).toNatClampNeg) (xs (x4 + (2 : Int32)).toNatClampNeg)).1) = 0 → ok_law N xs L n ((f_Mo_program ((f_BS_program G (xs (x4 + (1 : Int32)).toNatClampNeg) (xs (x4 + (2 : Int32)).toNatClampNeg)).2.2) (xs (x4 + (1 : Int32)).toNatClampNeg) (xs (x4 + (2 : Int32)).toNatClampNeg)).2) (if (f_BS_program G (xs (x4 + (1 : Int32)).toNatClampNeg) (xs (x4 + (2 : Int32)).toNatClampNeg)).1 = 0 then (f_BS_program G (xs (x4 + (1 : Int32)).toNatClampNeg) (xs (x4 + (2 : Int32)).toNatClampNeg)).2.1.toInt64 else O) (x4 + 4)))) ∧ (¬ (f_Mo_thrown ((f_Mo_program ((f_BS_program G (xs (x4 + (1 : Int32)).toNatClampNeg) (xs (x4 + (2 : Int32)).toNatClampNeg)).2.2) (xs (x4 + (1 : Int32)).toNatClampNeg) (xs (x4 + (2 : Int32)).toNatClampNeg)).2)) = (kx1 (f_BS_program G (xs (x4 + (1 : Int32)).toNatClampNeg) (xs (x4 + (2 : Int32)).toNatClampNeg)).1) → False))))))))) ∧ (¬ ((xs x4.toNatClampNeg) &&& (15 : Int32)) = 0 → ((((xs x4.toNatClampNeg) &&& (15 : Int32)) = 1 → (vp_in (x4 + (1 : Int32)) L ∧ (ok_BS_input G (xs (x4 + (1 : Int32)).toNatClampNeg) ∧ (vp_in (x4 + (1 : Int32)) L ∧ (ok_Mo_input ((f_BS_input G (xs (x4 + (1 : Int32)).toNatClampNeg)).2.2) (xs (x4 + (1 : Int32)).toNatClampNeg) ∧ (((f_Mo_thrown ((f_Mo_input ((f_BS_input G (xs (x4 + (1 : Int32)).toNatClampNeg)).2.2) (xs (x4 + (1 : Int32)).toNatClampNeg)).2)) = (kx1 (f_BS_input G (xs (x4 + (1 : Int32)).toNatClampNeg)).1) → (((kx1 (f_BS_input G (xs (x4 + (1 : Int32)).toNatClampNeg)).1) = 0 → (((lg_cmp (if (f_BS_input G (xs (x4 + (1 : Int32)).toNatClampNeg)).1 = 0 then (f_BS_input G (xs (x4 + (1 : Int32)).toNatClampNeg)).2.1.toInt64 else O) (((f_Mo_input ((f_BS_input G (xs (x4 + (1 : Int32)).toNatClampNeg)).2.2) (xs (x4 + (1 : Int32)).toNatClampNeg)).1).toInt64)) = 0 → ok_law N xs L n ((f_Mo_input ((f_BS_input G (xs (x4 + (1 : Int32)).toNatClampNeg)).2.2) (xs (x4 + (1 : Int32)).toNatClampNeg)).2) (if (f_BS_input G (xs (x4 + (1 : Int32)).toNatClampNeg)).1 = 0 then (f_BS_input G (xs (x4 + (1 : Int32)).toNatClampNeg)).2.1.toInt64 else O) (x4 + 4)) ∧ (¬ (lg_cmp (if (f_BS_input G (xs (x4 + (1 : Int32)).toNatClampNeg)).1 = 0 then (f_BS_input G (xs (x4 + (1 : Int32)).toNatClampNeg)).2.1.toInt64 else O) (((f_Mo_input ((f_BS_input G (xs (x4 + (1 : Int32)).toNatClampNeg)).2.2) (xs (x4 + (1 : Int32)).toNatClampNeg)).1).toInt64)) = 0 → False))) ∧ (¬ (kx1 (f_BS_input G (xs (x4 + (1 : Int32)).toNatClampNeg)).1) = 0 → ok_law N xs L n ((f_Mo_input ((f_BS_input G (xs (x4 + (1 : Int32)).toNatClampNeg)).2.2) (xs (x4 + (1 : Int32)).toNatClampNeg)).2) (if (f_BS_input G (xs (x4 + (1 : Int32)).toNatClampNeg)).1 = 0 then (f_BS_input G (xs (x4 + (1 : Int32)).toNatClampNeg)).2.1.toInt64 else O) (x4 + 4)))) ∧ (¬ (f_Mo_thrown ((f_Mo_input ((f_BS_input G (xs (x4 + (1 : Int32)).toNatClampNeg)).2.2) (xs (x4 + (1 : Int32)).toNatClampNeg)).2)) = (kx1 (f_BS_input G (xs (x4 + (1 : Int32)).toNatClampNeg)).1) → False))))))) ∧ (¬ ((xs x4.toNatClampNeg) &&& (15 : Int32)) = 1 → ((((xs x4.toNatClampNeg) &&& (15 : Int32)) = 2 → (vp_in (x4 + (1 : Int32)) L ∧ (vp_in (x4 + (2 : Int32)) L ∧ (ok_BS_poke G (xs (x4 + (1 : Int32)).toNatClampNeg) (xs (x4 + (2 : Int32)).toNatClampNeg) ∧ (vp_in (x4 + (1 : Int32)) L ∧ (vp_in (x4 + (2 : Int32)) L ∧ (ok_Mo_poke ((f_BS_poke G (xs (x4 + (1 : Int32)).toNatClampNeg) (xs (x4 + (2 : Int32)).toNatClampNeg)).2.2) (xs (x4 + (1 : Int32)).toNatClampNeg) (xs (x4 + (2 : Int32)).toNatClampNeg) ∧ (((f_Mo_thrown ((f_Mo_poke ((f_BS_poke G (xs (x4 + (1 : Int32)).toNatClampNeg) (xs (x4 + (2 : Int32)).toNatClampNeg)).2.2) (xs (x4 + (1 : Int32)).toNatClampNeg) (xs (x4 + (2 : Int32)).toNatClampNeg)).2)) = (kx1 (f_BS_poke G (xs (x4 + (1 : Int32)).toNatClampNeg) (xs (x4 + (2 : Int32)).toNatClampNeg)).1) → (((kx1 (f_BS_poke G (xs (x4 + (1 : Int32)).toNatClampNeg) (xs (x4 + (2 : Int32)).toNatClampNeg)).1) = 0 → (((lg_cmp (if (f_BS_poke G (xs (x4 + (1 : Int32)).toNatClampNeg) (xs (x4 + (2 : Int32)).toNatClampNeg)).1 = 0 then (f_BS_poke G (xs (x4 + (1 : Int32)).toNatClampNeg) (xs (x4 + (2 : Int32)).toNatClampNeg)).2.1.toInt64 else O) (((f_Mo_poke ((f_BS_poke G (xs (x4 + (1 : Int32)).toNatClampNeg) (xs (x4 + (2 : Int32)).toNatClampNeg)).2.2) (xs (x4 + (1 : Int32)).toNatClampNeg) (xs (x4 + (2 : Int32)).toNatClampNeg)).1).toInt64)) = 0 → ok_law N xs L n ((f_Mo_poke ((f_BS_poke G (xs (x4 + (1 : Int32)).toNatClampNeg) (xs (x4 + (2 : Int32)).toNatClampNeg)).2.2) (xs (x4 + (1 : Int32)).toNatClampNeg) (xs (x4 + (2 : Int32)).toNatClampNeg)).2) (if (f_BS_poke G (xs (x4 + (1 : Int32)).toNatClampNeg) (xs (x4 + (2 : Int32)).toNatClampNeg)).1 = 0 then (f_BS_poke G (xs (x4 + (1 : Int32)).toNatClampNeg) (xs (x4 + (2 : Int32)).toNatClampNeg)).2.1.toInt64 else O) (x4 + 4)) ∧ (¬ (lg_cmp (if (f_BS_poke G (xs (x4 + (1 : Int32)).toNatClampNeg) (xs (x4 + (2 : Int32)).toNatClampNeg)).1 = 0 then (f_BS_poke G (xs (x4 + (1 : Int32)).toNatClampNeg) (xs (x4 + (2 : Int32)).toNatClampNeg)).2.1.toInt64 else O) (((f_Mo_poke ((f_BS_poke G (xs (x4 + (1 : Int32)).toNatClampNeg) (xs (x4 + (2 : Int32)).toNatClampNeg)).2.2) (xs (x4 + (1 : Int32)).toNatClampNeg) (xs (x4 + (2 : Int32)).toNatClampNeg)).1).toInt64)) = 0 → False))) ∧ (¬ (kx1 (f_BS_poke G (xs (x4 + (1 : Int32)).toNatClampNeg) (xs (x4 + (2 : Int32)).toNatClampNeg)).1) = 0 → ok_law N xs L n ((f_Mo_poke ((f_BS_poke G (xs (x4 + (1 : Int32)).toNatClampNeg) (xs (x4 + (2 : Int32)).toNatClampNeg)).2.2) (xs (x4 + (1 : Int32)).toNatClampNeg) (xs (x4 + (2 : Int32)).toNatClampNeg)).2) (if (f_BS_poke G (xs (x4 + (1 : Int32)).toNatClampNeg) (xs (x4 + (2 : Int32)).toNatClampNeg)).1 = 0 then (f_BS_poke G (xs (x4 + (1 : Int32)).toNatClampNeg) (xs (x4 + (2 : Int32)).toNatClampNeg)).2.1.toInt64 else O) (x4 + 4)))) ∧ (¬ (f_Mo_thrown ((f_Mo_poke ((f_BS_poke G (xs (x4 + (1 : Int32)).toNatClampNeg) (xs (x4 + (2 : Int32)).toNatClampNeg)).2.2) (xs (x4 + (1 : Int32)).toNatClampNeg) (xs (x4 + (2 : Int32)).toNatClampNeg)).2)) = (kx1 (f_BS_poke G (xs (x4 + (1 : Int32)).toNatClampNeg) (xs (x4 + (2 : Int32)).toNatClampNeg)).1) → False))))))))) ∧ (¬ ((xs x4.toNatClampNeg) &&& (15 : Int32)) = 2 → ((((xs x4.toNatClampNeg) &&& (15 : Int32)) = 3 → (vp_in (x4 + (1 : Int32)) L ∧ (ok_BS_step N G (xs (x4 + (1 : Int32)).toNatClampNeg) ∧ (vp_in (x4 + (1 : Int32)) L ∧ (ok_Mo_step N ((f_BS_step N G (xs (x4 + (1 : Int32)).toNatClampNeg)).2.2) (xs (x4 + (1 : Int32)).toNatClampNeg) ∧ (((f_Mo_thrown ((f_Mo_step N ((f_BS_step N G (xs (x4 + (1 : Int32)).toNatClampNeg)).2.2) (xs (x4 + (1 : Int32)).toNatClampNeg)).2)) = (kx1 (f_BS_step N G (xs (x4 + (1 : Int32)).toNatClampNeg)).1) → (((kx1 (f_BS_step N G (xs (x4 + (1 : Int32)).toNatClampNeg)).1) = 0 → (((lg_cmp (if (f_BS_step N G (xs (x4 + (1 : Int32)).toNatClampNeg)).1 = 0 then (f_BS_step N G (xs (x4 + (1 : Int32)).toNatClampNeg)).2.1.toInt64 else O) (((f_Mo_step N ((f_BS_step N G (xs (x4 + (1 : Int32)).toNatClampNeg)).2.2) (xs (x4 + (1 : Int32)).toNatClampNeg)).1).toInt64)) = 0 → ok_law N xs L n ((f_Mo_step N ((f_BS_step N G (xs (x4 + (1 : Int32)).toNatClampNeg)).2.2) (xs (x4 + (1 : Int32)).toNatClampNeg)).2) (if (f_BS_step N G (xs (x4 + (1 : Int32)).toNatClampNeg)).1 = 0 then (f_BS_step N G (xs (x4 + (1 : Int32)).toNatClampNeg)).2.1.toInt64 else O) (x4 + 4)) ∧ (¬ (lg_cmp (if (f_BS_step N G (xs (x4 + (1 : Int32)).toNatClampNeg)).1 = 0 then (f_BS_step N G (xs (x4 + (1 : Int32)).toNatClampNeg)).2.1.toInt64 else O) (((f_Mo_step N ((f_BS_step N G (xs (x4 + (1 : Int32)).toNatClampNeg)).2.2) (xs (x4 + (1 : Int32)).toNatClampNeg)).1).toInt64)) = 0 → False))) ∧ (¬ (kx1 (f_BS_step N G (xs (x4 + (1 : Int32)).toNatClampNeg)).1) = 0 → ok_law N xs L n ((f_Mo_step N ((f_BS_step N G (xs (x4 + (1 : Int32)).toNatClampNeg)).2.2) (xs (x4 + (1 : Int32)).toNatClampNeg)).2) (if (f_BS_step N G (xs (x4 + (1 : Int32)).toNatClampNeg)).1 = 0 then (f_BS_step N G (xs (x4 + (1 : Int32)).toNatClampNeg)).2.1.toInt64 else O) (x4 + 4)))) ∧ (¬ (f_Mo_thrown ((f_Mo_step N ((f_BS_step N G (xs (x4 + (1 : Int32)).toNatClampNeg)).2.2) (xs (x4 + (1 : Int32)).toNatClampNeg)).2)) = (kx1 (f_BS_step N G (xs (x4 + (1 : Int32)).toNatClampNeg)).1) → False))))))) ∧ (¬ ((xs x4.toNatClampNeg) &&& (15 : Int32)) = 3 → ((((xs x4.toNatClampNeg) &&& (15 : Int32)) = 4 → (vp_in (x4 + (1 : Int32)) L ∧ (ok_BS_back N G (xs (x4 + (1 : Int32)).toNatClampNeg) ∧ (vp_in (x4 + (1 : Int32)) L ∧ (ok_Mo_back N ((f_BS_back N G (xs (x4 + (1 : Int32)).toNatClampNeg)).2.2) (xs (x4 + (1 : Int32)).toNatClampNeg) ∧ (((f_Mo_thrown ((f_Mo_back N ((f_BS_back N G (xs (x4 + (1 : Int32)).toNatClampNeg)).2.2) (xs (x4 + (1 : Int32)).toNatClampNeg)).2)) = (kx1 (f_BS_back N G (xs (x4 + (1 : Int32)).toNatClampNeg)).1) → (((kx1 (f_BS_back N G (xs (x4 + (1 : Int32)).toNatClampNeg)).1) = 0 → (((lg_cmp (if (f_BS_back N G (xs (x4 + (1 : Int32)).toNatClampNeg)).1 = 0 then (f_BS_back N G (xs (x4 + (1 : Int32)).toNatClampNeg)).2.1.toInt64 else O) (((f_Mo_back N ((f_BS_back N G (xs (x4 + (1 : Int32)).toNatClampNeg)).2.2) (xs (x4 + (1 : Int32)).toNatClampNeg)).1).toInt64)) = 0 → ok_law N xs L n ((f_Mo_back N ((f_BS_back N G (xs (x4 + (1 : Int32)).toNatClampNeg)).2.2) (xs (x4 + (1 : Int32)).toNatClampNeg)).2) (if (f_BS_back N G (xs (x4 + (1 : Int32)).toNatClampNeg)).1 = 0 then (f_BS_back N G (xs (x4 + (1 : Int32)).toNatClampNeg)).2.1.toInt64 else O) (x4 + 4)) ∧ (¬ (lg_cmp (if (f_BS_back N G (xs (x4 + (1 : Int32)).toNatClampNeg)).1 = 0 then (f_BS_back N G (xs (x4 + (1 : Int32)).toNatClampNeg)).2.1.toInt64 else O) (((f_Mo_back N ((f_BS_back N G (xs (x4 + (1 : Int32)).toNatClampNeg)).2.2) (xs (x4 + (1 : Int32)).toNatClampNeg)).1).toInt64)) = 0 → False))) ∧ (¬ (kx1 (f_BS_back N G (xs (x4 + (1 : Int32)).toNatClampNeg)).1) = 0 → ok_law N xs L n ((f_Mo_back N ((f_BS_back N G (xs (x4 + (1 : Int32)).toNatClampNeg)).2.2) (xs (x4 + (1 : Int32)).toNatClampNeg)).2) (if (f_BS_back N G (xs (x4 + (1 : Int32)).toNatClampNeg)).1 = 0 then (f_BS_back N G (xs (x4 + (1 : Int32)).toNatClampNeg)).2.1.toInt64 else O) (x4 + 4)))) ∧ (¬ (f_Mo_thrown ((f_Mo_back N ((f_BS_back N G (xs (x4 + (1 : Int32)).toNatClampNeg)).2.2) (xs (x4 + (1 : Int32)).toNatClampNeg)).2)) = (kx1 (f_BS_back N G (xs (x4 + (1 : Int32)).toNatClampNeg)).1) → False))))))) ∧ (¬ ((xs x4.toNatClampNeg) &&& (15 : Int32)) = 4 → ((((xs x4.toNatClampNeg) &&& (15 : Int32)) = 5 → (vp_in (x4 + (1 : Int32)) L ∧ (vp_in (x4 + (2 : Int32)) L ∧ (ok_BS_look N G (xs (x4 + (1 : Int32)).toNatClampNeg) (xs (x4 + (2 : Int32)).toNatClampNeg) ∧ (vp_in (x4 + (1 : Int32)) L ∧ (vp_in (x4 + (2 : Int32)) L ∧ (ok_Mo_look G (xs (x4 + (1 : Int32)).toNatClampNeg) (xs (x4 + (2 : Int32)).toNatClampNeg) ∧ (((f_Mo_thrown ((f_Mo_look G (xs (x4 + (1 : Int32)).toNatClampNeg) (xs (x4 + (2 : Int32)).toNatClampNeg)).2)) = (kx2 (f_BS_look N G (xs (x4 + (1 : Int32)).toNatClampNeg) (xs (x4 + (2 : Int32)).toNatClampNeg)).1) → (((kx2 (f_BS_look N G (xs (x4 + (1 : Int32)).toNatClampNeg) (xs (x4 + (2 : Int32)).toNatClampNeg)).1) = 0 → (((lg_cmp (if (f_BS_look N G (xs (x4 + (1 : Int32)).toNatClampNeg) (xs (x4 + (2 : Int32)).toNatClampNeg)).1 = 0 then (f_BS_look N G (xs (x4 + (1 : Int32)).toNatClampNeg) (xs (x4 + (2 : Int32)).toNatClampNeg)).2.toInt64 else O) (((f_Mo_look G (xs (x4 + (1 : Int32)).toNatClampNeg) (xs (x4 + (2 : Int32)).toNatClampNeg)).1).toInt64)) = 0 → ok_law N xs L n ((f_Mo_look G (xs (x4 + (1 : Int32)).toNatClampNeg) (xs (x4 + (2 : Int32)).toNatClampNeg)).2) (if (f_BS_look N G (xs (x4 + (1 : Int32)).toNatClampNeg) (xs (x4 + (2 : Int32)).toNatClampNeg)).1 = 0 then (f_BS_look N G (xs (x4 + (1 : Int32)).toNatClampNeg) (xs (x4 + (2 : Int32)).toNatClampNeg)).2.toInt64 else O) (x4 + 4)) ∧ (¬ (lg_cmp (if (f_BS_look N G (xs (x4 + (1 : Int32)).toNatClampNeg) (xs (x4 + (2 : Int32)).toNatClampNeg)).1 = 0 then (f_BS_look N G (xs (x4 + (1 : Int32)).toNatClampNeg) (xs (x4 + (2 : Int32)).toNatClampNeg)).2.toInt64 else O) (((f_Mo_look G (xs (x4 + (1 : Int32)).toNatClampNeg) (xs (x4 + (2 : Int32)).toNatClampNeg)).1).toInt64)) = 0 → False))) ∧ (¬ (kx2 (f_BS_look N G (xs (x4 + (1 : Int32)).toNatClampNeg) (xs (x4 + (2 : Int32)).toNatClampNeg)).1) = 0 → ok_law N xs L n ((f_Mo_look G (xs (x4 + (1 : Int32)).toNatClampNeg) (xs (x4 + (2 : Int32)).toNatClampNeg)).2) (if (f_BS_look N G (xs (x4 + (1 : Int32)).toNatClampNeg) (xs (x4 + (2 : Int32)).toNatClampNeg)).1 = 0 then (f_BS_look N G (xs (x4 + (1 : Int32)).toNatClampNeg) (xs (x4 + (2 : Int32)).toNatClampNeg)).2.toInt64 else O) (x4 + 4)))) ∧ (¬ (f_Mo_thrown ((f_Mo_look G (xs (x4 + (1 : Int32)).toNatClampNeg) (xs (x4 + (2 : Int32)).toNatClampNeg)).2)) = (kx2 (f_BS_look N G (xs (x4 + (1 : Int32)).toNatClampNeg) (xs (x4 + (2 : Int32)).toNatClampNeg)).1) → False))))))))) ∧ (¬ ((xs x4.toNatClampNeg) &&& (15 : Int32)) = 5 → ((((xs x4.toNatClampNeg) &&& (15 : Int32)) = 6 → (vp_in (x4 + (1 : Int32)) L ∧ (ok_BS_wrote N G (xs (x4 + (1 : Int32)).toNatClampNeg) ∧ (vp_in (x4 + (1 : Int32)) L ∧ (ok_Mo_wrote N G (xs (x4 + (1 : Int32)).toNatClampNeg) ∧ (((f_Mo_thrown ((f_Mo_wrote N G (xs (x4 + (1 : Int32)).toNatClampNeg)).2)) = (kx1 (f_BS_wrote N G (xs (x4 + (1 : Int32)).toNatClampNeg)).1) → (((kx1 (f_BS_wrote N G (xs (x4 + (1 : Int32)).toNatClampNeg)).1) = 0 → (((lg_cmp (if (f_BS_wrote N G (xs (x4 + (1 : Int32)).toNatClampNeg)).1 = 0 then (f_BS_wrote N G (xs (x4 + (1 : Int32)).toNatClampNeg)).2.toInt64 else O) (((f_Mo_wrote N G (xs (x4 + (1 : Int32)).toNatClampNeg)).1).toInt64)) = 0 → ok_law N xs L n ((f_Mo_wrote N G (xs (x4 + (1 : Int32)).toNatClampNeg)).2) (if (f_BS_wrote N G (xs (x4 + (1 : Int32)).toNatClampNeg)).1 = 0 then (f_BS_wrote N G (xs (x4 + (1 : Int32)).toNatClampNeg)).2.toInt64 else O) (x4 + 4)) ∧ (¬ (lg_cmp (if (f_BS_wrote N G (xs (x4 + (1 : Int32)).toNatClampNeg)).1 = 0 then (f_BS_wrote N G (xs (x4 + (1 : Int32)).toNatClampNeg)).2.toInt64 else O) (((f_Mo_wrote N G (xs (x4 + (1 : Int32)).toNatClampNeg)).1).toInt64)) = 0 → False))) ∧ (¬ (kx1 (f_BS_wrote N G (xs (x4 + (1 : Int32)).toNatClampNeg)).1) = 0 → ok_law N xs L n ((f_Mo_wrote N G (xs (x4 + (1 : Int32)).toNatClampNeg)).2) (if (f_BS_wrote N G (xs (x4 + (1 : Int32)).toNatClampNeg)).1 = 0 then (f_BS_wrote N G (xs (x4 + (1 : Int32)).toNatClampNeg)).2.toInt64 else O) (x4 + 4)))) ∧ (¬ (f_Mo_thrown ((f_Mo_wrote N G (xs (x4 + (1 : Int32)).toNatClampNeg)).2)) = (kx1 (f_BS_wrote N G (xs (x4 + (1 : Int32)).toNatClampNeg)).1) → False))))))) ∧ (¬ ((xs x4.toNatClampNeg) &&& (15 : Int32)) = 6 → ((((xs x4.toNatClampNeg) &&& (15 : Int32)) = 7 → (vp_in (x4 + (1 : Int32)) L ∧ (vp_in (x4 + (2 : Int32)) L ∧ (vp_in (x4 + (3 : Int32)) L ∧ (ok_BS_when N G (xs (x4 + (1 : Int32)).toNatClampNeg) (xs (x4 + (2 : Int32)).toNatClampNeg) (xs (x4 + (3 : Int32)).toNatClampNeg) ∧ (vp_in (x4 + (1 : Int32)) L ∧ (vp_in (x4 + (2 : Int32)) L ∧ (vp_in (x4 + (3 : Int32)) L ∧ (ok_Mo_when N G (xs (x4 + (1 : Int32)).toNatClampNeg) (xs (x4 + (2 : Int32)).toNatClampNeg) (xs (x4 + (3 : Int32)).toNatClampNeg) ∧ (((f_Mo_thrown ((f_Mo_when N G (xs (x4 + (1 : Int32)).toNatClampNeg) (xs (x4 + (2 : Int32)).toNatClampNeg) (xs (x4 + (3 : Int32)).toNatClampNeg)).2)) = (kx2 (f_BS_when N G (xs (x4 + (1 : Int32)).toNatClampNeg) (xs (x4 + (2 : Int32)).toNatClampNeg) (xs (x4 + (3 : Int32)).toNatClampNeg)).1) → (((kx2 (f_BS_when N G (xs (x4 + (1 : Int32)).toNatClampNeg) (xs (x4 + (2 : Int32)).toNatClampNeg) (xs (x4 + (3 : Int32)).toNatClampNeg)).1) = 0 → (((lg_cmp (if (f_BS_when N G (xs (x4 + (1 : Int32)).toNatClampNeg) (xs (x4 + (2 : Int32)).toNatClampNeg) (xs (x4 + (3 : Int32)).toNatClampNeg)).1 = 0 then (f_BS_when N G (xs (x4 + (1 : Int32)).toNatClampNeg) (xs (x4 + (2 : Int32)).toNatClampNeg) (xs (x4 + (3 : Int32)).toNatClampNeg)).2.toInt64 else O) (((f_Mo_when N G (xs (x4 + (1 : Int32)).toNatClampNeg) (xs (x4 + (2 : Int32)).toNatClampNeg) (xs (x4 + (3 : Int32)).toNatClampNeg)).1).toInt64)) = 0 → ok_law N xs L n ((f_Mo_when N G (xs (x4 + (1 : Int32)).toNatClampNeg) (xs (x4 + (2 : Int32)).toNatClampNeg) (xs (x4 + (3 : Int32)).toNatClampNeg)).2) (if (f_BS_when N G (xs (x4 + (1 : Int32)).toNatClampNeg) (xs (x4 + (2 : Int32)).toNatClampNeg) (xs (x4 + (3 : Int32)).toNatClampNeg)).1 = 0 then (f_BS_when N G (xs (x4 + (1 : Int32)).toNatClampNeg) (xs (x4 + (2 : Int32)).toNatClampNeg) (xs (x4 + (3 : Int32)).toNatClampNeg)).2.toInt64 else O) (x4 + 4)) ∧ (¬ (lg_cmp (if (f_BS_when N G (xs (x4 + (1 : Int32)).toNatClampNeg) (xs (x4 + (2 : Int32)).toNatClampNeg) (xs (x4 + (3 : Int32)).toNatClampNeg)).1 = 0 then (f_BS_when N G (xs (x4 + (1 : Int32)).toNatClampNeg) (xs (x4 + (2 : Int32)).toNatClampNeg) (xs (x4 + (3 : Int32)).toNatClampNeg)).2.toInt64 else O) (((f_Mo_when N G (xs (x4 + (1 : Int32)).toNatClampNeg) (xs (x4 + (2 : Int32)).toNatClampNeg) (xs (x4 + (3 : Int32)).toNatClampNeg)).1).toInt64)) = 0 → False))) ∧ (¬ (kx2 (f_BS_when N G (xs (x4 + (1 : Int32)).toNatClampNeg) (xs (x4 + (2 : Int32)).toNatClampNeg) (xs (x4 + (3 : Int32)).toNatClampNeg)).1) = 0 → ok_law N xs L n ((f_Mo_when N G (xs (x4 + (1 : Int32)).toNatClampNeg) (xs (x4 + (2 : Int32)).toNatClampNeg) (xs (x4 + (3 : Int32)).toNatClampNeg)).2) (if (f_BS_when N G (xs (x4 + (1 : Int32)).toNatClampNeg) (xs (x4 + (2 : Int32)).toNatClampNeg) (xs (x4 + (3 : Int32)).toNatClampNeg)).1 = 0 then (f_BS_when N G (xs (x4 + (1 : Int32)).toNatClampNeg) (xs (x4 + (2 : Int32)).toNatClampNeg) (xs (x4 + (3 : Int32)).toNatClampNeg)).2.toInt64 else O) (x4 + 4)))) ∧ (¬ (f_Mo_thrown ((f_Mo_when N G (xs (x4 + (1 : Int32)).toNatClampNeg) (xs (x4 + (2 : Int32)).toNatClampNeg) (xs (x4 + (3 : Int32)).toNatClampNeg)).2)) = (kx2 (f_BS_when N G (xs (x4 + (1 : Int32)).toNatClampNeg) (xs (x4 + (2 : Int32)).toNatClampNeg) (xs (x4 + (3 : Int32)).toNatClampNeg)).1) → False))))))))))) ∧ (¬ ((xs x4.toNatClampNeg) &&& (15 : Int32)) = 7 → ((((xs x4.toNatClampNeg) &&& (15 : Int32)) = 8 → (ok_BS_replay N G ∧ (ok_Mo_replay N ((f_BS_replay N G).2) ∧ ((((f_BS_replay N G).1) = ((f_Mo_replay N ((f_BS_replay N G).2)).1) → ok_law N xs L n ((f_Mo_replay N ((f_BS_replay N G).2)).2) O (x4 + 4)) ∧ (¬ ((f_BS_replay N G).1) = ((f_Mo_replay N ((f_BS_replay N G).2)).1) → False))))) ∧ (¬ ((xs x4.toNatClampNeg) &&& (15 : Int32)) = 8 → ((((xs x4.toNatClampNeg) &&& (15 : Int32)) = 9 → (vp_in (x4 + (1 : Int32)) L ∧ (ok_BS_cost G (xs (x4 + (1 : Int32)).toNatClampNeg) ∧ (vp_in (x4 + (1 : Int32)) L ∧ (ok_Mo_cost G (xs (x4 + (1 : Int32)).toNatClampNeg) ∧ (((f_Mo_thrown ((f_Mo_cost G (xs (x4 + (1 : Int32)).toNatClampNeg)).2)) = (kx1 (f_BS_cost G (xs (x4 + (1 : Int32)).toNatClampNeg)).1) → (((kx1 (f_BS_cost G (xs (x4 + (1 : Int32)).toNatClampNeg)).1) = 0 → (((lg_cmp (if (f_BS_cost G (xs (x4 + (1 : Int32)).toNatClampNeg)).1 = 0 then (f_BS_cost G (xs (x4 + (1 : Int32)).toNatClampNeg)).2.toInt64 else O) (((f_Mo_cost G (xs (x4 + (1 : Int32)).toNatClampNeg)).1).toInt64)) = 0 → ok_law N xs L n ((f_Mo_cost G (xs (x4 + (1 : Int32)).toNatClampNeg)).2) (if (f_BS_cost G (xs (x4 + (1 : Int32)).toNatClampNeg)).1 = 0 then (f_BS_cost G (xs (x4 + (1 : Int32)).toNatClampNeg)).2.toInt64 else O) (x4 + 4)) ∧ (¬ (lg_cmp (if (f_BS_cost G (xs (x4 + (1 : Int32)).toNatClampNeg)).1 = 0 then (f_BS_cost G (xs (x4 + (1 : Int32)).toNatClampNeg)).2.toInt64 else O) (((f_Mo_cost G (xs (x4 + (1 : Int32)).toNatClampNeg)).1).toInt64)) = 0 → False))) ∧ (¬ (kx1 (f_BS_cost G (xs (x4 + (1 : Int32)).toNatClampNeg)).1) = 0 → ok_law N xs L n ((f_Mo_cost G (xs (x4 + (1 : Int32)).toNatClampNeg)).2) (if (f_BS_cost G (xs (x4 + (1 : Int32)).toNatClampNeg)).1 = 0 then (f_BS_cost G (xs (x4 + (1 : Int32)).toNatClampNeg)).2.toInt64 else O) (x4 + 4)))) ∧ (¬ (f_Mo_thrown ((f_Mo_cost G (xs (x4 + (1 : Int32)).toNatClampNeg)).2)) = (kx1 (f_BS_cost G (xs (x4 + (1 : Int32)).toNatClampNeg)).1) → False))))))) ∧ (¬ ((xs x4.toNatClampNeg) &&& (15 : Int32)) = 9 → ((((xs x4.toNatClampNeg) &&& (15 : Int32)) = 10 → (vp_in (x4 + (1 : Int32)) L ∧ (ok_BS_count G (xs (x4 + (1 : Int32)).toNatClampNeg) ∧ (vp_in (x4 + (1 : Int32)) L ∧ (ok_Mo_count N G (xs (x4 + (1 : Int32)).toNatClampNeg) ∧ (((f_BS_count G (xs (x4 + (1 : Int32)).toNatClampNeg)) = ((f_Mo_count N G (xs (x4 + (1 : Int32)).toNatClampNeg)).1) → ok_law N xs L n ((f_Mo_count N G (xs (x4 + (1 : Int32)).toNatClampNeg)).2) O (x4 + 4)) ∧ (¬ (f_BS_count G (xs (x4 + (1 : Int32)).toNatClampNeg)) = ((f_Mo_count N G (xs (x4 + (1 : Int32)).toNatClampNeg)).1) → False))))))) ∧ (¬ ((xs x4.toNatClampNeg) &&& (15 : Int32)) = 10 → ok_law N xs L n G O (x4 + 4))))))))))))))))))))))))))
section GLw
variable {p : Program} {l : Launch} {e : Env} {R : Room} {s0 s : State} {m : MethodId} {args : Array Value} {below : List Frame} {meth : Method} {c : Code} {H : Heap} {locs : List Loc} {cells slots mc ms : Nat} {Q : State → Prop} {cc : ByteArray} {nL pc : Nat} {ls : Array Slot} {rest : List Value} {own : String} {D : va_G} {cI cL : ClassId} {ad : Nat → Nat} {G : gT} {O : Int64}
theorem gl_load (hC : CallFix p m c cc nL s args gtb own) (hB : gB s0 s D cI cL ad G O H locs) (hdg : decode cc pc = .ok (.laload, 1)) (kk : W p l e R s m args below meth c H locs cells slots Q (F0 m (pc + 1) ls (.long O :: rest))) :
    W p l e R s m args below meth c H locs cells slots Q (F0 m pc ls (.int 0 :: .ref (ad 24) :: rest)) :=
  va_lald (q0 := 24) (t0 := 1) (f := fun _ => O) hC.1 hC.2.1 hB.2.1 hB.1 rfl rfl (by unfold vp_in; decide) hdg kk
end GLw
set_option maxHeartbeats 8000000 in
set_option maxRecDepth 100000 in
theorem law_loop {p : Program} {l : Launch} {e : Env} {s : State} {m : MethodId} {below : List Frame} {meth : Method} {c : Code} {D : va_G} {cI cL : ClassId} {ad : Nat → Nat} {b L : Nat} {xs : Nat → Int32} (N : Nat) (hst : l.stackTraces = false) (C0 : lw_At p s m meth c b L xs) : ∀ (n : Nat) (G : gT) (O : Int64) (x4 : Int32) (cells slots : Nat), cells + n ≤ 601024 → slots + 6 * n ≤ 7293000 → ok_law N xs L n G O x4 → ∀ (H : Heap) (locs : List Loc), gB s s D cI cL ad G O H locs → ∀ ls : Array Slot, lv_has ls 7 [(0, .ref b), (1, .ref (ad 0)), (2, .ref (ad 16)), (3, .ref (ad 24)), (4, .int x4)] → W p l e room_1 s m #[Value.ref b] below meth c H locs cells slots (lw_Z below #[Value.ref b] s) (F0 m 43 ls []) := by
  obtain ⟨hx, hb, hr, hml, hown, hts, hSX, hbl, hlk, hgv⟩ := C0
  have hC : CallFix p m c b_La_law 7 s #[Value.ref b] gtb R_La := ⟨hx, hb, hml, hown, fun w hw => hts w (List.mem_filter.mp hw).1⟩
  intro n
  induction n with
  | zero =>
    intro G O x4 cells slots _ _ hok
    exact absurd hok (fun h => h)
  | succ n ih =>
    intro G O x4 cells slots hcs hss hok H locs hB ls hl
    have hbA : ¬ gA ad s.heap.size b := g_old hB.2.2.2.2 (Nat.le_refl _) hbl
    have hok : ((((Int32.ofNat L) - (4 : Int32)) < x4 → True) ∧ (¬ ((Int32.ofNat L) - (4 : Int32)) < x4 → (vp_in x4 L ∧ ((((xs x4.toNatClampNeg) &&& (15 : Int32)) = 0 → (vp_in (x4 + (1 : Int32)) L ∧ (vp_in (x4 + (2 : Int32)) L ∧ (ok_BS_program G (xs (x4 + (1 : Int32)).toNatClampNeg) (xs (x4 + (2 : Int32)).toNatClampNeg) ∧ (vp_in (x4 + (1 : Int32)) L ∧ (vp_in (x4 + (2 : Int32)) L ∧ (ok_Mo_program ((f_BS_program G (xs (x4 + (1 : Int32)).toNatClampNeg) (xs (x4 + (2 : Int32)).toNatClampNeg)).2.2) (xs (x4 + (1 : Int32)).toNatClampNeg) (xs (x4 + (2 : Int32)).toNatClampNeg) ∧ (((f_Mo_thrown ((f_Mo_program ((f_BS_program G (xs (x4 + (1 : Int32)).toNatClampNeg) (xs (x4 + (2 : Int32)).toNatClampNeg)).2.2) (xs (x4 + (1 : Int32)).toNatClampNeg) (xs (x4 + (2 : Int32)).toNatClampNeg)).2)) = (kx1 (f_BS_program G (xs (x4 + (1 : Int32)).toNatClampNeg) (xs (x4 + (2 : Int32)).toNatClampNeg)).1) → (((kx1 (f_BS_program G (xs (x4 + (1 : Int32)).toNatClampNeg) (xs (x4 + (2 : Int32)).toNatClampNeg)).1) = 0 → (((lg_cmp (if (f_BS_program G (xs (x4 + (1 : Int32)).toNatClampNeg) (xs (x4 + (2 : Int32)).toNatClampNeg)).1 = 0 then (f_BS_program G (xs (x4 + (1 : Int32)).toNatClampNeg) (xs (x4 + (2 : Int32)).toNatClampNeg)).2.1.toInt64 else O) (((f_Mo_program ((f_BS_program G (xs (x4 + (1 : Int32)).toNatClampNeg) (xs (x4 + (2 : Int32)).toNatClampNeg)).2.2) (xs (x4 + (1 : Int32)).toNatClampNeg) (xs (x4 + (2 : Int32)).toNatClampNeg)).1).toInt64)) = 0 → ok_law N xs L n ((f_Mo_program ((f_BS_program G (xs (x4 + (1 : Int32)).toNatClampNeg) (xs (x4 + (2 : Int32)).toNatClampNeg)).2.2) (xs (x4 + (1 : Int32)).toNatClampNeg) (xs (x4 + (2 : Int32)).toNatClampNeg)).2) (if (f_BS_program G (xs (x4 + (1 : Int32)).toNatClampNeg) (xs (x4 + (2 : Int32)).toNatClampNeg)).1 = 0 then (f_BS_program G (xs (x4 + (1 : Int32)).toNatClampNeg) (xs (x4 + (2 : Int32)).toNatClampNeg)).2.1.toInt64 else O) (x4 + 4)) ∧ (¬ (lg_cmp (if (f_BS_program G (xs (x4 + (1 : Int32)).toNatClampNeg) (xs (x4 + (2 : Int32)).toNatClampNeg)).1 = 0 then (f_BS_program G (xs (x4 + (1 : Int32)).toNatClampNeg) (xs (x4 + (2 : Int32)).toNatClampNeg)).2.1.toInt64 else O) (((f_Mo_program ((f_BS_program G (xs (x4 + (1 : Int32)).toNatClampNeg) (xs (x4 + (2 : Int32)).toNatClampNeg)).2.2) (xs (x4 + (1 : Int32)).toNatClampNeg) (xs (x4 + (2 : Int32)).toNatClampNeg)).1).toInt64)) = 0 → False))) ∧ (¬ (kx1 (f_BS_program G (xs (x4 + (1 : Int32)).toNatClampNeg) (xs (x4 + (2 : Int32)).toNatClampNeg)).1) = 0 → ok_law N xs L n ((f_Mo_program ((f_BS_program G (xs (x4 + (1 : Int32)).toNatClampNeg) (xs (x4 + (2 : Int32)).toNatClampNeg)).2.2) (xs (x4 + (1 : Int32)).toNatClampNeg) (xs (x4 + (2 : Int32)).toNatClampNeg)).2) (if (f_BS_program G (xs (x4 + (1 : Int32)).toNatClampNeg) (xs (x4 + (2 : Int32)).toNatClampNeg)).1 = 0 then (f_BS_program G (xs (x4 + (1 : Int32)).toNatClampNeg) (xs (x4 + (2 : Int32)).toNatClampNeg)).2.1.toInt64 else O) (x4 + 4)))) ∧ (¬ (f_Mo_thrown ((f_Mo_program ((f_BS_program G (xs (x4 + (1 : Int32)).toNatClampNeg) (xs (x4 + (2 : Int32)).toNatClampNeg)).2.2) (xs (x4 + (1 : Int32)).toNatClampNeg) (xs (x4 + (2 : Int32)).toNatClampNeg)).2)) = (kx1 (f_BS_program G (xs (x4 + (1 : Int32)).toNatClampNeg) (xs (x4 + (2 : Int32)).toNatClampNeg)).1) → False))))))))) ∧ (¬ ((xs x4.toNatClampNeg) &&& (15 : Int32)) = 0 → ((((xs x4.toNatClampNeg) &&& (15 : Int32)) = 1 → (vp_in (x4 + (1 : Int32)) L ∧ (ok_BS_input G (xs (x4 + (1 : Int32)).toNatClampNeg) ∧ (vp_in (x4 + (1 : Int32)) L ∧ (ok_Mo_input ((f_BS_input G (xs (x4 + (1 : Int32)).toNatClampNeg)).2.2) (xs (x4 + (1 : Int32)).toNatClampNeg) ∧ (((f_Mo_thrown ((f_Mo_input ((f_BS_input G (xs (x4 + (1 : Int32)).toNatClampNeg)).2.2) (xs (x4 + (1 : Int32)).toNatClampNeg)).2)) = (kx1 (f_BS_input G (xs (x4 + (1 : Int32)).toNatClampNeg)).1) → (((kx1 (f_BS_input G (xs (x4 + (1 : Int32)).toNatClampNeg)).1) = 0 → (((lg_cmp (if (f_BS_input G (xs (x4 + (1 : Int32)).toNatClampNeg)).1 = 0 then (f_BS_input G (xs (x4 + (1 : Int32)).toNatClampNeg)).2.1.toInt64 else O) (((f_Mo_input ((f_BS_input G (xs (x4 + (1 : Int32)).toNatClampNeg)).2.2) (xs (x4 + (1 : Int32)).toNatClampNeg)).1).toInt64)) = 0 → ok_law N xs L n ((f_Mo_input ((f_BS_input G (xs (x4 + (1 : Int32)).toNatClampNeg)).2.2) (xs (x4 + (1 : Int32)).toNatClampNeg)).2) (if (f_BS_input G (xs (x4 + (1 : Int32)).toNatClampNeg)).1 = 0 then (f_BS_input G (xs (x4 + (1 : Int32)).toNatClampNeg)).2.1.toInt64 else O) (x4 + 4)) ∧ (¬ (lg_cmp (if (f_BS_input G (xs (x4 + (1 : Int32)).toNatClampNeg)).1 = 0 then (f_BS_input G (xs (x4 + (1 : Int32)).toNatClampNeg)).2.1.toInt64 else O) (((f_Mo_input ((f_BS_input G (xs (x4 + (1 : Int32)).toNatClampNeg)).2.2) (xs (x4 + (1 : Int32)).toNatClampNeg)).1).toInt64)) = 0 → False))) ∧ (¬ (kx1 (f_BS_input G (xs (x4 + (1 : Int32)).toNatClampNeg)).1) = 0 → ok_law N xs L n ((f_Mo_input ((f_BS_input G (xs (x4 + (1 : Int32)).toNatClampNeg)).2.2) (xs (x4 + (1 : Int32)).toNatClampNeg)).2) (if (f_BS_input G (xs (x4 + (1 : Int32)).toNatClampNeg)).1 = 0 then (f_BS_input G (xs (x4 + (1 : Int32)).toNatClampNeg)).2.1.toInt64 else O) (x4 + 4)))) ∧ (¬ (f_Mo_thrown ((f_Mo_input ((f_BS_input G (xs (x4 + (1 : Int32)).toNatClampNeg)).2.2) (xs (x4 + (1 : Int32)).toNatClampNeg)).2)) = (kx1 (f_BS_input G (xs (x4 + (1 : Int32)).toNatClampNeg)).1) → False))))))) ∧ (¬ ((xs x4.toNatClampNeg) &&& (15 : Int32)) = 1 → ((((xs x4.toNatClampNeg) &&& (15 : Int32)) = 2 → (vp_in (x4 + (1 : Int32)) L ∧ (vp_in (x4 + (2 : Int32)) L ∧ (ok_BS_poke G (xs (x4 + (1 : Int32)).toNatClampNeg) (xs (x4 + (2 : Int32)).toNatClampNeg) ∧ (vp_in (x4 + (1 : Int32)) L ∧ (vp_in (x4 + (2 : Int32)) L ∧ (ok_Mo_poke ((f_BS_poke G (xs (x4 + (1 : Int32)).toNatClampNeg) (xs (x4 + (2 : Int32)).toNatClampNeg)).2.2) (xs (x4 + (1 : Int32)).toNatClampNeg) (xs (x4 + (2 : Int32)).toNatClampNeg) ∧ (((f_Mo_thrown ((f_Mo_poke ((f_BS_poke G (xs (x4 + (1 : Int32)).toNatClampNeg) (xs (x4 + (2 : Int32)).toNatClampNeg)).2.2) (xs (x4 + (1 : Int32)).toNatClampNeg) (xs (x4 + (2 : Int32)).toNatClampNeg)).2)) = (kx1 (f_BS_poke G (xs (x4 + (1 : Int32)).toNatClampNeg) (xs (x4 + (2 : Int32)).toNatClampNeg)).1) → (((kx1 (f_BS_poke G (xs (x4 + (1 : Int32)).toNatClampNeg) (xs (x4 + (2 : Int32)).toNatClampNeg)).1) = 0 → (((lg_cmp (if (f_BS_poke G (xs (x4 + (1 : Int32)).toNatClampNeg) (xs (x4 + (2 : Int32)).toNatClampNeg)).1 = 0 then (f_BS_poke G (xs (x4 + (1 : Int32)).toNatClampNeg) (xs (x4 + (2 : Int32)).toNatClampNeg)).2.1.toInt64 else O) (((f_Mo_poke ((f_BS_poke G (xs (x4 + (1 : Int32)).toNatClampNeg) (xs (x4 + (2 : Int32)).toNatClampNeg)).2.2) (xs (x4 + (1 : Int32)).toNatClampNeg) (xs (x4 + (2 : Int32)).toNatClampNeg)).1).toInt64)) = 0 → ok_law N xs L n ((f_Mo_poke ((f_BS_poke G (xs (x4 + (1 : Int32)).toNatClampNeg) (xs (x4 + (2 : Int32)).toNatClampNeg)).2.2) (xs (x4 + (1 : Int32)).toNatClampNeg) (xs (x4 + (2 : Int32)).toNatClampNeg)).2) (if (f_BS_poke G (xs (x4 + (1 : Int32)).toNatClampNeg) (xs (x4 + (2 : Int32)).toNatClampNeg)).1 = 0 then (f_BS_poke G (xs (x4 + (1 : Int32)).toNatClampNeg) (xs (x4 + (2 : Int32)).toNatClampNeg)).2.1.toInt64 else O) (x4 + 4)) ∧ (¬ (lg_cmp (if (f_BS_poke G (xs (x4 + (1 : Int32)).toNatClampNeg) (xs (x4 + (2 : Int32)).toNatClampNeg)).1 = 0 then (f_BS_poke G (xs (x4 + (1 : Int32)).toNatClampNeg) (xs (x4 + (2 : Int32)).toNatClampNeg)).2.1.toInt64 else O) (((f_Mo_poke ((f_BS_poke G (xs (x4 + (1 : Int32)).toNatClampNeg) (xs (x4 + (2 : Int32)).toNatClampNeg)).2.2) (xs (x4 + (1 : Int32)).toNatClampNeg) (xs (x4 + (2 : Int32)).toNatClampNeg)).1).toInt64)) = 0 → False))) ∧ (¬ (kx1 (f_BS_poke G (xs (x4 + (1 : Int32)).toNatClampNeg) (xs (x4 + (2 : Int32)).toNatClampNeg)).1) = 0 → ok_law N xs L n ((f_Mo_poke ((f_BS_poke G (xs (x4 + (1 : Int32)).toNatClampNeg) (xs (x4 + (2 : Int32)).toNatClampNeg)).2.2) (xs (x4 + (1 : Int32)).toNatClampNeg) (xs (x4 + (2 : Int32)).toNatClampNeg)).2) (if (f_BS_poke G (xs (x4 + (1 : Int32)).toNatClampNeg) (xs (x4 + (2 : Int32)).toNatClampNeg)).1 = 0 then (f_BS_poke G (xs (x4 + (1 : Int32)).toNatClampNeg) (xs (x4 + (2 : Int32)).toNatClampNeg)).2.1.toInt64 else O) (x4 + 4)))) ∧ (¬ (f_Mo_thrown ((f_Mo_poke ((f_BS_poke G (xs (x4 + (1 : Int32)).toNatClampNeg) (xs (x4 + (2 : Int32)).toNatClampNeg)).2.2) (xs (x4 + (1 : Int32)).toNatClampNeg) (xs (x4 + (2 : Int32)).toNatClampNeg)).2)) = (kx1 (f_BS_poke G (xs (x4 + (1 : Int32)).toNatClampNeg) (xs (x4 + (2 : Int32)).toNatClampNeg)).1) → False))))))))) ∧ (¬ ((xs x4.toNatClampNeg) &&& (15 : Int32)) = 2 → ((((xs x4.toNatClampNeg) &&& (15 : Int32)) = 3 → (vp_in (x4 + (1 : Int32)) L ∧ (ok_BS_step N G (xs (x4 + (1 : Int32)).toNatClampNeg) ∧ (vp_in (x4 + (1 : Int32)) L ∧ (ok_Mo_step N ((f_BS_step N G (xs (x4 + (1 : Int32)).toNatClampNeg)).2.2) (xs (x4 + (1 : Int32)).toNatClampNeg) ∧ (((f_Mo_thrown ((f_Mo_step N ((f_BS_step N G (xs (x4 + (1 : Int32)).toNatClampNeg)).2.2) (xs (x4 + (1 : Int32)).toNatClampNeg)).2)) = (kx1 (f_BS_step N G (xs (x4 + (1 : Int32)).toNatClampNeg)).1) → (((kx1 (f_BS_step N G (xs (x4 + (1 : Int32)).toNatClampNeg)).1) = 0 → (((lg_cmp (if (f_BS_step N G (xs (x4 + (1 : Int32)).toNatClampNeg)).1 = 0 then (f_BS_step N G (xs (x4 + (1 : Int32)).toNatClampNeg)).2.1.toInt64 else O) (((f_Mo_step N ((f_BS_step N G (xs (x4 + (1 : Int32)).toNatClampNeg)).2.2) (xs (x4 + (1 : Int32)).toNatClampNeg)).1).toInt64)) = 0 → ok_law N xs L n ((f_Mo_step N ((f_BS_step N G (xs (x4 + (1 : Int32)).toNatClampNeg)).2.2) (xs (x4 + (1 : Int32)).toNatClampNeg)).2) (if (f_BS_step N G (xs (x4 + (1 : Int32)).toNatClampNeg)).1 = 0 then (f_BS_step N G (xs (x4 + (1 : Int32)).toNatClampNeg)).2.1.toInt64 else O) (x4 + 4)) ∧ (¬ (lg_cmp (if (f_BS_step N G (xs (x4 + (1 : Int32)).toNatClampNeg)).1 = 0 then (f_BS_step N G (xs (x4 + (1 : Int32)).toNatClampNeg)).2.1.toInt64 else O) (((f_Mo_step N ((f_BS_step N G (xs (x4 + (1 : Int32)).toNatClampNeg)).2.2) (xs (x4 + (1 : Int32)).toNatClampNeg)).1).toInt64)) = 0 → False))) ∧ (¬ (kx1 (f_BS_step N G (xs (x4 + (1 : Int32)).toNatClampNeg)).1) = 0 → ok_law N xs L n ((f_Mo_step N ((f_BS_step N G (xs (x4 + (1 : Int32)).toNatClampNeg)).2.2) (xs (x4 + (1 : Int32)).toNatClampNeg)).2) (if (f_BS_step N G (xs (x4 + (1 : Int32)).toNatClampNeg)).1 = 0 then (f_BS_step N G (xs (x4 + (1 : Int32)).toNatClampNeg)).2.1.toInt64 else O) (x4 + 4)))) ∧ (¬ (f_Mo_thrown ((f_Mo_step N ((f_BS_step N G (xs (x4 + (1 : Int32)).toNatClampNeg)).2.2) (xs (x4 + (1 : Int32)).toNatClampNeg)).2)) = (kx1 (f_BS_step N G (xs (x4 + (1 : Int32)).toNatClampNeg)).1) → False))))))) ∧ (¬ ((xs x4.toNatClampNeg) &&& (15 : Int32)) = 3 → ((((xs x4.toNatClampNeg) &&& (15 : Int32)) = 4 → (vp_in (x4 + (1 : Int32)) L ∧ (ok_BS_back N G (xs (x4 + (1 : Int32)).toNatClampNeg) ∧ (vp_in (x4 + (1 : Int32)) L ∧ (ok_Mo_back N ((f_BS_back N G (xs (x4 + (1 : Int32)).toNatClampNeg)).2.2) (xs (x4 + (1 : Int32)).toNatClampNeg) ∧ (((f_Mo_thrown ((f_Mo_back N ((f_BS_back N G (xs (x4 + (1 : Int32)).toNatClampNeg)).2.2) (xs (x4 + (1 : Int32)).toNatClampNeg)).2)) = (kx1 (f_BS_back N G (xs (x4 + (1 : Int32)).toNatClampNeg)).1) → (((kx1 (f_BS_back N G (xs (x4 + (1 : Int32)).toNatClampNeg)).1) = 0 → (((lg_cmp (if (f_BS_back N G (xs (x4 + (1 : Int32)).toNatClampNeg)).1 = 0 then (f_BS_back N G (xs (x4 + (1 : Int32)).toNatClampNeg)).2.1.toInt64 else O) (((f_Mo_back N ((f_BS_back N G (xs (x4 + (1 : Int32)).toNatClampNeg)).2.2) (xs (x4 + (1 : Int32)).toNatClampNeg)).1).toInt64)) = 0 → ok_law N xs L n ((f_Mo_back N ((f_BS_back N G (xs (x4 + (1 : Int32)).toNatClampNeg)).2.2) (xs (x4 + (1 : Int32)).toNatClampNeg)).2) (if (f_BS_back N G (xs (x4 + (1 : Int32)).toNatClampNeg)).1 = 0 then (f_BS_back N G (xs (x4 + (1 : Int32)).toNatClampNeg)).2.1.toInt64 else O) (x4 + 4)) ∧ (¬ (lg_cmp (if (f_BS_back N G (xs (x4 + (1 : Int32)).toNatClampNeg)).1 = 0 then (f_BS_back N G (xs (x4 + (1 : Int32)).toNatClampNeg)).2.1.toInt64 else O) (((f_Mo_back N ((f_BS_back N G (xs (x4 + (1 : Int32)).toNatClampNeg)).2.2) (xs (x4 + (1 : Int32)).toNatClampNeg)).1).toInt64)) = 0 → False))) ∧ (¬ (kx1 (f_BS_back N G (xs (x4 + (1 : Int32)).toNatClampNeg)).1) = 0 → ok_law N xs L n ((f_Mo_back N ((f_BS_back N G (xs (x4 + (1 : Int32)).toNatClampNeg)).2.2) (xs (x4 + (1 : Int32)).toNatClampNeg)).2) (if (f_BS_back N G (xs (x4 + (1 : Int32)).toNatClampNeg)).1 = 0 then (f_BS_back N G (xs (x4 + (1 : Int32)).toNatClampNeg)).2.1.toInt64 else O) (x4 + 4)))) ∧ (¬ (f_Mo_thrown ((f_Mo_back N ((f_BS_back N G (xs (x4 + (1 : Int32)).toNatClampNeg)).2.2) (xs (x4 + (1 : Int32)).toNatClampNeg)).2)) = (kx1 (f_BS_back N G (xs (x4 + (1 : Int32)).toNatClampNeg)).1) → False))))))) ∧ (¬ ((xs x4.toNatClampNeg) &&& (15 : Int32)) = 4 → ((((xs x4.toNatClampNeg) &&& (15 : Int32)) = 5 → (vp_in (x4 + (1 : Int32)) L ∧ (vp_in (x4 + (2 : Int32)) L ∧ (ok_BS_look N G (xs (x4 + (1 : Int32)).toNatClampNeg) (xs (x4 + (2 : Int32)).toNatClampNeg) ∧ (vp_in (x4 + (1 : Int32)) L ∧ (vp_in (x4 + (2 : Int32)) L ∧ (ok_Mo_look G (xs (x4 + (1 : Int32)).toNatClampNeg) (xs (x4 + (2 : Int32)).toNatClampNeg) ∧ (((f_Mo_thrown ((f_Mo_look G (xs (x4 + (1 : Int32)).toNatClampNeg) (xs (x4 + (2 : Int32)).toNatClampNeg)).2)) = (kx2 (f_BS_look N G (xs (x4 + (1 : Int32)).toNatClampNeg) (xs (x4 + (2 : Int32)).toNatClampNeg)).1) → (((kx2 (f_BS_look N G (xs (x4 + (1 : Int32)).toNatClampNeg) (xs (x4 + (2 : Int32)).toNatClampNeg)).1) = 0 → (((lg_cmp (if (f_BS_look N G (xs (x4 + (1 : Int32)).toNatClampNeg) (xs (x4 + (2 : Int32)).toNatClampNeg)).1 = 0 then (f_BS_look N G (xs (x4 + (1 : Int32)).toNatClampNeg) (xs (x4 + (2 : Int32)).toNatClampNeg)).2.toInt64 else O) (((f_Mo_look G (xs (x4 + (1 : Int32)).toNatClampNeg) (xs (x4 + (2 : Int32)).toNatClampNeg)).1).toInt64)) = 0 → ok_law N xs L n ((f_Mo_look G (xs (x4 + (1 : Int32)).toNatClampNeg) (xs (x4 + (2 : Int32)).toNatClampNeg)).2) (if (f_BS_look N G (xs (x4 + (1 : Int32)).toNatClampNeg) (xs (x4 + (2 : Int32)).toNatClampNeg)).1 = 0 then (f_BS_look N G (xs (x4 + (1 : Int32)).toNatClampNeg) (xs (x4 + (2 : Int32)).toNatClampNeg)).2.toInt64 else O) (x4 + 4)) ∧ (¬ (lg_cmp (if (f_BS_look N G (xs (x4 + (1 : Int32)).toNatClampNeg) (xs (x4 + (2 : Int32)).toNatClampNeg)).1 = 0 then (f_BS_look N G (xs (x4 + (1 : Int32)).toNatClampNeg) (xs (x4 + (2 : Int32)).toNatClampNeg)).2.toInt64 else O) (((f_Mo_look G (xs (x4 + (1 : Int32)).toNatClampNeg) (xs (x4 + (2 : Int32)).toNatClampNeg)).1).toInt64)) = 0 → False))) ∧ (¬ (kx2 (f_BS_look N G (xs (x4 + (1 : Int32)).toNatClampNeg) (xs (x4 + (2 : Int32)).toNatClampNeg)).1) = 0 → ok_law N xs L n ((f_Mo_look G (xs (x4 + (1 : Int32)).toNatClampNeg) (xs (x4 + (2 : Int32)).toNatClampNeg)).2) (if (f_BS_look N G (xs (x4 + (1 : Int32)).toNatClampNeg) (xs (x4 + (2 : Int32)).toNatClampNeg)).1 = 0 then (f_BS_look N G (xs (x4 + (1 : Int32)).toNatClampNeg) (xs (x4 + (2 : Int32)).toNatClampNeg)).2.toInt64 else O) (x4 + 4)))) ∧ (¬ (f_Mo_thrown ((f_Mo_look G (xs (x4 + (1 : Int32)).toNatClampNeg) (xs (x4 + (2 : Int32)).toNatClampNeg)).2)) = (kx2 (f_BS_look N G (xs (x4 + (1 : Int32)).toNatClampNeg) (xs (x4 + (2 : Int32)).toNatClampNeg)).1) → False))))))))) ∧ (¬ ((xs x4.toNatClampNeg) &&& (15 : Int32)) = 5 → ((((xs x4.toNatClampNeg) &&& (15 : Int32)) = 6 → (vp_in (x4 + (1 : Int32)) L ∧ (ok_BS_wrote N G (xs (x4 + (1 : Int32)).toNatClampNeg) ∧ (vp_in (x4 + (1 : Int32)) L ∧ (ok_Mo_wrote N G (xs (x4 + (1 : Int32)).toNatClampNeg) ∧ (((f_Mo_thrown ((f_Mo_wrote N G (xs (x4 + (1 : Int32)).toNatClampNeg)).2)) = (kx1 (f_BS_wrote N G (xs (x4 + (1 : Int32)).toNatClampNeg)).1) → (((kx1 (f_BS_wrote N G (xs (x4 + (1 : Int32)).toNatClampNeg)).1) = 0 → (((lg_cmp (if (f_BS_wrote N G (xs (x4 + (1 : Int32)).toNatClampNeg)).1 = 0 then (f_BS_wrote N G (xs (x4 + (1 : Int32)).toNatClampNeg)).2.toInt64 else O) (((f_Mo_wrote N G (xs (x4 + (1 : Int32)).toNatClampNeg)).1).toInt64)) = 0 → ok_law N xs L n ((f_Mo_wrote N G (xs (x4 + (1 : Int32)).toNatClampNeg)).2) (if (f_BS_wrote N G (xs (x4 + (1 : Int32)).toNatClampNeg)).1 = 0 then (f_BS_wrote N G (xs (x4 + (1 : Int32)).toNatClampNeg)).2.toInt64 else O) (x4 + 4)) ∧ (¬ (lg_cmp (if (f_BS_wrote N G (xs (x4 + (1 : Int32)).toNatClampNeg)).1 = 0 then (f_BS_wrote N G (xs (x4 + (1 : Int32)).toNatClampNeg)).2.toInt64 else O) (((f_Mo_wrote N G (xs (x4 + (1 : Int32)).toNatClampNeg)).1).toInt64)) = 0 → False))) ∧ (¬ (kx1 (f_BS_wrote N G (xs (x4 + (1 : Int32)).toNatClampNeg)).1) = 0 → ok_law N xs L n ((f_Mo_wrote N G (xs (x4 + (1 : Int32)).toNatClampNeg)).2) (if (f_BS_wrote N G (xs (x4 + (1 : Int32)).toNatClampNeg)).1 = 0 then (f_BS_wrote N G (xs (x4 + (1 : Int32)).toNatClampNeg)).2.toInt64 else O) (x4 + 4)))) ∧ (¬ (f_Mo_thrown ((f_Mo_wrote N G (xs (x4 + (1 : Int32)).toNatClampNeg)).2)) = (kx1 (f_BS_wrote N G (xs (x4 + (1 : Int32)).toNatClampNeg)).1) → False))))))) ∧ (¬ ((xs x4.toNatClampNeg) &&& (15 : Int32)) = 6 → ((((xs x4.toNatClampNeg) &&& (15 : Int32)) = 7 → (vp_in (x4 + (1 : Int32)) L ∧ (vp_in (x4 + (2 : Int32)) L ∧ (vp_in (x4 + (3 : Int32)) L ∧ (ok_BS_when N G (xs (x4 + (1 : Int32)).toNatClampNeg) (xs (x4 + (2 : Int32)).toNatClampNeg) (xs (x4 + (3 : Int32)).toNatClampNeg) ∧ (vp_in (x4 + (1 : Int32)) L ∧ (vp_in (x4 + (2 : Int32)) L ∧ (vp_in (x4 + (3 : Int32)) L ∧ (ok_Mo_when N G (xs (x4 + (1 : Int32)).toNatClampNeg) (xs (x4 + (2 : Int32)).toNatClampNeg) (xs (x4 + (3 : Int32)).toNatClampNeg) ∧ (((f_Mo_thrown ((f_Mo_when N G (xs (x4 + (1 : Int32)).toNatClampNeg) (xs (x4 + (2 : Int32)).toNatClampNeg) (xs (x4 + (3 : Int32)).toNatClampNeg)).2)) = (kx2 (f_BS_when N G (xs (x4 + (1 : Int32)).toNatClampNeg) (xs (x4 + (2 : Int32)).toNatClampNeg) (xs (x4 + (3 : Int32)).toNatClampNeg)).1) → (((kx2 (f_BS_when N G (xs (x4 + (1 : Int32)).toNatClampNeg) (xs (x4 + (2 : Int32)).toNatClampNeg) (xs (x4 + (3 : Int32)).toNatClampNeg)).1) = 0 → (((lg_cmp (if (f_BS_when N G (xs (x4 + (1 : Int32)).toNatClampNeg) (xs (x4 + (2 : Int32)).toNatClampNeg) (xs (x4 + (3 : Int32)).toNatClampNeg)).1 = 0 then (f_BS_when N G (xs (x4 + (1 : Int32)).toNatClampNeg) (xs (x4 + (2 : Int32)).toNatClampNeg) (xs (x4 + (3 : Int32)).toNatClampNeg)).2.toInt64 else O) (((f_Mo_when N G (xs (x4 + (1 : Int32)).toNatClampNeg) (xs (x4 + (2 : Int32)).toNatClampNeg) (xs (x4 + (3 : Int32)).toNatClampNeg)).1).toInt64)) = 0 → ok_law N xs L n ((f_Mo_when N G (xs (x4 + (1 : Int32)).toNatClampNeg) (xs (x4 + (2 : Int32)).toNatClampNeg) (xs (x4 + (3 : Int32)).toNatClampNeg)).2) (if (f_BS_when N G (xs (x4 + (1 : Int32)).toNatClampNeg) (xs (x4 + (2 : Int32)).toNatClampNeg) (xs (x4 + (3 : Int32)).toNatClampNeg)).1 = 0 then (f_BS_when N G (xs (x4 + (1 : Int32)).toNatClampNeg) (xs (x4 + (2 : Int32)).toNatClampNeg) (xs (x4 + (3 : Int32)).toNatClampNeg)).2.toInt64 else O) (x4 + 4)) ∧ (¬ (lg_cmp (if (f_BS_when N G (xs (x4 + (1 : Int32)).toNatClampNeg) (xs (x4 + (2 : Int32)).toNatClampNeg) (xs (x4 + (3 : Int32)).toNatClampNeg)).1 = 0 then (f_BS_when N G (xs (x4 + (1 : Int32)).toNatClampNeg) (xs (x4 + (2 : Int32)).toNatClampNeg) (xs (x4 + (3 : Int32)).toNatClampNeg)).2.toInt64 else O) (((f_Mo_when N G (xs (x4 + (1 : Int32)).toNatClampNeg) (xs (x4 + (2 : Int32)).toNatClampNeg) (xs (x4 + (3 : Int32)).toNatClampNeg)).1).toInt64)) = 0 → False))) ∧ (¬ (kx2 (f_BS_when N G (xs (x4 + (1 : Int32)).toNatClampNeg) (xs (x4 + (2 : Int32)).toNatClampNeg) (xs (x4 + (3 : Int32)).toNatClampNeg)).1) = 0 → ok_law N xs L n ((f_Mo_when N G (xs (x4 + (1 : Int32)).toNatClampNeg) (xs (x4 + (2 : Int32)).toNatClampNeg) (xs (x4 + (3 : Int32)).toNatClampNeg)).2) (if (f_BS_when N G (xs (x4 + (1 : Int32)).toNatClampNeg) (xs (x4 + (2 : Int32)).toNatClampNeg) (xs (x4 + (3 : Int32)).toNatClampNeg)).1 = 0 then (f_BS_when N G (xs (x4 + (1 : Int32)).toNatClampNeg) (xs (x4 + (2 : Int32)).toNatClampNeg) (xs (x4 + (3 : Int32)).toNatClampNeg)).2.toInt64 else O) (x4 + 4)))) ∧ (¬ (f_Mo_thrown ((f_Mo_when N G (xs (x4 + (1 : Int32)).toNatClampNeg) (xs (x4 + (2 : Int32)).toNatClampNeg) (xs (x4 + (3 : Int32)).toNatClampNeg)).2)) = (kx2 (f_BS_when N G (xs (x4 + (1 : Int32)).toNatClampNeg) (xs (x4 + (2 : Int32)).toNatClampNeg) (xs (x4 + (3 : Int32)).toNatClampNeg)).1) → False))))))))))) ∧ (¬ ((xs x4.toNatClampNeg) &&& (15 : Int32)) = 7 → ((((xs x4.toNatClampNeg) &&& (15 : Int32)) = 8 → (ok_BS_replay N G ∧ (ok_Mo_replay N ((f_BS_replay N G).2) ∧ ((((f_BS_replay N G).1) = ((f_Mo_replay N ((f_BS_replay N G).2)).1) → ok_law N xs L n ((f_Mo_replay N ((f_BS_replay N G).2)).2) O (x4 + 4)) ∧ (¬ ((f_BS_replay N G).1) = ((f_Mo_replay N ((f_BS_replay N G).2)).1) → False))))) ∧ (¬ ((xs x4.toNatClampNeg) &&& (15 : Int32)) = 8 → ((((xs x4.toNatClampNeg) &&& (15 : Int32)) = 9 → (vp_in (x4 + (1 : Int32)) L ∧ (ok_BS_cost G (xs (x4 + (1 : Int32)).toNatClampNeg) ∧ (vp_in (x4 + (1 : Int32)) L ∧ (ok_Mo_cost G (xs (x4 + (1 : Int32)).toNatClampNeg) ∧ (((f_Mo_thrown ((f_Mo_cost G (xs (x4 + (1 : Int32)).toNatClampNeg)).2)) = (kx1 (f_BS_cost G (xs (x4 + (1 : Int32)).toNatClampNeg)).1) → (((kx1 (f_BS_cost G (xs (x4 + (1 : Int32)).toNatClampNeg)).1) = 0 → (((lg_cmp (if (f_BS_cost G (xs (x4 + (1 : Int32)).toNatClampNeg)).1 = 0 then (f_BS_cost G (xs (x4 + (1 : Int32)).toNatClampNeg)).2.toInt64 else O) (((f_Mo_cost G (xs (x4 + (1 : Int32)).toNatClampNeg)).1).toInt64)) = 0 → ok_law N xs L n ((f_Mo_cost G (xs (x4 + (1 : Int32)).toNatClampNeg)).2) (if (f_BS_cost G (xs (x4 + (1 : Int32)).toNatClampNeg)).1 = 0 then (f_BS_cost G (xs (x4 + (1 : Int32)).toNatClampNeg)).2.toInt64 else O) (x4 + 4)) ∧ (¬ (lg_cmp (if (f_BS_cost G (xs (x4 + (1 : Int32)).toNatClampNeg)).1 = 0 then (f_BS_cost G (xs (x4 + (1 : Int32)).toNatClampNeg)).2.toInt64 else O) (((f_Mo_cost G (xs (x4 + (1 : Int32)).toNatClampNeg)).1).toInt64)) = 0 → False))) ∧ (¬ (kx1 (f_BS_cost G (xs (x4 + (1 : Int32)).toNatClampNeg)).1) = 0 → ok_law N xs L n ((f_Mo_cost G (xs (x4 + (1 : Int32)).toNatClampNeg)).2) (if (f_BS_cost G (xs (x4 + (1 : Int32)).toNatClampNeg)).1 = 0 then (f_BS_cost G (xs (x4 + (1 : Int32)).toNatClampNeg)).2.toInt64 else O) (x4 + 4)))) ∧ (¬ (f_Mo_thrown ((f_Mo_cost G (xs (x4 + (1 : Int32)).toNatClampNeg)).2)) = (kx1 (f_BS_cost G (xs (x4 + (1 : Int32)).toNatClampNeg)).1) → False))))))) ∧ (¬ ((xs x4.toNatClampNeg) &&& (15 : Int32)) = 9 → ((((xs x4.toNatClampNeg) &&& (15 : Int32)) = 10 → (vp_in (x4 + (1 : Int32)) L ∧ (ok_BS_count G (xs (x4 + (1 : Int32)).toNatClampNeg) ∧ (vp_in (x4 + (1 : Int32)) L ∧ (ok_Mo_count N G (xs (x4 + (1 : Int32)).toNatClampNeg) ∧ (((f_BS_count G (xs (x4 + (1 : Int32)).toNatClampNeg)) = ((f_Mo_count N G (xs (x4 + (1 : Int32)).toNatClampNeg)).1) → ok_law N xs L n ((f_Mo_count N G (xs (x4 + (1 : Int32)).toNatClampNeg)).2) O (x4 + 4)) ∧ (¬ (f_BS_count G (xs (x4 + (1 : Int32)).toNatClampNeg)) = ((f_Mo_count N G (xs (x4 + (1 : Int32)).toNatClampNeg)).1) → False))))))) ∧ (¬ ((xs x4.toNatClampNeg) &&& (15 : Int32)) = 10 → ok_law N xs L n G O (x4 + 4)))))))))))))))))))))))))) := hok
    refine lv_iload hx hb d_La_law_43 (lv_at hl 4 rfl) ?_
    refine lv_aload_n hx hb d_La_law_45 rfl (lv_at hl 0 rfl) ?_
    refine va_slen hx hb hSX hbl hbA hB.2.2.2.1 d_La_law_46 ?_
    refine lv_iconst (v := 4) hx hb d_La_law_47 (by decide) ?_
    refine lv_isub hx hb d_La_law_48 ?_
    refine lv_icmp_gt (tgt := 724) hx hb d_La_law_49 (by decide) (fun c1 => ?_) (fun c1 => ?_)
    · replace hok := hok.1 c1
      refine lv_iconst (v := 1) hx hb d_La_law_724 (by decide) ?_
      refine va_forget (fun q hq => (hB.2.2.2.1.2.2 q hq).elim (fun ⟨k, hk, e⟩ => by rw [e]; exact hB.2.2.2.2.2.2.2.2 k hk) (fun h => h)) ?_
      refine W.widen (k := 601024) (n := 7293000) (by omega) (by omega) ?_
      exact lw_ret hx hb hr hlk d_La_law_725
    · replace hok := hok.2 c1
      refine lv_aload_n hx hb d_La_law_52 rfl (lv_at hl 0 rfl) ?_
      refine lv_iload hx hb d_La_law_53 (lv_at hl 4 rfl) ?_
      refine va_sld hx hb hSX hbl hbA hB.2.2.2.1 hok.1 d_La_law_55 ?_
      replace hok := hok.2
      refine lv_bipush (v := 15) hx hb d_La_law_56 (by decide) ?_
      refine lv_iand hx hb d_La_law_58 ?_
      by_cases c31 : ((xs x4.toNatClampNeg) &&& (15 : Int32)) = 0
      · replace hok := hok.1 c31
        refine g_switch (tgt := 116) hC d_La_law_59 (fun i hi => by show i < 11; omega) (by rw [c31]; decide) ?_
        refine lv_aload_n hx hb d_La_law_116 rfl (lv_at hl 1 rfl) ?_
        refine lv_aload_n hx hb d_La_law_117 rfl (lv_at hl 0 rfl) ?_
        refine lv_iload hx hb d_La_law_118 (lv_at hl 4 rfl) ?_
        refine lv_iconst (v := 1) hx hb d_La_law_120 (by decide) ?_
        refine lv_iadd hx hb d_La_law_121 ?_
        refine va_sld hx hb hSX hbl hbA hB.2.2.2.1 hok.1 d_La_law_122 ?_
        replace hok := hok.2
        refine lv_aload_n hx hb d_La_law_123 rfl (lv_at hl 0 rfl) ?_
        refine lv_iload hx hb d_La_law_124 (lv_at hl 4 rfl) ?_
        refine lv_iconst (v := 2) hx hb d_La_law_126 (by decide) ?_
        refine lv_iadd hx hb d_La_law_127 ?_
        refine va_sld hx hb hSX hbl hbA hB.2.2.2.1 hok.1 d_La_law_128 ?_
        replace hok := hok.2
        refine lv_aload_n hx hb d_La_law_129 rfl (lv_at hl 3 rfl) ?_
        refine g_callSi (As := [.ref (ad 0), .int (xs (x4 + (1 : Int32)).toNatClampNeg), .int (xs (x4 + (2 : Int32)).toNatClampNeg), .ref (ad 24)]) (rest := []) hC hB (c_La_program l hst G (xs (x4 + (1 : Int32)).toNatClampNeg) (xs (x4 + (2 : Int32)).toNatClampNeg) O hok.1) rfl key_La_program rfl sta_La_program ml_La_57 rfl hl.1 ⟨Nat.le_of_ble_eq_true rfl, Nat.le_of_ble_eq_true rfl, (by show cells + 1 ≤ 601024; omega), (by show slots + 6 ≤ 7293000; omega)⟩ d_La_law_130 (fun H locs hB => ?_)
        replace hok := hok.2
        refine lv_istore (lv' := [(5, .int (kx1 (f_BS_program G (xs (x4 + (1 : Int32)).toNatClampNeg) (xs (x4 + (2 : Int32)).toNatClampNeg)).1)), (0, .ref b), (1, .ref (ad 0)), (2, .ref (ad 16)), (3, .ref (ad 24)), (4, .int x4)]) hx hb d_La_law_133 hl (by decide) rfl (fun ls hl => ?_)
        refine lv_aload_n hx hb d_La_law_135 rfl (lv_at hl 3 rfl) ?_
        refine lv_aload_n hx hb d_La_law_136 rfl (lv_at hl 1 rfl) ?_
        refine lv_iload hx hb d_La_law_137 (lv_at hl 5 rfl) ?_
        refine lv_iconst (v := 1) hx hb d_La_law_139 (by decide) ?_
        refine lv_iadd hx hb d_La_law_140 ?_
        refine va_sld hx hb hSX hbl hbA hB.2.2.2.1 hok.1 d_La_law_141 ?_
        replace hok := hok.2
        refine lv_aload_n hx hb d_La_law_142 rfl (lv_at hl 1 rfl) ?_
        refine lv_iload hx hb d_La_law_143 (lv_at hl 5 rfl) ?_
        refine lv_iconst (v := 2) hx hb d_La_law_145 (by decide) ?_
        refine lv_iadd hx hb d_La_law_146 ?_
        refine va_sld hx hb hSX hbl hbA hB.2.2.2.1 hok.1 d_La_law_147 ?_
        replace hok := hok.2
        refine g_callVi (b := ad 16) (As := [.int (xs (x4 + (1 : Int32)).toNatClampNeg), .int (xs (x4 + (2 : Int32)).toNatClampNeg)]) (rest := []) hC hB (c_Mo_program l ((f_BS_program G (xs (x4 + (1 : Int32)).toNatClampNeg) (xs (x4 + (2 : Int32)).toNatClampNeg)).2.2) (xs (x4 + (1 : Int32)).toNatClampNeg) (xs (x4 + (2 : Int32)).toNatClampNeg) (if (f_BS_program G (xs (x4 + (1 : Int32)).toNatClampNeg) (xs (x4 + (2 : Int32)).toNatClampNeg)).1 = 0 then (f_BS_program G (xs (x4 + (1 : Int32)).toNatClampNeg) (xs (x4 + (2 : Int32)).toNatClampNeg)).2.1.toInt64 else O) hok.1) rfl key_Mo_program rfl ins_Mo_program sel_Mo_program ml_La_60 (g_rec16 hB) rfl hl.1 ⟨Nat.le_of_ble_eq_true rfl, Nat.le_of_ble_eq_true rfl, (by show cells + 1 ≤ 601024; omega), (by show slots + 6 ≤ 7293000; omega)⟩ d_La_law_148 (fun H locs hB => ?_)
        replace hok := hok.2
        refine lv_istore (lv' := [(6, .int ((f_Mo_program ((f_BS_program G (xs (x4 + (1 : Int32)).toNatClampNeg) (xs (x4 + (2 : Int32)).toNatClampNeg)).2.2) (xs (x4 + (1 : Int32)).toNatClampNeg) (xs (x4 + (2 : Int32)).toNatClampNeg)).1)), (5, .int (kx1 (f_BS_program G (xs (x4 + (1 : Int32)).toNatClampNeg) (xs (x4 + (2 : Int32)).toNatClampNeg)).1)), (0, .ref b), (1, .ref (ad 0)), (2, .ref (ad 16)), (3, .ref (ad 24)), (4, .int x4)]) hx hb d_La_law_151 hl (by decide) rfl (fun ls hl => ?_)
        refine lv_aload_n hx hb d_La_law_153 rfl (lv_at hl 4 rfl) ?_
        refine g_callVi (b := ad 16) (As := []) (rest := []) hC hB (c_Mo_thrown l ((f_Mo_program ((f_BS_program G (xs (x4 + (1 : Int32)).toNatClampNeg) (xs (x4 + (2 : Int32)).toNatClampNeg)).2.2) (xs (x4 + (1 : Int32)).toNatClampNeg) (xs (x4 + (2 : Int32)).toNatClampNeg)).2) (if (f_BS_program G (xs (x4 + (1 : Int32)).toNatClampNeg) (xs (x4 + (2 : Int32)).toNatClampNeg)).1 = 0 then (f_BS_program G (xs (x4 + (1 : Int32)).toNatClampNeg) (xs (x4 + (2 : Int32)).toNatClampNeg)).2.1.toInt64 else O)) rfl key_Mo_thrown rfl ins_Mo_thrown sel_Mo_thrown ml_La_61 (g_rec16 hB) rfl hl.1 ⟨Nat.le_of_ble_eq_true rfl, Nat.le_of_ble_eq_true rfl, (by show cells + 1 ≤ 601024; omega), (by show slots + 6 ≤ 7293000; omega)⟩ d_La_law_154 (fun H locs hB => ?_)
        refine lv_iload hx hb d_La_law_157 (lv_at hl 1 rfl) ?_
        refine lv_icmp_eq (tgt := 164) hx hb d_La_law_159 (by decide) (fun c2 => ?_) (fun c2 => ?_)
        · replace hok := hok.1 c2
          refine lv_iload hx hb d_La_law_164 (lv_at hl 1 rfl) ?_
          refine lv_if_ne (tgt := 181) hx hb d_La_law_166 (by decide) (fun c3 => ?_) (fun c3 => ?_)
          · replace hok := hok.2 c3
            refine lv_goto (tgt := 718) hx hb d_La_law_181 (by decide) ?_
            refine lv_iinc (v := x4 + 4) (lv' := [(4, .int (x4 + 4)), (6, .int ((f_Mo_program ((f_BS_program G (xs (x4 + (1 : Int32)).toNatClampNeg) (xs (x4 + (2 : Int32)).toNatClampNeg)).2.2) (xs (x4 + (1 : Int32)).toNatClampNeg) (xs (x4 + (2 : Int32)).toNatClampNeg)).1)), (5, .int (kx1 (f_BS_program G (xs (x4 + (1 : Int32)).toNatClampNeg) (xs (x4 + (2 : Int32)).toNatClampNeg)).1)), (0, .ref b), (1, .ref (ad 0)), (2, .ref (ad 16)), (3, .ref (ad 24))]) hx hb d_La_law_718 hl (k := 6) rfl rfl (by decide) rfl (fun ls hl => ?_)
            refine lv_goto (tgt := 43) hx hb d_La_law_721 (by decide) ?_
            refine W.widen (k := cells + 1) (n := slots + 6) (Nat.le_refl _) (Nat.le_refl _) ?_
            exact ih ((f_Mo_program ((f_BS_program G (xs (x4 + (1 : Int32)).toNatClampNeg) (xs (x4 + (2 : Int32)).toNatClampNeg)).2.2) (xs (x4 + (1 : Int32)).toNatClampNeg) (xs (x4 + (2 : Int32)).toNatClampNeg)).2) (if (f_BS_program G (xs (x4 + (1 : Int32)).toNatClampNeg) (xs (x4 + (2 : Int32)).toNatClampNeg)).1 = 0 then (f_BS_program G (xs (x4 + (1 : Int32)).toNatClampNeg) (xs (x4 + (2 : Int32)).toNatClampNeg)).2.1.toInt64 else O) (x4 + 4) (cells + 1) (slots + 6) (by omega) (by omega) hok _ _ hB ls (lv_sub hl [3, 4, 5, 6, 0] rfl)
          · replace hok := hok.1 c3
            refine lv_aload_n hx hb d_La_law_169 rfl (lv_at hl 5 rfl) ?_
            refine lv_iconst (v := 0) hx hb d_La_law_170 (by decide) ?_
            refine gl_load hC hB d_La_law_171 ?_
            refine lv_iload hx hb d_La_law_172 (lv_at hl 0 rfl) ?_
            refine lv_i2l (v := ((f_Mo_program ((f_BS_program G (xs (x4 + (1 : Int32)).toNatClampNeg) (xs (x4 + (2 : Int32)).toNatClampNeg)).2.2) (xs (x4 + (1 : Int32)).toNatClampNeg) (xs (x4 + (2 : Int32)).toNatClampNeg)).1).toInt64) hx hb d_La_law_174 rfl ?_
            refine W.lcmp hx hb d_La_law_175 ?_
            refine lv_if_eq (tgt := 181) hx hb d_La_law_176 (by decide) (fun c4 => ?_) (fun c4 => ?_)
            · replace hok := hok.1 c4
              refine lv_goto (tgt := 718) hx hb d_La_law_181 (by decide) ?_
              refine lv_iinc (v := x4 + 4) (lv' := [(4, .int (x4 + 4)), (6, .int ((f_Mo_program ((f_BS_program G (xs (x4 + (1 : Int32)).toNatClampNeg) (xs (x4 + (2 : Int32)).toNatClampNeg)).2.2) (xs (x4 + (1 : Int32)).toNatClampNeg) (xs (x4 + (2 : Int32)).toNatClampNeg)).1)), (5, .int (kx1 (f_BS_program G (xs (x4 + (1 : Int32)).toNatClampNeg) (xs (x4 + (2 : Int32)).toNatClampNeg)).1)), (0, .ref b), (1, .ref (ad 0)), (2, .ref (ad 16)), (3, .ref (ad 24))]) hx hb d_La_law_718 hl (k := 6) rfl rfl (by decide) rfl (fun ls hl => ?_)
              refine lv_goto (tgt := 43) hx hb d_La_law_721 (by decide) ?_
              refine W.widen (k := cells + 1) (n := slots + 6) (Nat.le_refl _) (Nat.le_refl _) ?_
              exact ih ((f_Mo_program ((f_BS_program G (xs (x4 + (1 : Int32)).toNatClampNeg) (xs (x4 + (2 : Int32)).toNatClampNeg)).2.2) (xs (x4 + (1 : Int32)).toNatClampNeg) (xs (x4 + (2 : Int32)).toNatClampNeg)).2) (if (f_BS_program G (xs (x4 + (1 : Int32)).toNatClampNeg) (xs (x4 + (2 : Int32)).toNatClampNeg)).1 = 0 then (f_BS_program G (xs (x4 + (1 : Int32)).toNatClampNeg) (xs (x4 + (2 : Int32)).toNatClampNeg)).2.1.toInt64 else O) (x4 + 4) (cells + 1) (slots + 6) (by omega) (by omega) hok _ _ hB ls (lv_sub hl [3, 4, 5, 6, 0] rfl)
            · replace hok := hok.2 c4
              refine lv_iconst (v := 0) hx hb d_La_law_179 (by decide) ?_
              exact hok.elim
        · replace hok := hok.2 c2
          refine lv_iconst (v := 0) hx hb d_La_law_162 (by decide) ?_
          exact hok.elim
      · replace hok := hok.2 c31
        by_cases c32 : ((xs x4.toNatClampNeg) &&& (15 : Int32)) = 1
        · replace hok := hok.1 c32
          refine g_switch (tgt := 184) hC d_La_law_59 (fun i hi => by show i < 11; omega) (by rw [c32]; decide) ?_
          refine lv_aload_n hx hb d_La_law_184 rfl (lv_at hl 1 rfl) ?_
          refine lv_aload_n hx hb d_La_law_185 rfl (lv_at hl 0 rfl) ?_
          refine lv_iload hx hb d_La_law_186 (lv_at hl 4 rfl) ?_
          refine lv_iconst (v := 1) hx hb d_La_law_188 (by decide) ?_
          refine lv_iadd hx hb d_La_law_189 ?_
          refine va_sld hx hb hSX hbl hbA hB.2.2.2.1 hok.1 d_La_law_190 ?_
          replace hok := hok.2
          refine lv_aload_n hx hb d_La_law_191 rfl (lv_at hl 3 rfl) ?_
          refine g_callSi (As := [.ref (ad 0), .int (xs (x4 + (1 : Int32)).toNatClampNeg), .ref (ad 24)]) (rest := []) hC hB (c_La_input l hst G (xs (x4 + (1 : Int32)).toNatClampNeg) O hok.1) rfl key_La_input rfl sta_La_input ml_La_65 rfl hl.1 ⟨Nat.le_of_ble_eq_true rfl, Nat.le_of_ble_eq_true rfl, (by show cells + 1 ≤ 601024; omega), (by show slots + 6 ≤ 7293000; omega)⟩ d_La_law_192 (fun H locs hB => ?_)
          replace hok := hok.2
          refine lv_istore (lv' := [(5, .int (kx1 (f_BS_input G (xs (x4 + (1 : Int32)).toNatClampNeg)).1)), (0, .ref b), (1, .ref (ad 0)), (2, .ref (ad 16)), (3, .ref (ad 24)), (4, .int x4)]) hx hb d_La_law_195 hl (by decide) rfl (fun ls hl => ?_)
          refine lv_aload_n hx hb d_La_law_197 rfl (lv_at hl 3 rfl) ?_
          refine lv_aload_n hx hb d_La_law_198 rfl (lv_at hl 1 rfl) ?_
          refine lv_iload hx hb d_La_law_199 (lv_at hl 5 rfl) ?_
          refine lv_iconst (v := 1) hx hb d_La_law_201 (by decide) ?_
          refine lv_iadd hx hb d_La_law_202 ?_
          refine va_sld hx hb hSX hbl hbA hB.2.2.2.1 hok.1 d_La_law_203 ?_
          replace hok := hok.2
          refine g_callVi (b := ad 16) (As := [.int (xs (x4 + (1 : Int32)).toNatClampNeg)]) (rest := []) hC hB (c_Mo_input l ((f_BS_input G (xs (x4 + (1 : Int32)).toNatClampNeg)).2.2) (xs (x4 + (1 : Int32)).toNatClampNeg) (if (f_BS_input G (xs (x4 + (1 : Int32)).toNatClampNeg)).1 = 0 then (f_BS_input G (xs (x4 + (1 : Int32)).toNatClampNeg)).2.1.toInt64 else O) hok.1) rfl key_Mo_input rfl ins_Mo_input sel_Mo_input ml_La_68 (g_rec16 hB) rfl hl.1 ⟨Nat.le_of_ble_eq_true rfl, Nat.le_of_ble_eq_true rfl, (by show cells + 1 ≤ 601024; omega), (by show slots + 6 ≤ 7293000; omega)⟩ d_La_law_204 (fun H locs hB => ?_)
          replace hok := hok.2
          refine lv_istore (lv' := [(6, .int ((f_Mo_input ((f_BS_input G (xs (x4 + (1 : Int32)).toNatClampNeg)).2.2) (xs (x4 + (1 : Int32)).toNatClampNeg)).1)), (5, .int (kx1 (f_BS_input G (xs (x4 + (1 : Int32)).toNatClampNeg)).1)), (0, .ref b), (1, .ref (ad 0)), (2, .ref (ad 16)), (3, .ref (ad 24)), (4, .int x4)]) hx hb d_La_law_207 hl (by decide) rfl (fun ls hl => ?_)
          refine lv_aload_n hx hb d_La_law_209 rfl (lv_at hl 4 rfl) ?_
          refine g_callVi (b := ad 16) (As := []) (rest := []) hC hB (c_Mo_thrown l ((f_Mo_input ((f_BS_input G (xs (x4 + (1 : Int32)).toNatClampNeg)).2.2) (xs (x4 + (1 : Int32)).toNatClampNeg)).2) (if (f_BS_input G (xs (x4 + (1 : Int32)).toNatClampNeg)).1 = 0 then (f_BS_input G (xs (x4 + (1 : Int32)).toNatClampNeg)).2.1.toInt64 else O)) rfl key_Mo_thrown rfl ins_Mo_thrown sel_Mo_thrown ml_La_61 (g_rec16 hB) rfl hl.1 ⟨Nat.le_of_ble_eq_true rfl, Nat.le_of_ble_eq_true rfl, (by show cells + 1 ≤ 601024; omega), (by show slots + 6 ≤ 7293000; omega)⟩ d_La_law_210 (fun H locs hB => ?_)
          refine lv_iload hx hb d_La_law_213 (lv_at hl 1 rfl) ?_
          refine lv_icmp_eq (tgt := 220) hx hb d_La_law_215 (by decide) (fun c5 => ?_) (fun c5 => ?_)
          · replace hok := hok.1 c5
            refine lv_iload hx hb d_La_law_220 (lv_at hl 1 rfl) ?_
            refine lv_if_ne (tgt := 237) hx hb d_La_law_222 (by decide) (fun c6 => ?_) (fun c6 => ?_)
            · replace hok := hok.2 c6
              refine lv_goto (tgt := 718) hx hb d_La_law_237 (by decide) ?_
              refine lv_iinc (v := x4 + 4) (lv' := [(4, .int (x4 + 4)), (6, .int ((f_Mo_input ((f_BS_input G (xs (x4 + (1 : Int32)).toNatClampNeg)).2.2) (xs (x4 + (1 : Int32)).toNatClampNeg)).1)), (5, .int (kx1 (f_BS_input G (xs (x4 + (1 : Int32)).toNatClampNeg)).1)), (0, .ref b), (1, .ref (ad 0)), (2, .ref (ad 16)), (3, .ref (ad 24))]) hx hb d_La_law_718 hl (k := 6) rfl rfl (by decide) rfl (fun ls hl => ?_)
              refine lv_goto (tgt := 43) hx hb d_La_law_721 (by decide) ?_
              refine W.widen (k := cells + 1) (n := slots + 6) (Nat.le_refl _) (Nat.le_refl _) ?_
              exact ih ((f_Mo_input ((f_BS_input G (xs (x4 + (1 : Int32)).toNatClampNeg)).2.2) (xs (x4 + (1 : Int32)).toNatClampNeg)).2) (if (f_BS_input G (xs (x4 + (1 : Int32)).toNatClampNeg)).1 = 0 then (f_BS_input G (xs (x4 + (1 : Int32)).toNatClampNeg)).2.1.toInt64 else O) (x4 + 4) (cells + 1) (slots + 6) (by omega) (by omega) hok _ _ hB ls (lv_sub hl [3, 4, 5, 6, 0] rfl)
            · replace hok := hok.1 c6
              refine lv_aload_n hx hb d_La_law_225 rfl (lv_at hl 5 rfl) ?_
              refine lv_iconst (v := 0) hx hb d_La_law_226 (by decide) ?_
              refine gl_load hC hB d_La_law_227 ?_
              refine lv_iload hx hb d_La_law_228 (lv_at hl 0 rfl) ?_
              refine lv_i2l (v := ((f_Mo_input ((f_BS_input G (xs (x4 + (1 : Int32)).toNatClampNeg)).2.2) (xs (x4 + (1 : Int32)).toNatClampNeg)).1).toInt64) hx hb d_La_law_230 rfl ?_
              refine W.lcmp hx hb d_La_law_231 ?_
              refine lv_if_eq (tgt := 237) hx hb d_La_law_232 (by decide) (fun c7 => ?_) (fun c7 => ?_)
              · replace hok := hok.1 c7
                refine lv_goto (tgt := 718) hx hb d_La_law_237 (by decide) ?_
                refine lv_iinc (v := x4 + 4) (lv' := [(4, .int (x4 + 4)), (6, .int ((f_Mo_input ((f_BS_input G (xs (x4 + (1 : Int32)).toNatClampNeg)).2.2) (xs (x4 + (1 : Int32)).toNatClampNeg)).1)), (5, .int (kx1 (f_BS_input G (xs (x4 + (1 : Int32)).toNatClampNeg)).1)), (0, .ref b), (1, .ref (ad 0)), (2, .ref (ad 16)), (3, .ref (ad 24))]) hx hb d_La_law_718 hl (k := 6) rfl rfl (by decide) rfl (fun ls hl => ?_)
                refine lv_goto (tgt := 43) hx hb d_La_law_721 (by decide) ?_
                refine W.widen (k := cells + 1) (n := slots + 6) (Nat.le_refl _) (Nat.le_refl _) ?_
                exact ih ((f_Mo_input ((f_BS_input G (xs (x4 + (1 : Int32)).toNatClampNeg)).2.2) (xs (x4 + (1 : Int32)).toNatClampNeg)).2) (if (f_BS_input G (xs (x4 + (1 : Int32)).toNatClampNeg)).1 = 0 then (f_BS_input G (xs (x4 + (1 : Int32)).toNatClampNeg)).2.1.toInt64 else O) (x4 + 4) (cells + 1) (slots + 6) (by omega) (by omega) hok _ _ hB ls (lv_sub hl [3, 4, 5, 6, 0] rfl)
              · replace hok := hok.2 c7
                refine lv_iconst (v := 0) hx hb d_La_law_235 (by decide) ?_
                exact hok.elim
          · replace hok := hok.2 c5
            refine lv_iconst (v := 0) hx hb d_La_law_218 (by decide) ?_
            exact hok.elim
        · replace hok := hok.2 c32
          by_cases c33 : ((xs x4.toNatClampNeg) &&& (15 : Int32)) = 2
          · replace hok := hok.1 c33
            refine g_switch (tgt := 240) hC d_La_law_59 (fun i hi => by show i < 11; omega) (by rw [c33]; decide) ?_
            refine lv_aload_n hx hb d_La_law_240 rfl (lv_at hl 1 rfl) ?_
            refine lv_aload_n hx hb d_La_law_241 rfl (lv_at hl 0 rfl) ?_
            refine lv_iload hx hb d_La_law_242 (lv_at hl 4 rfl) ?_
            refine lv_iconst (v := 1) hx hb d_La_law_244 (by decide) ?_
            refine lv_iadd hx hb d_La_law_245 ?_
            refine va_sld hx hb hSX hbl hbA hB.2.2.2.1 hok.1 d_La_law_246 ?_
            replace hok := hok.2
            refine lv_aload_n hx hb d_La_law_247 rfl (lv_at hl 0 rfl) ?_
            refine lv_iload hx hb d_La_law_248 (lv_at hl 4 rfl) ?_
            refine lv_iconst (v := 2) hx hb d_La_law_250 (by decide) ?_
            refine lv_iadd hx hb d_La_law_251 ?_
            refine va_sld hx hb hSX hbl hbA hB.2.2.2.1 hok.1 d_La_law_252 ?_
            replace hok := hok.2
            refine lv_aload_n hx hb d_La_law_253 rfl (lv_at hl 3 rfl) ?_
            refine g_callSi (As := [.ref (ad 0), .int (xs (x4 + (1 : Int32)).toNatClampNeg), .int (xs (x4 + (2 : Int32)).toNatClampNeg), .ref (ad 24)]) (rest := []) hC hB (c_La_poke l hst G (xs (x4 + (1 : Int32)).toNatClampNeg) (xs (x4 + (2 : Int32)).toNatClampNeg) O hok.1) rfl key_La_poke rfl sta_La_poke ml_La_69 rfl hl.1 ⟨Nat.le_of_ble_eq_true rfl, Nat.le_of_ble_eq_true rfl, (by show cells + 1 ≤ 601024; omega), (by show slots + 6 ≤ 7293000; omega)⟩ d_La_law_254 (fun H locs hB => ?_)
            replace hok := hok.2
            refine lv_istore (lv' := [(5, .int (kx1 (f_BS_poke G (xs (x4 + (1 : Int32)).toNatClampNeg) (xs (x4 + (2 : Int32)).toNatClampNeg)).1)), (0, .ref b), (1, .ref (ad 0)), (2, .ref (ad 16)), (3, .ref (ad 24)), (4, .int x4)]) hx hb d_La_law_257 hl (by decide) rfl (fun ls hl => ?_)
            refine lv_aload_n hx hb d_La_law_259 rfl (lv_at hl 3 rfl) ?_
            refine lv_aload_n hx hb d_La_law_260 rfl (lv_at hl 1 rfl) ?_
            refine lv_iload hx hb d_La_law_261 (lv_at hl 5 rfl) ?_
            refine lv_iconst (v := 1) hx hb d_La_law_263 (by decide) ?_
            refine lv_iadd hx hb d_La_law_264 ?_
            refine va_sld hx hb hSX hbl hbA hB.2.2.2.1 hok.1 d_La_law_265 ?_
            replace hok := hok.2
            refine lv_aload_n hx hb d_La_law_266 rfl (lv_at hl 1 rfl) ?_
            refine lv_iload hx hb d_La_law_267 (lv_at hl 5 rfl) ?_
            refine lv_iconst (v := 2) hx hb d_La_law_269 (by decide) ?_
            refine lv_iadd hx hb d_La_law_270 ?_
            refine va_sld hx hb hSX hbl hbA hB.2.2.2.1 hok.1 d_La_law_271 ?_
            replace hok := hok.2
            refine g_callVi (b := ad 16) (As := [.int (xs (x4 + (1 : Int32)).toNatClampNeg), .int (xs (x4 + (2 : Int32)).toNatClampNeg)]) (rest := []) hC hB (c_Mo_poke l ((f_BS_poke G (xs (x4 + (1 : Int32)).toNatClampNeg) (xs (x4 + (2 : Int32)).toNatClampNeg)).2.2) (xs (x4 + (1 : Int32)).toNatClampNeg) (xs (x4 + (2 : Int32)).toNatClampNeg) (if (f_BS_poke G (xs (x4 + (1 : Int32)).toNatClampNeg) (xs (x4 + (2 : Int32)).toNatClampNeg)).1 = 0 then (f_BS_poke G (xs (x4 + (1 : Int32)).toNatClampNeg) (xs (x4 + (2 : Int32)).toNatClampNeg)).2.1.toInt64 else O) hok.1) rfl key_Mo_poke rfl ins_Mo_poke sel_Mo_poke ml_La_71 (g_rec16 hB) rfl hl.1 ⟨Nat.le_of_ble_eq_true rfl, Nat.le_of_ble_eq_true rfl, (by show cells + 1 ≤ 601024; omega), (by show slots + 6 ≤ 7293000; omega)⟩ d_La_law_272 (fun H locs hB => ?_)
            replace hok := hok.2
            refine lv_istore (lv' := [(6, .int ((f_Mo_poke ((f_BS_poke G (xs (x4 + (1 : Int32)).toNatClampNeg) (xs (x4 + (2 : Int32)).toNatClampNeg)).2.2) (xs (x4 + (1 : Int32)).toNatClampNeg) (xs (x4 + (2 : Int32)).toNatClampNeg)).1)), (5, .int (kx1 (f_BS_poke G (xs (x4 + (1 : Int32)).toNatClampNeg) (xs (x4 + (2 : Int32)).toNatClampNeg)).1)), (0, .ref b), (1, .ref (ad 0)), (2, .ref (ad 16)), (3, .ref (ad 24)), (4, .int x4)]) hx hb d_La_law_275 hl (by decide) rfl (fun ls hl => ?_)
            refine lv_aload_n hx hb d_La_law_277 rfl (lv_at hl 4 rfl) ?_
            refine g_callVi (b := ad 16) (As := []) (rest := []) hC hB (c_Mo_thrown l ((f_Mo_poke ((f_BS_poke G (xs (x4 + (1 : Int32)).toNatClampNeg) (xs (x4 + (2 : Int32)).toNatClampNeg)).2.2) (xs (x4 + (1 : Int32)).toNatClampNeg) (xs (x4 + (2 : Int32)).toNatClampNeg)).2) (if (f_BS_poke G (xs (x4 + (1 : Int32)).toNatClampNeg) (xs (x4 + (2 : Int32)).toNatClampNeg)).1 = 0 then (f_BS_poke G (xs (x4 + (1 : Int32)).toNatClampNeg) (xs (x4 + (2 : Int32)).toNatClampNeg)).2.1.toInt64 else O)) rfl key_Mo_thrown rfl ins_Mo_thrown sel_Mo_thrown ml_La_61 (g_rec16 hB) rfl hl.1 ⟨Nat.le_of_ble_eq_true rfl, Nat.le_of_ble_eq_true rfl, (by show cells + 1 ≤ 601024; omega), (by show slots + 6 ≤ 7293000; omega)⟩ d_La_law_278 (fun H locs hB => ?_)
            refine lv_iload hx hb d_La_law_281 (lv_at hl 1 rfl) ?_
            refine lv_icmp_eq (tgt := 288) hx hb d_La_law_283 (by decide) (fun c8 => ?_) (fun c8 => ?_)
            · replace hok := hok.1 c8
              refine lv_iload hx hb d_La_law_288 (lv_at hl 1 rfl) ?_
              refine lv_if_ne (tgt := 305) hx hb d_La_law_290 (by decide) (fun c9 => ?_) (fun c9 => ?_)
              · replace hok := hok.2 c9
                refine lv_goto (tgt := 718) hx hb d_La_law_305 (by decide) ?_
                refine lv_iinc (v := x4 + 4) (lv' := [(4, .int (x4 + 4)), (6, .int ((f_Mo_poke ((f_BS_poke G (xs (x4 + (1 : Int32)).toNatClampNeg) (xs (x4 + (2 : Int32)).toNatClampNeg)).2.2) (xs (x4 + (1 : Int32)).toNatClampNeg) (xs (x4 + (2 : Int32)).toNatClampNeg)).1)), (5, .int (kx1 (f_BS_poke G (xs (x4 + (1 : Int32)).toNatClampNeg) (xs (x4 + (2 : Int32)).toNatClampNeg)).1)), (0, .ref b), (1, .ref (ad 0)), (2, .ref (ad 16)), (3, .ref (ad 24))]) hx hb d_La_law_718 hl (k := 6) rfl rfl (by decide) rfl (fun ls hl => ?_)
                refine lv_goto (tgt := 43) hx hb d_La_law_721 (by decide) ?_
                refine W.widen (k := cells + 1) (n := slots + 6) (Nat.le_refl _) (Nat.le_refl _) ?_
                exact ih ((f_Mo_poke ((f_BS_poke G (xs (x4 + (1 : Int32)).toNatClampNeg) (xs (x4 + (2 : Int32)).toNatClampNeg)).2.2) (xs (x4 + (1 : Int32)).toNatClampNeg) (xs (x4 + (2 : Int32)).toNatClampNeg)).2) (if (f_BS_poke G (xs (x4 + (1 : Int32)).toNatClampNeg) (xs (x4 + (2 : Int32)).toNatClampNeg)).1 = 0 then (f_BS_poke G (xs (x4 + (1 : Int32)).toNatClampNeg) (xs (x4 + (2 : Int32)).toNatClampNeg)).2.1.toInt64 else O) (x4 + 4) (cells + 1) (slots + 6) (by omega) (by omega) hok _ _ hB ls (lv_sub hl [3, 4, 5, 6, 0] rfl)
              · replace hok := hok.1 c9
                refine lv_aload_n hx hb d_La_law_293 rfl (lv_at hl 5 rfl) ?_
                refine lv_iconst (v := 0) hx hb d_La_law_294 (by decide) ?_
                refine gl_load hC hB d_La_law_295 ?_
                refine lv_iload hx hb d_La_law_296 (lv_at hl 0 rfl) ?_
                refine lv_i2l (v := ((f_Mo_poke ((f_BS_poke G (xs (x4 + (1 : Int32)).toNatClampNeg) (xs (x4 + (2 : Int32)).toNatClampNeg)).2.2) (xs (x4 + (1 : Int32)).toNatClampNeg) (xs (x4 + (2 : Int32)).toNatClampNeg)).1).toInt64) hx hb d_La_law_298 rfl ?_
                refine W.lcmp hx hb d_La_law_299 ?_
                refine lv_if_eq (tgt := 305) hx hb d_La_law_300 (by decide) (fun c10 => ?_) (fun c10 => ?_)
                · replace hok := hok.1 c10
                  refine lv_goto (tgt := 718) hx hb d_La_law_305 (by decide) ?_
                  refine lv_iinc (v := x4 + 4) (lv' := [(4, .int (x4 + 4)), (6, .int ((f_Mo_poke ((f_BS_poke G (xs (x4 + (1 : Int32)).toNatClampNeg) (xs (x4 + (2 : Int32)).toNatClampNeg)).2.2) (xs (x4 + (1 : Int32)).toNatClampNeg) (xs (x4 + (2 : Int32)).toNatClampNeg)).1)), (5, .int (kx1 (f_BS_poke G (xs (x4 + (1 : Int32)).toNatClampNeg) (xs (x4 + (2 : Int32)).toNatClampNeg)).1)), (0, .ref b), (1, .ref (ad 0)), (2, .ref (ad 16)), (3, .ref (ad 24))]) hx hb d_La_law_718 hl (k := 6) rfl rfl (by decide) rfl (fun ls hl => ?_)
                  refine lv_goto (tgt := 43) hx hb d_La_law_721 (by decide) ?_
                  refine W.widen (k := cells + 1) (n := slots + 6) (Nat.le_refl _) (Nat.le_refl _) ?_
                  exact ih ((f_Mo_poke ((f_BS_poke G (xs (x4 + (1 : Int32)).toNatClampNeg) (xs (x4 + (2 : Int32)).toNatClampNeg)).2.2) (xs (x4 + (1 : Int32)).toNatClampNeg) (xs (x4 + (2 : Int32)).toNatClampNeg)).2) (if (f_BS_poke G (xs (x4 + (1 : Int32)).toNatClampNeg) (xs (x4 + (2 : Int32)).toNatClampNeg)).1 = 0 then (f_BS_poke G (xs (x4 + (1 : Int32)).toNatClampNeg) (xs (x4 + (2 : Int32)).toNatClampNeg)).2.1.toInt64 else O) (x4 + 4) (cells + 1) (slots + 6) (by omega) (by omega) hok _ _ hB ls (lv_sub hl [3, 4, 5, 6, 0] rfl)
                · replace hok := hok.2 c10
                  refine lv_iconst (v := 0) hx hb d_La_law_303 (by decide) ?_
                  exact hok.elim
            · replace hok := hok.2 c8
              refine lv_iconst (v := 0) hx hb d_La_law_286 (by decide) ?_
              exact hok.elim
          · replace hok := hok.2 c33
            by_cases c34 : ((xs x4.toNatClampNeg) &&& (15 : Int32)) = 3
            · replace hok := hok.1 c34
              refine g_switch (tgt := 308) hC d_La_law_59 (fun i hi => by show i < 11; omega) (by rw [c34]; decide) ?_
              refine lv_aload_n hx hb d_La_law_308 rfl (lv_at hl 1 rfl) ?_
              refine lv_aload_n hx hb d_La_law_309 rfl (lv_at hl 0 rfl) ?_
              refine lv_iload hx hb d_La_law_310 (lv_at hl 4 rfl) ?_
              refine lv_iconst (v := 1) hx hb d_La_law_312 (by decide) ?_
              refine lv_iadd hx hb d_La_law_313 ?_
              refine va_sld hx hb hSX hbl hbA hB.2.2.2.1 hok.1 d_La_law_314 ?_
              replace hok := hok.2
              refine lv_aload_n hx hb d_La_law_315 rfl (lv_at hl 3 rfl) ?_
              refine g_callSi (As := [.ref (ad 0), .int (xs (x4 + (1 : Int32)).toNatClampNeg), .ref (ad 24)]) (rest := []) hC hB (c_La_step l hst N G (xs (x4 + (1 : Int32)).toNatClampNeg) O hok.1) rfl key_La_step rfl sta_La_step ml_La_72 rfl hl.1 ⟨Nat.le_of_ble_eq_true rfl, Nat.le_of_ble_eq_true rfl, (by show cells + 1 ≤ 601024; omega), (by show slots + 6 ≤ 7293000; omega)⟩ d_La_law_316 (fun H locs hB => ?_)
              replace hok := hok.2
              refine lv_istore (lv' := [(5, .int (kx1 (f_BS_step N G (xs (x4 + (1 : Int32)).toNatClampNeg)).1)), (0, .ref b), (1, .ref (ad 0)), (2, .ref (ad 16)), (3, .ref (ad 24)), (4, .int x4)]) hx hb d_La_law_319 hl (by decide) rfl (fun ls hl => ?_)
              refine lv_aload_n hx hb d_La_law_321 rfl (lv_at hl 3 rfl) ?_
              refine lv_aload_n hx hb d_La_law_322 rfl (lv_at hl 1 rfl) ?_
              refine lv_iload hx hb d_La_law_323 (lv_at hl 5 rfl) ?_
              refine lv_iconst (v := 1) hx hb d_La_law_325 (by decide) ?_
              refine lv_iadd hx hb d_La_law_326 ?_
              refine va_sld hx hb hSX hbl hbA hB.2.2.2.1 hok.1 d_La_law_327 ?_
              replace hok := hok.2
              refine g_callVi (b := ad 16) (As := [.int (xs (x4 + (1 : Int32)).toNatClampNeg)]) (rest := []) hC hB (c_Mo_step l N ((f_BS_step N G (xs (x4 + (1 : Int32)).toNatClampNeg)).2.2) (xs (x4 + (1 : Int32)).toNatClampNeg) (if (f_BS_step N G (xs (x4 + (1 : Int32)).toNatClampNeg)).1 = 0 then (f_BS_step N G (xs (x4 + (1 : Int32)).toNatClampNeg)).2.1.toInt64 else O) hok.1) rfl key_Mo_step rfl ins_Mo_step sel_Mo_step ml_La_74 (g_rec16 hB) rfl hl.1 ⟨Nat.le_of_ble_eq_true rfl, Nat.le_of_ble_eq_true rfl, (by show cells + 1 ≤ 601024; omega), (by show slots + 6 ≤ 7293000; omega)⟩ d_La_law_328 (fun H locs hB => ?_)
              replace hok := hok.2
              refine lv_istore (lv' := [(6, .int ((f_Mo_step N ((f_BS_step N G (xs (x4 + (1 : Int32)).toNatClampNeg)).2.2) (xs (x4 + (1 : Int32)).toNatClampNeg)).1)), (5, .int (kx1 (f_BS_step N G (xs (x4 + (1 : Int32)).toNatClampNeg)).1)), (0, .ref b), (1, .ref (ad 0)), (2, .ref (ad 16)), (3, .ref (ad 24)), (4, .int x4)]) hx hb d_La_law_331 hl (by decide) rfl (fun ls hl => ?_)
              refine lv_aload_n hx hb d_La_law_333 rfl (lv_at hl 4 rfl) ?_
              refine g_callVi (b := ad 16) (As := []) (rest := []) hC hB (c_Mo_thrown l ((f_Mo_step N ((f_BS_step N G (xs (x4 + (1 : Int32)).toNatClampNeg)).2.2) (xs (x4 + (1 : Int32)).toNatClampNeg)).2) (if (f_BS_step N G (xs (x4 + (1 : Int32)).toNatClampNeg)).1 = 0 then (f_BS_step N G (xs (x4 + (1 : Int32)).toNatClampNeg)).2.1.toInt64 else O)) rfl key_Mo_thrown rfl ins_Mo_thrown sel_Mo_thrown ml_La_61 (g_rec16 hB) rfl hl.1 ⟨Nat.le_of_ble_eq_true rfl, Nat.le_of_ble_eq_true rfl, (by show cells + 1 ≤ 601024; omega), (by show slots + 6 ≤ 7293000; omega)⟩ d_La_law_334 (fun H locs hB => ?_)
              refine lv_iload hx hb d_La_law_337 (lv_at hl 1 rfl) ?_
              refine lv_icmp_eq (tgt := 344) hx hb d_La_law_339 (by decide) (fun c11 => ?_) (fun c11 => ?_)
              · replace hok := hok.1 c11
                refine lv_iload hx hb d_La_law_344 (lv_at hl 1 rfl) ?_
                refine lv_if_ne (tgt := 361) hx hb d_La_law_346 (by decide) (fun c12 => ?_) (fun c12 => ?_)
                · replace hok := hok.2 c12
                  refine lv_goto (tgt := 718) hx hb d_La_law_361 (by decide) ?_
                  refine lv_iinc (v := x4 + 4) (lv' := [(4, .int (x4 + 4)), (6, .int ((f_Mo_step N ((f_BS_step N G (xs (x4 + (1 : Int32)).toNatClampNeg)).2.2) (xs (x4 + (1 : Int32)).toNatClampNeg)).1)), (5, .int (kx1 (f_BS_step N G (xs (x4 + (1 : Int32)).toNatClampNeg)).1)), (0, .ref b), (1, .ref (ad 0)), (2, .ref (ad 16)), (3, .ref (ad 24))]) hx hb d_La_law_718 hl (k := 6) rfl rfl (by decide) rfl (fun ls hl => ?_)
                  refine lv_goto (tgt := 43) hx hb d_La_law_721 (by decide) ?_
                  refine W.widen (k := cells + 1) (n := slots + 6) (Nat.le_refl _) (Nat.le_refl _) ?_
                  exact ih ((f_Mo_step N ((f_BS_step N G (xs (x4 + (1 : Int32)).toNatClampNeg)).2.2) (xs (x4 + (1 : Int32)).toNatClampNeg)).2) (if (f_BS_step N G (xs (x4 + (1 : Int32)).toNatClampNeg)).1 = 0 then (f_BS_step N G (xs (x4 + (1 : Int32)).toNatClampNeg)).2.1.toInt64 else O) (x4 + 4) (cells + 1) (slots + 6) (by omega) (by omega) hok _ _ hB ls (lv_sub hl [3, 4, 5, 6, 0] rfl)
                · replace hok := hok.1 c12
                  refine lv_aload_n hx hb d_La_law_349 rfl (lv_at hl 5 rfl) ?_
                  refine lv_iconst (v := 0) hx hb d_La_law_350 (by decide) ?_
                  refine gl_load hC hB d_La_law_351 ?_
                  refine lv_iload hx hb d_La_law_352 (lv_at hl 0 rfl) ?_
                  refine lv_i2l (v := ((f_Mo_step N ((f_BS_step N G (xs (x4 + (1 : Int32)).toNatClampNeg)).2.2) (xs (x4 + (1 : Int32)).toNatClampNeg)).1).toInt64) hx hb d_La_law_354 rfl ?_
                  refine W.lcmp hx hb d_La_law_355 ?_
                  refine lv_if_eq (tgt := 361) hx hb d_La_law_356 (by decide) (fun c13 => ?_) (fun c13 => ?_)
                  · replace hok := hok.1 c13
                    refine lv_goto (tgt := 718) hx hb d_La_law_361 (by decide) ?_
                    refine lv_iinc (v := x4 + 4) (lv' := [(4, .int (x4 + 4)), (6, .int ((f_Mo_step N ((f_BS_step N G (xs (x4 + (1 : Int32)).toNatClampNeg)).2.2) (xs (x4 + (1 : Int32)).toNatClampNeg)).1)), (5, .int (kx1 (f_BS_step N G (xs (x4 + (1 : Int32)).toNatClampNeg)).1)), (0, .ref b), (1, .ref (ad 0)), (2, .ref (ad 16)), (3, .ref (ad 24))]) hx hb d_La_law_718 hl (k := 6) rfl rfl (by decide) rfl (fun ls hl => ?_)
                    refine lv_goto (tgt := 43) hx hb d_La_law_721 (by decide) ?_
                    refine W.widen (k := cells + 1) (n := slots + 6) (Nat.le_refl _) (Nat.le_refl _) ?_
                    exact ih ((f_Mo_step N ((f_BS_step N G (xs (x4 + (1 : Int32)).toNatClampNeg)).2.2) (xs (x4 + (1 : Int32)).toNatClampNeg)).2) (if (f_BS_step N G (xs (x4 + (1 : Int32)).toNatClampNeg)).1 = 0 then (f_BS_step N G (xs (x4 + (1 : Int32)).toNatClampNeg)).2.1.toInt64 else O) (x4 + 4) (cells + 1) (slots + 6) (by omega) (by omega) hok _ _ hB ls (lv_sub hl [3, 4, 5, 6, 0] rfl)
                  · replace hok := hok.2 c13
                    refine lv_iconst (v := 0) hx hb d_La_law_359 (by decide) ?_
                    exact hok.elim
              · replace hok := hok.2 c11
                refine lv_iconst (v := 0) hx hb d_La_law_342 (by decide) ?_
                exact hok.elim
            · replace hok := hok.2 c34
              by_cases c35 : ((xs x4.toNatClampNeg) &&& (15 : Int32)) = 4
              · replace hok := hok.1 c35
                refine g_switch (tgt := 364) hC d_La_law_59 (fun i hi => by show i < 11; omega) (by rw [c35]; decide) ?_
                refine lv_aload_n hx hb d_La_law_364 rfl (lv_at hl 1 rfl) ?_
                refine lv_aload_n hx hb d_La_law_365 rfl (lv_at hl 0 rfl) ?_
                refine lv_iload hx hb d_La_law_366 (lv_at hl 4 rfl) ?_
                refine lv_iconst (v := 1) hx hb d_La_law_368 (by decide) ?_
                refine lv_iadd hx hb d_La_law_369 ?_
                refine va_sld hx hb hSX hbl hbA hB.2.2.2.1 hok.1 d_La_law_370 ?_
                replace hok := hok.2
                refine lv_aload_n hx hb d_La_law_371 rfl (lv_at hl 3 rfl) ?_
                refine g_callSi (As := [.ref (ad 0), .int (xs (x4 + (1 : Int32)).toNatClampNeg), .ref (ad 24)]) (rest := []) hC hB (c_La_back l hst N G (xs (x4 + (1 : Int32)).toNatClampNeg) O hok.1) rfl key_La_back rfl sta_La_back ml_La_75 rfl hl.1 ⟨Nat.le_of_ble_eq_true rfl, Nat.le_of_ble_eq_true rfl, (by show cells + 1 ≤ 601024; omega), (by show slots + 6 ≤ 7293000; omega)⟩ d_La_law_372 (fun H locs hB => ?_)
                replace hok := hok.2
                refine lv_istore (lv' := [(5, .int (kx1 (f_BS_back N G (xs (x4 + (1 : Int32)).toNatClampNeg)).1)), (0, .ref b), (1, .ref (ad 0)), (2, .ref (ad 16)), (3, .ref (ad 24)), (4, .int x4)]) hx hb d_La_law_375 hl (by decide) rfl (fun ls hl => ?_)
                refine lv_aload_n hx hb d_La_law_377 rfl (lv_at hl 3 rfl) ?_
                refine lv_aload_n hx hb d_La_law_378 rfl (lv_at hl 1 rfl) ?_
                refine lv_iload hx hb d_La_law_379 (lv_at hl 5 rfl) ?_
                refine lv_iconst (v := 1) hx hb d_La_law_381 (by decide) ?_
                refine lv_iadd hx hb d_La_law_382 ?_
                refine va_sld hx hb hSX hbl hbA hB.2.2.2.1 hok.1 d_La_law_383 ?_
                replace hok := hok.2
                refine g_callVi (b := ad 16) (As := [.int (xs (x4 + (1 : Int32)).toNatClampNeg)]) (rest := []) hC hB (c_Mo_back l N ((f_BS_back N G (xs (x4 + (1 : Int32)).toNatClampNeg)).2.2) (xs (x4 + (1 : Int32)).toNatClampNeg) (if (f_BS_back N G (xs (x4 + (1 : Int32)).toNatClampNeg)).1 = 0 then (f_BS_back N G (xs (x4 + (1 : Int32)).toNatClampNeg)).2.1.toInt64 else O) hok.1) rfl key_Mo_back rfl ins_Mo_back sel_Mo_back ml_La_77 (g_rec16 hB) rfl hl.1 ⟨Nat.le_of_ble_eq_true rfl, Nat.le_of_ble_eq_true rfl, (by show cells + 1 ≤ 601024; omega), (by show slots + 6 ≤ 7293000; omega)⟩ d_La_law_384 (fun H locs hB => ?_)
                replace hok := hok.2
                refine lv_istore (lv' := [(6, .int ((f_Mo_back N ((f_BS_back N G (xs (x4 + (1 : Int32)).toNatClampNeg)).2.2) (xs (x4 + (1 : Int32)).toNatClampNeg)).1)), (5, .int (kx1 (f_BS_back N G (xs (x4 + (1 : Int32)).toNatClampNeg)).1)), (0, .ref b), (1, .ref (ad 0)), (2, .ref (ad 16)), (3, .ref (ad 24)), (4, .int x4)]) hx hb d_La_law_387 hl (by decide) rfl (fun ls hl => ?_)
                refine lv_aload_n hx hb d_La_law_389 rfl (lv_at hl 4 rfl) ?_
                refine g_callVi (b := ad 16) (As := []) (rest := []) hC hB (c_Mo_thrown l ((f_Mo_back N ((f_BS_back N G (xs (x4 + (1 : Int32)).toNatClampNeg)).2.2) (xs (x4 + (1 : Int32)).toNatClampNeg)).2) (if (f_BS_back N G (xs (x4 + (1 : Int32)).toNatClampNeg)).1 = 0 then (f_BS_back N G (xs (x4 + (1 : Int32)).toNatClampNeg)).2.1.toInt64 else O)) rfl key_Mo_thrown rfl ins_Mo_thrown sel_Mo_thrown ml_La_61 (g_rec16 hB) rfl hl.1 ⟨Nat.le_of_ble_eq_true rfl, Nat.le_of_ble_eq_true rfl, (by show cells + 1 ≤ 601024; omega), (by show slots + 6 ≤ 7293000; omega)⟩ d_La_law_390 (fun H locs hB => ?_)
                refine lv_iload hx hb d_La_law_393 (lv_at hl 1 rfl) ?_
                refine lv_icmp_eq (tgt := 400) hx hb d_La_law_395 (by decide) (fun c14 => ?_) (fun c14 => ?_)
                · replace hok := hok.1 c14
                  refine lv_iload hx hb d_La_law_400 (lv_at hl 1 rfl) ?_
                  refine lv_if_ne (tgt := 417) hx hb d_La_law_402 (by decide) (fun c15 => ?_) (fun c15 => ?_)
                  · replace hok := hok.2 c15
                    refine lv_goto (tgt := 718) hx hb d_La_law_417 (by decide) ?_
                    refine lv_iinc (v := x4 + 4) (lv' := [(4, .int (x4 + 4)), (6, .int ((f_Mo_back N ((f_BS_back N G (xs (x4 + (1 : Int32)).toNatClampNeg)).2.2) (xs (x4 + (1 : Int32)).toNatClampNeg)).1)), (5, .int (kx1 (f_BS_back N G (xs (x4 + (1 : Int32)).toNatClampNeg)).1)), (0, .ref b), (1, .ref (ad 0)), (2, .ref (ad 16)), (3, .ref (ad 24))]) hx hb d_La_law_718 hl (k := 6) rfl rfl (by decide) rfl (fun ls hl => ?_)
                    refine lv_goto (tgt := 43) hx hb d_La_law_721 (by decide) ?_
                    refine W.widen (k := cells + 1) (n := slots + 6) (Nat.le_refl _) (Nat.le_refl _) ?_
                    exact ih ((f_Mo_back N ((f_BS_back N G (xs (x4 + (1 : Int32)).toNatClampNeg)).2.2) (xs (x4 + (1 : Int32)).toNatClampNeg)).2) (if (f_BS_back N G (xs (x4 + (1 : Int32)).toNatClampNeg)).1 = 0 then (f_BS_back N G (xs (x4 + (1 : Int32)).toNatClampNeg)).2.1.toInt64 else O) (x4 + 4) (cells + 1) (slots + 6) (by omega) (by omega) hok _ _ hB ls (lv_sub hl [3, 4, 5, 6, 0] rfl)
                  · replace hok := hok.1 c15
                    refine lv_aload_n hx hb d_La_law_405 rfl (lv_at hl 5 rfl) ?_
                    refine lv_iconst (v := 0) hx hb d_La_law_406 (by decide) ?_
                    refine gl_load hC hB d_La_law_407 ?_
                    refine lv_iload hx hb d_La_law_408 (lv_at hl 0 rfl) ?_
                    refine lv_i2l (v := ((f_Mo_back N ((f_BS_back N G (xs (x4 + (1 : Int32)).toNatClampNeg)).2.2) (xs (x4 + (1 : Int32)).toNatClampNeg)).1).toInt64) hx hb d_La_law_410 rfl ?_
                    refine W.lcmp hx hb d_La_law_411 ?_
                    refine lv_if_eq (tgt := 417) hx hb d_La_law_412 (by decide) (fun c16 => ?_) (fun c16 => ?_)
                    · replace hok := hok.1 c16
                      refine lv_goto (tgt := 718) hx hb d_La_law_417 (by decide) ?_
                      refine lv_iinc (v := x4 + 4) (lv' := [(4, .int (x4 + 4)), (6, .int ((f_Mo_back N ((f_BS_back N G (xs (x4 + (1 : Int32)).toNatClampNeg)).2.2) (xs (x4 + (1 : Int32)).toNatClampNeg)).1)), (5, .int (kx1 (f_BS_back N G (xs (x4 + (1 : Int32)).toNatClampNeg)).1)), (0, .ref b), (1, .ref (ad 0)), (2, .ref (ad 16)), (3, .ref (ad 24))]) hx hb d_La_law_718 hl (k := 6) rfl rfl (by decide) rfl (fun ls hl => ?_)
                      refine lv_goto (tgt := 43) hx hb d_La_law_721 (by decide) ?_
                      refine W.widen (k := cells + 1) (n := slots + 6) (Nat.le_refl _) (Nat.le_refl _) ?_
                      exact ih ((f_Mo_back N ((f_BS_back N G (xs (x4 + (1 : Int32)).toNatClampNeg)).2.2) (xs (x4 + (1 : Int32)).toNatClampNeg)).2) (if (f_BS_back N G (xs (x4 + (1 : Int32)).toNatClampNeg)).1 = 0 then (f_BS_back N G (xs (x4 + (1 : Int32)).toNatClampNeg)).2.1.toInt64 else O) (x4 + 4) (cells + 1) (slots + 6) (by omega) (by omega) hok _ _ hB ls (lv_sub hl [3, 4, 5, 6, 0] rfl)
                    · replace hok := hok.2 c16
                      refine lv_iconst (v := 0) hx hb d_La_law_415 (by decide) ?_
                      exact hok.elim
                · replace hok := hok.2 c14
                  refine lv_iconst (v := 0) hx hb d_La_law_398 (by decide) ?_
                  exact hok.elim
              · replace hok := hok.2 c35
                by_cases c36 : ((xs x4.toNatClampNeg) &&& (15 : Int32)) = 5
                · replace hok := hok.1 c36
                  refine g_switch (tgt := 420) hC d_La_law_59 (fun i hi => by show i < 11; omega) (by rw [c36]; decide) ?_
                  refine lv_aload_n hx hb d_La_law_420 rfl (lv_at hl 1 rfl) ?_
                  refine lv_aload_n hx hb d_La_law_421 rfl (lv_at hl 0 rfl) ?_
                  refine lv_iload hx hb d_La_law_422 (lv_at hl 4 rfl) ?_
                  refine lv_iconst (v := 1) hx hb d_La_law_424 (by decide) ?_
                  refine lv_iadd hx hb d_La_law_425 ?_
                  refine va_sld hx hb hSX hbl hbA hB.2.2.2.1 hok.1 d_La_law_426 ?_
                  replace hok := hok.2
                  refine lv_aload_n hx hb d_La_law_427 rfl (lv_at hl 0 rfl) ?_
                  refine lv_iload hx hb d_La_law_428 (lv_at hl 4 rfl) ?_
                  refine lv_iconst (v := 2) hx hb d_La_law_430 (by decide) ?_
                  refine lv_iadd hx hb d_La_law_431 ?_
                  refine va_sld hx hb hSX hbl hbA hB.2.2.2.1 hok.1 d_La_law_432 ?_
                  replace hok := hok.2
                  refine lv_aload_n hx hb d_La_law_433 rfl (lv_at hl 3 rfl) ?_
                  refine g_callSi (As := [.ref (ad 0), .int (xs (x4 + (1 : Int32)).toNatClampNeg), .int (xs (x4 + (2 : Int32)).toNatClampNeg), .ref (ad 24)]) (rest := []) hC hB (c_La_look l hst N G (xs (x4 + (1 : Int32)).toNatClampNeg) (xs (x4 + (2 : Int32)).toNatClampNeg) O hok.1) rfl key_La_look rfl sta_La_look ml_La_78 rfl hl.1 ⟨Nat.le_of_ble_eq_true rfl, Nat.le_of_ble_eq_true rfl, (by show cells + 1 ≤ 601024; omega), (by show slots + 6 ≤ 7293000; omega)⟩ d_La_law_434 (fun H locs hB => ?_)
                  replace hok := hok.2
                  refine lv_istore (lv' := [(5, .int (kx2 (f_BS_look N G (xs (x4 + (1 : Int32)).toNatClampNeg) (xs (x4 + (2 : Int32)).toNatClampNeg)).1)), (0, .ref b), (1, .ref (ad 0)), (2, .ref (ad 16)), (3, .ref (ad 24)), (4, .int x4)]) hx hb d_La_law_437 hl (by decide) rfl (fun ls hl => ?_)
                  refine lv_aload_n hx hb d_La_law_439 rfl (lv_at hl 3 rfl) ?_
                  refine lv_aload_n hx hb d_La_law_440 rfl (lv_at hl 1 rfl) ?_
                  refine lv_iload hx hb d_La_law_441 (lv_at hl 5 rfl) ?_
                  refine lv_iconst (v := 1) hx hb d_La_law_443 (by decide) ?_
                  refine lv_iadd hx hb d_La_law_444 ?_
                  refine va_sld hx hb hSX hbl hbA hB.2.2.2.1 hok.1 d_La_law_445 ?_
                  replace hok := hok.2
                  refine lv_aload_n hx hb d_La_law_446 rfl (lv_at hl 1 rfl) ?_
                  refine lv_iload hx hb d_La_law_447 (lv_at hl 5 rfl) ?_
                  refine lv_iconst (v := 2) hx hb d_La_law_449 (by decide) ?_
                  refine lv_iadd hx hb d_La_law_450 ?_
                  refine va_sld hx hb hSX hbl hbA hB.2.2.2.1 hok.1 d_La_law_451 ?_
                  replace hok := hok.2
                  refine g_callVi (b := ad 16) (As := [.int (xs (x4 + (1 : Int32)).toNatClampNeg), .int (xs (x4 + (2 : Int32)).toNatClampNeg)]) (rest := []) hC hB (c_Mo_look l G (xs (x4 + (1 : Int32)).toNatClampNeg) (xs (x4 + (2 : Int32)).toNatClampNeg) (if (f_BS_look N G (xs (x4 + (1 : Int32)).toNatClampNeg) (xs (x4 + (2 : Int32)).toNatClampNeg)).1 = 0 then (f_BS_look N G (xs (x4 + (1 : Int32)).toNatClampNeg) (xs (x4 + (2 : Int32)).toNatClampNeg)).2.toInt64 else O) hok.1) rfl key_Mo_look rfl ins_Mo_look sel_Mo_look ml_La_80 (g_rec16 hB) rfl hl.1 ⟨Nat.le_of_ble_eq_true rfl, Nat.le_of_ble_eq_true rfl, (by show cells + 1 ≤ 601024; omega), (by show slots + 6 ≤ 7293000; omega)⟩ d_La_law_452 (fun H locs hB => ?_)
                  replace hok := hok.2
                  refine lv_istore (lv' := [(6, .int ((f_Mo_look G (xs (x4 + (1 : Int32)).toNatClampNeg) (xs (x4 + (2 : Int32)).toNatClampNeg)).1)), (5, .int (kx2 (f_BS_look N G (xs (x4 + (1 : Int32)).toNatClampNeg) (xs (x4 + (2 : Int32)).toNatClampNeg)).1)), (0, .ref b), (1, .ref (ad 0)), (2, .ref (ad 16)), (3, .ref (ad 24)), (4, .int x4)]) hx hb d_La_law_455 hl (by decide) rfl (fun ls hl => ?_)
                  refine lv_aload_n hx hb d_La_law_457 rfl (lv_at hl 4 rfl) ?_
                  refine g_callVi (b := ad 16) (As := []) (rest := []) hC hB (c_Mo_thrown l ((f_Mo_look G (xs (x4 + (1 : Int32)).toNatClampNeg) (xs (x4 + (2 : Int32)).toNatClampNeg)).2) (if (f_BS_look N G (xs (x4 + (1 : Int32)).toNatClampNeg) (xs (x4 + (2 : Int32)).toNatClampNeg)).1 = 0 then (f_BS_look N G (xs (x4 + (1 : Int32)).toNatClampNeg) (xs (x4 + (2 : Int32)).toNatClampNeg)).2.toInt64 else O)) rfl key_Mo_thrown rfl ins_Mo_thrown sel_Mo_thrown ml_La_61 (g_rec16 hB) rfl hl.1 ⟨Nat.le_of_ble_eq_true rfl, Nat.le_of_ble_eq_true rfl, (by show cells + 1 ≤ 601024; omega), (by show slots + 6 ≤ 7293000; omega)⟩ d_La_law_458 (fun H locs hB => ?_)
                  refine lv_iload hx hb d_La_law_461 (lv_at hl 1 rfl) ?_
                  refine lv_icmp_eq (tgt := 468) hx hb d_La_law_463 (by decide) (fun c17 => ?_) (fun c17 => ?_)
                  · replace hok := hok.1 c17
                    refine lv_iload hx hb d_La_law_468 (lv_at hl 1 rfl) ?_
                    refine lv_if_ne (tgt := 485) hx hb d_La_law_470 (by decide) (fun c18 => ?_) (fun c18 => ?_)
                    · replace hok := hok.2 c18
                      refine lv_goto (tgt := 718) hx hb d_La_law_485 (by decide) ?_
                      refine lv_iinc (v := x4 + 4) (lv' := [(4, .int (x4 + 4)), (6, .int ((f_Mo_look G (xs (x4 + (1 : Int32)).toNatClampNeg) (xs (x4 + (2 : Int32)).toNatClampNeg)).1)), (5, .int (kx2 (f_BS_look N G (xs (x4 + (1 : Int32)).toNatClampNeg) (xs (x4 + (2 : Int32)).toNatClampNeg)).1)), (0, .ref b), (1, .ref (ad 0)), (2, .ref (ad 16)), (3, .ref (ad 24))]) hx hb d_La_law_718 hl (k := 6) rfl rfl (by decide) rfl (fun ls hl => ?_)
                      refine lv_goto (tgt := 43) hx hb d_La_law_721 (by decide) ?_
                      refine W.widen (k := cells + 1) (n := slots + 6) (Nat.le_refl _) (Nat.le_refl _) ?_
                      exact ih ((f_Mo_look G (xs (x4 + (1 : Int32)).toNatClampNeg) (xs (x4 + (2 : Int32)).toNatClampNeg)).2) (if (f_BS_look N G (xs (x4 + (1 : Int32)).toNatClampNeg) (xs (x4 + (2 : Int32)).toNatClampNeg)).1 = 0 then (f_BS_look N G (xs (x4 + (1 : Int32)).toNatClampNeg) (xs (x4 + (2 : Int32)).toNatClampNeg)).2.toInt64 else O) (x4 + 4) (cells + 1) (slots + 6) (by omega) (by omega) hok _ _ hB ls (lv_sub hl [3, 4, 5, 6, 0] rfl)
                    · replace hok := hok.1 c18
                      refine lv_aload_n hx hb d_La_law_473 rfl (lv_at hl 5 rfl) ?_
                      refine lv_iconst (v := 0) hx hb d_La_law_474 (by decide) ?_
                      refine gl_load hC hB d_La_law_475 ?_
                      refine lv_iload hx hb d_La_law_476 (lv_at hl 0 rfl) ?_
                      refine lv_i2l (v := ((f_Mo_look G (xs (x4 + (1 : Int32)).toNatClampNeg) (xs (x4 + (2 : Int32)).toNatClampNeg)).1).toInt64) hx hb d_La_law_478 rfl ?_
                      refine W.lcmp hx hb d_La_law_479 ?_
                      refine lv_if_eq (tgt := 485) hx hb d_La_law_480 (by decide) (fun c19 => ?_) (fun c19 => ?_)
                      · replace hok := hok.1 c19
                        refine lv_goto (tgt := 718) hx hb d_La_law_485 (by decide) ?_
                        refine lv_iinc (v := x4 + 4) (lv' := [(4, .int (x4 + 4)), (6, .int ((f_Mo_look G (xs (x4 + (1 : Int32)).toNatClampNeg) (xs (x4 + (2 : Int32)).toNatClampNeg)).1)), (5, .int (kx2 (f_BS_look N G (xs (x4 + (1 : Int32)).toNatClampNeg) (xs (x4 + (2 : Int32)).toNatClampNeg)).1)), (0, .ref b), (1, .ref (ad 0)), (2, .ref (ad 16)), (3, .ref (ad 24))]) hx hb d_La_law_718 hl (k := 6) rfl rfl (by decide) rfl (fun ls hl => ?_)
                        refine lv_goto (tgt := 43) hx hb d_La_law_721 (by decide) ?_
                        refine W.widen (k := cells + 1) (n := slots + 6) (Nat.le_refl _) (Nat.le_refl _) ?_
                        exact ih ((f_Mo_look G (xs (x4 + (1 : Int32)).toNatClampNeg) (xs (x4 + (2 : Int32)).toNatClampNeg)).2) (if (f_BS_look N G (xs (x4 + (1 : Int32)).toNatClampNeg) (xs (x4 + (2 : Int32)).toNatClampNeg)).1 = 0 then (f_BS_look N G (xs (x4 + (1 : Int32)).toNatClampNeg) (xs (x4 + (2 : Int32)).toNatClampNeg)).2.toInt64 else O) (x4 + 4) (cells + 1) (slots + 6) (by omega) (by omega) hok _ _ hB ls (lv_sub hl [3, 4, 5, 6, 0] rfl)
                      · replace hok := hok.2 c19
                        refine lv_iconst (v := 0) hx hb d_La_law_483 (by decide) ?_
                        exact hok.elim
                  · replace hok := hok.2 c17
                    refine lv_iconst (v := 0) hx hb d_La_law_466 (by decide) ?_
                    exact hok.elim
                · replace hok := hok.2 c36
                  by_cases c37 : ((xs x4.toNatClampNeg) &&& (15 : Int32)) = 6
                  · replace hok := hok.1 c37
                    refine g_switch (tgt := 488) hC d_La_law_59 (fun i hi => by show i < 11; omega) (by rw [c37]; decide) ?_
                    refine lv_aload_n hx hb d_La_law_488 rfl (lv_at hl 1 rfl) ?_
                    refine lv_aload_n hx hb d_La_law_489 rfl (lv_at hl 0 rfl) ?_
                    refine lv_iload hx hb d_La_law_490 (lv_at hl 4 rfl) ?_
                    refine lv_iconst (v := 1) hx hb d_La_law_492 (by decide) ?_
                    refine lv_iadd hx hb d_La_law_493 ?_
                    refine va_sld hx hb hSX hbl hbA hB.2.2.2.1 hok.1 d_La_law_494 ?_
                    replace hok := hok.2
                    refine lv_aload_n hx hb d_La_law_495 rfl (lv_at hl 3 rfl) ?_
                    refine g_callSi (As := [.ref (ad 0), .int (xs (x4 + (1 : Int32)).toNatClampNeg), .ref (ad 24)]) (rest := []) hC hB (c_La_wrote l hst N G (xs (x4 + (1 : Int32)).toNatClampNeg) O hok.1) rfl key_La_wrote rfl sta_La_wrote ml_La_81 rfl hl.1 ⟨Nat.le_of_ble_eq_true rfl, Nat.le_of_ble_eq_true rfl, (by show cells + 1 ≤ 601024; omega), (by show slots + 6 ≤ 7293000; omega)⟩ d_La_law_496 (fun H locs hB => ?_)
                    replace hok := hok.2
                    refine lv_istore (lv' := [(5, .int (kx1 (f_BS_wrote N G (xs (x4 + (1 : Int32)).toNatClampNeg)).1)), (0, .ref b), (1, .ref (ad 0)), (2, .ref (ad 16)), (3, .ref (ad 24)), (4, .int x4)]) hx hb d_La_law_499 hl (by decide) rfl (fun ls hl => ?_)
                    refine lv_aload_n hx hb d_La_law_501 rfl (lv_at hl 3 rfl) ?_
                    refine lv_aload_n hx hb d_La_law_502 rfl (lv_at hl 1 rfl) ?_
                    refine lv_iload hx hb d_La_law_503 (lv_at hl 5 rfl) ?_
                    refine lv_iconst (v := 1) hx hb d_La_law_505 (by decide) ?_
                    refine lv_iadd hx hb d_La_law_506 ?_
                    refine va_sld hx hb hSX hbl hbA hB.2.2.2.1 hok.1 d_La_law_507 ?_
                    replace hok := hok.2
                    refine g_callVi (b := ad 16) (As := [.int (xs (x4 + (1 : Int32)).toNatClampNeg)]) (rest := []) hC hB (c_Mo_wrote l N G (xs (x4 + (1 : Int32)).toNatClampNeg) (if (f_BS_wrote N G (xs (x4 + (1 : Int32)).toNatClampNeg)).1 = 0 then (f_BS_wrote N G (xs (x4 + (1 : Int32)).toNatClampNeg)).2.toInt64 else O) hok.1) rfl key_Mo_wrote rfl ins_Mo_wrote sel_Mo_wrote ml_La_83 (g_rec16 hB) rfl hl.1 ⟨Nat.le_of_ble_eq_true rfl, Nat.le_of_ble_eq_true rfl, (by show cells + 1 ≤ 601024; omega), (by show slots + 6 ≤ 7293000; omega)⟩ d_La_law_508 (fun H locs hB => ?_)
                    replace hok := hok.2
                    refine lv_istore (lv' := [(6, .int ((f_Mo_wrote N G (xs (x4 + (1 : Int32)).toNatClampNeg)).1)), (5, .int (kx1 (f_BS_wrote N G (xs (x4 + (1 : Int32)).toNatClampNeg)).1)), (0, .ref b), (1, .ref (ad 0)), (2, .ref (ad 16)), (3, .ref (ad 24)), (4, .int x4)]) hx hb d_La_law_511 hl (by decide) rfl (fun ls hl => ?_)
                    refine lv_aload_n hx hb d_La_law_513 rfl (lv_at hl 4 rfl) ?_
                    refine g_callVi (b := ad 16) (As := []) (rest := []) hC hB (c_Mo_thrown l ((f_Mo_wrote N G (xs (x4 + (1 : Int32)).toNatClampNeg)).2) (if (f_BS_wrote N G (xs (x4 + (1 : Int32)).toNatClampNeg)).1 = 0 then (f_BS_wrote N G (xs (x4 + (1 : Int32)).toNatClampNeg)).2.toInt64 else O)) rfl key_Mo_thrown rfl ins_Mo_thrown sel_Mo_thrown ml_La_61 (g_rec16 hB) rfl hl.1 ⟨Nat.le_of_ble_eq_true rfl, Nat.le_of_ble_eq_true rfl, (by show cells + 1 ≤ 601024; omega), (by show slots + 6 ≤ 7293000; omega)⟩ d_La_law_514 (fun H locs hB => ?_)
                    refine lv_iload hx hb d_La_law_517 (lv_at hl 1 rfl) ?_
                    refine lv_icmp_eq (tgt := 524) hx hb d_La_law_519 (by decide) (fun c20 => ?_) (fun c20 => ?_)
                    · replace hok := hok.1 c20
                      refine lv_iload hx hb d_La_law_524 (lv_at hl 1 rfl) ?_
                      refine lv_if_ne (tgt := 541) hx hb d_La_law_526 (by decide) (fun c21 => ?_) (fun c21 => ?_)
                      · replace hok := hok.2 c21
                        refine lv_goto (tgt := 718) hx hb d_La_law_541 (by decide) ?_
                        refine lv_iinc (v := x4 + 4) (lv' := [(4, .int (x4 + 4)), (6, .int ((f_Mo_wrote N G (xs (x4 + (1 : Int32)).toNatClampNeg)).1)), (5, .int (kx1 (f_BS_wrote N G (xs (x4 + (1 : Int32)).toNatClampNeg)).1)), (0, .ref b), (1, .ref (ad 0)), (2, .ref (ad 16)), (3, .ref (ad 24))]) hx hb d_La_law_718 hl (k := 6) rfl rfl (by decide) rfl (fun ls hl => ?_)
                        refine lv_goto (tgt := 43) hx hb d_La_law_721 (by decide) ?_
                        refine W.widen (k := cells + 1) (n := slots + 6) (Nat.le_refl _) (Nat.le_refl _) ?_
                        exact ih ((f_Mo_wrote N G (xs (x4 + (1 : Int32)).toNatClampNeg)).2) (if (f_BS_wrote N G (xs (x4 + (1 : Int32)).toNatClampNeg)).1 = 0 then (f_BS_wrote N G (xs (x4 + (1 : Int32)).toNatClampNeg)).2.toInt64 else O) (x4 + 4) (cells + 1) (slots + 6) (by omega) (by omega) hok _ _ hB ls (lv_sub hl [3, 4, 5, 6, 0] rfl)
                      · replace hok := hok.1 c21
                        refine lv_aload_n hx hb d_La_law_529 rfl (lv_at hl 5 rfl) ?_
                        refine lv_iconst (v := 0) hx hb d_La_law_530 (by decide) ?_
                        refine gl_load hC hB d_La_law_531 ?_
                        refine lv_iload hx hb d_La_law_532 (lv_at hl 0 rfl) ?_
                        refine lv_i2l (v := ((f_Mo_wrote N G (xs (x4 + (1 : Int32)).toNatClampNeg)).1).toInt64) hx hb d_La_law_534 rfl ?_
                        refine W.lcmp hx hb d_La_law_535 ?_
                        refine lv_if_eq (tgt := 541) hx hb d_La_law_536 (by decide) (fun c22 => ?_) (fun c22 => ?_)
                        · replace hok := hok.1 c22
                          refine lv_goto (tgt := 718) hx hb d_La_law_541 (by decide) ?_
                          refine lv_iinc (v := x4 + 4) (lv' := [(4, .int (x4 + 4)), (6, .int ((f_Mo_wrote N G (xs (x4 + (1 : Int32)).toNatClampNeg)).1)), (5, .int (kx1 (f_BS_wrote N G (xs (x4 + (1 : Int32)).toNatClampNeg)).1)), (0, .ref b), (1, .ref (ad 0)), (2, .ref (ad 16)), (3, .ref (ad 24))]) hx hb d_La_law_718 hl (k := 6) rfl rfl (by decide) rfl (fun ls hl => ?_)
                          refine lv_goto (tgt := 43) hx hb d_La_law_721 (by decide) ?_
                          refine W.widen (k := cells + 1) (n := slots + 6) (Nat.le_refl _) (Nat.le_refl _) ?_
                          exact ih ((f_Mo_wrote N G (xs (x4 + (1 : Int32)).toNatClampNeg)).2) (if (f_BS_wrote N G (xs (x4 + (1 : Int32)).toNatClampNeg)).1 = 0 then (f_BS_wrote N G (xs (x4 + (1 : Int32)).toNatClampNeg)).2.toInt64 else O) (x4 + 4) (cells + 1) (slots + 6) (by omega) (by omega) hok _ _ hB ls (lv_sub hl [3, 4, 5, 6, 0] rfl)
                        · replace hok := hok.2 c22
                          refine lv_iconst (v := 0) hx hb d_La_law_539 (by decide) ?_
                          exact hok.elim
                    · replace hok := hok.2 c20
                      refine lv_iconst (v := 0) hx hb d_La_law_522 (by decide) ?_
                      exact hok.elim
                  · replace hok := hok.2 c37
                    by_cases c38 : ((xs x4.toNatClampNeg) &&& (15 : Int32)) = 7
                    · replace hok := hok.1 c38
                      refine g_switch (tgt := 544) hC d_La_law_59 (fun i hi => by show i < 11; omega) (by rw [c38]; decide) ?_
                      refine lv_aload_n hx hb d_La_law_544 rfl (lv_at hl 1 rfl) ?_
                      refine lv_aload_n hx hb d_La_law_545 rfl (lv_at hl 0 rfl) ?_
                      refine lv_iload hx hb d_La_law_546 (lv_at hl 4 rfl) ?_
                      refine lv_iconst (v := 1) hx hb d_La_law_548 (by decide) ?_
                      refine lv_iadd hx hb d_La_law_549 ?_
                      refine va_sld hx hb hSX hbl hbA hB.2.2.2.1 hok.1 d_La_law_550 ?_
                      replace hok := hok.2
                      refine lv_aload_n hx hb d_La_law_551 rfl (lv_at hl 0 rfl) ?_
                      refine lv_iload hx hb d_La_law_552 (lv_at hl 4 rfl) ?_
                      refine lv_iconst (v := 2) hx hb d_La_law_554 (by decide) ?_
                      refine lv_iadd hx hb d_La_law_555 ?_
                      refine va_sld hx hb hSX hbl hbA hB.2.2.2.1 hok.1 d_La_law_556 ?_
                      replace hok := hok.2
                      refine lv_aload_n hx hb d_La_law_557 rfl (lv_at hl 0 rfl) ?_
                      refine lv_iload hx hb d_La_law_558 (lv_at hl 4 rfl) ?_
                      refine lv_iconst (v := 3) hx hb d_La_law_560 (by decide) ?_
                      refine lv_iadd hx hb d_La_law_561 ?_
                      refine va_sld hx hb hSX hbl hbA hB.2.2.2.1 hok.1 d_La_law_562 ?_
                      replace hok := hok.2
                      refine lv_aload_n hx hb d_La_law_563 rfl (lv_at hl 3 rfl) ?_
                      refine g_callSi (As := [.ref (ad 0), .int (xs (x4 + (1 : Int32)).toNatClampNeg), .int (xs (x4 + (2 : Int32)).toNatClampNeg), .int (xs (x4 + (3 : Int32)).toNatClampNeg), .ref (ad 24)]) (rest := []) hC hB (c_La_when l hst N G (xs (x4 + (1 : Int32)).toNatClampNeg) (xs (x4 + (2 : Int32)).toNatClampNeg) (xs (x4 + (3 : Int32)).toNatClampNeg) O hok.1) rfl key_La_when rfl sta_La_when ml_La_84 rfl hl.1 ⟨Nat.le_of_ble_eq_true rfl, Nat.le_of_ble_eq_true rfl, (by show cells + 1 ≤ 601024; omega), (by show slots + 6 ≤ 7293000; omega)⟩ d_La_law_564 (fun H locs hB => ?_)
                      replace hok := hok.2
                      refine lv_istore (lv' := [(5, .int (kx2 (f_BS_when N G (xs (x4 + (1 : Int32)).toNatClampNeg) (xs (x4 + (2 : Int32)).toNatClampNeg) (xs (x4 + (3 : Int32)).toNatClampNeg)).1)), (0, .ref b), (1, .ref (ad 0)), (2, .ref (ad 16)), (3, .ref (ad 24)), (4, .int x4)]) hx hb d_La_law_567 hl (by decide) rfl (fun ls hl => ?_)
                      refine lv_aload_n hx hb d_La_law_569 rfl (lv_at hl 3 rfl) ?_
                      refine lv_aload_n hx hb d_La_law_570 rfl (lv_at hl 1 rfl) ?_
                      refine lv_iload hx hb d_La_law_571 (lv_at hl 5 rfl) ?_
                      refine lv_iconst (v := 1) hx hb d_La_law_573 (by decide) ?_
                      refine lv_iadd hx hb d_La_law_574 ?_
                      refine va_sld hx hb hSX hbl hbA hB.2.2.2.1 hok.1 d_La_law_575 ?_
                      replace hok := hok.2
                      refine lv_aload_n hx hb d_La_law_576 rfl (lv_at hl 1 rfl) ?_
                      refine lv_iload hx hb d_La_law_577 (lv_at hl 5 rfl) ?_
                      refine lv_iconst (v := 2) hx hb d_La_law_579 (by decide) ?_
                      refine lv_iadd hx hb d_La_law_580 ?_
                      refine va_sld hx hb hSX hbl hbA hB.2.2.2.1 hok.1 d_La_law_581 ?_
                      replace hok := hok.2
                      refine lv_aload_n hx hb d_La_law_582 rfl (lv_at hl 1 rfl) ?_
                      refine lv_iload hx hb d_La_law_583 (lv_at hl 5 rfl) ?_
                      refine lv_iconst (v := 3) hx hb d_La_law_585 (by decide) ?_
                      refine lv_iadd hx hb d_La_law_586 ?_
                      refine va_sld hx hb hSX hbl hbA hB.2.2.2.1 hok.1 d_La_law_587 ?_
                      replace hok := hok.2
                      refine g_callVi (b := ad 16) (As := [.int (xs (x4 + (1 : Int32)).toNatClampNeg), .int (xs (x4 + (2 : Int32)).toNatClampNeg), .int (xs (x4 + (3 : Int32)).toNatClampNeg)]) (rest := []) hC hB (c_Mo_when l N G (xs (x4 + (1 : Int32)).toNatClampNeg) (xs (x4 + (2 : Int32)).toNatClampNeg) (xs (x4 + (3 : Int32)).toNatClampNeg) (if (f_BS_when N G (xs (x4 + (1 : Int32)).toNatClampNeg) (xs (x4 + (2 : Int32)).toNatClampNeg) (xs (x4 + (3 : Int32)).toNatClampNeg)).1 = 0 then (f_BS_when N G (xs (x4 + (1 : Int32)).toNatClampNeg) (xs (x4 + (2 : Int32)).toNatClampNeg) (xs (x4 + (3 : Int32)).toNatClampNeg)).2.toInt64 else O) hok.1) rfl key_Mo_when rfl ins_Mo_when sel_Mo_when ml_La_87 (g_rec16 hB) rfl hl.1 ⟨Nat.le_of_ble_eq_true rfl, Nat.le_of_ble_eq_true rfl, (by show cells + 1 ≤ 601024; omega), (by show slots + 6 ≤ 7293000; omega)⟩ d_La_law_588 (fun H locs hB => ?_)
                      replace hok := hok.2
                      refine lv_istore (lv' := [(6, .int ((f_Mo_when N G (xs (x4 + (1 : Int32)).toNatClampNeg) (xs (x4 + (2 : Int32)).toNatClampNeg) (xs (x4 + (3 : Int32)).toNatClampNeg)).1)), (5, .int (kx2 (f_BS_when N G (xs (x4 + (1 : Int32)).toNatClampNeg) (xs (x4 + (2 : Int32)).toNatClampNeg) (xs (x4 + (3 : Int32)).toNatClampNeg)).1)), (0, .ref b), (1, .ref (ad 0)), (2, .ref (ad 16)), (3, .ref (ad 24)), (4, .int x4)]) hx hb d_La_law_591 hl (by decide) rfl (fun ls hl => ?_)
                      refine lv_aload_n hx hb d_La_law_593 rfl (lv_at hl 4 rfl) ?_
                      refine g_callVi (b := ad 16) (As := []) (rest := []) hC hB (c_Mo_thrown l ((f_Mo_when N G (xs (x4 + (1 : Int32)).toNatClampNeg) (xs (x4 + (2 : Int32)).toNatClampNeg) (xs (x4 + (3 : Int32)).toNatClampNeg)).2) (if (f_BS_when N G (xs (x4 + (1 : Int32)).toNatClampNeg) (xs (x4 + (2 : Int32)).toNatClampNeg) (xs (x4 + (3 : Int32)).toNatClampNeg)).1 = 0 then (f_BS_when N G (xs (x4 + (1 : Int32)).toNatClampNeg) (xs (x4 + (2 : Int32)).toNatClampNeg) (xs (x4 + (3 : Int32)).toNatClampNeg)).2.toInt64 else O)) rfl key_Mo_thrown rfl ins_Mo_thrown sel_Mo_thrown ml_La_61 (g_rec16 hB) rfl hl.1 ⟨Nat.le_of_ble_eq_true rfl, Nat.le_of_ble_eq_true rfl, (by show cells + 1 ≤ 601024; omega), (by show slots + 6 ≤ 7293000; omega)⟩ d_La_law_594 (fun H locs hB => ?_)
                      refine lv_iload hx hb d_La_law_597 (lv_at hl 1 rfl) ?_
                      refine lv_icmp_eq (tgt := 604) hx hb d_La_law_599 (by decide) (fun c23 => ?_) (fun c23 => ?_)
                      · replace hok := hok.1 c23
                        refine lv_iload hx hb d_La_law_604 (lv_at hl 1 rfl) ?_
                        refine lv_if_ne (tgt := 621) hx hb d_La_law_606 (by decide) (fun c24 => ?_) (fun c24 => ?_)
                        · replace hok := hok.2 c24
                          refine lv_goto (tgt := 718) hx hb d_La_law_621 (by decide) ?_
                          refine lv_iinc (v := x4 + 4) (lv' := [(4, .int (x4 + 4)), (6, .int ((f_Mo_when N G (xs (x4 + (1 : Int32)).toNatClampNeg) (xs (x4 + (2 : Int32)).toNatClampNeg) (xs (x4 + (3 : Int32)).toNatClampNeg)).1)), (5, .int (kx2 (f_BS_when N G (xs (x4 + (1 : Int32)).toNatClampNeg) (xs (x4 + (2 : Int32)).toNatClampNeg) (xs (x4 + (3 : Int32)).toNatClampNeg)).1)), (0, .ref b), (1, .ref (ad 0)), (2, .ref (ad 16)), (3, .ref (ad 24))]) hx hb d_La_law_718 hl (k := 6) rfl rfl (by decide) rfl (fun ls hl => ?_)
                          refine lv_goto (tgt := 43) hx hb d_La_law_721 (by decide) ?_
                          refine W.widen (k := cells + 1) (n := slots + 6) (Nat.le_refl _) (Nat.le_refl _) ?_
                          exact ih ((f_Mo_when N G (xs (x4 + (1 : Int32)).toNatClampNeg) (xs (x4 + (2 : Int32)).toNatClampNeg) (xs (x4 + (3 : Int32)).toNatClampNeg)).2) (if (f_BS_when N G (xs (x4 + (1 : Int32)).toNatClampNeg) (xs (x4 + (2 : Int32)).toNatClampNeg) (xs (x4 + (3 : Int32)).toNatClampNeg)).1 = 0 then (f_BS_when N G (xs (x4 + (1 : Int32)).toNatClampNeg) (xs (x4 + (2 : Int32)).toNatClampNeg) (xs (x4 + (3 : Int32)).toNatClampNeg)).2.toInt64 else O) (x4 + 4) (cells + 1) (slots + 6) (by omega) (by omega) hok _ _ hB ls (lv_sub hl [3, 4, 5, 6, 0] rfl)
                        · replace hok := hok.1 c24
                          refine lv_aload_n hx hb d_La_law_609 rfl (lv_at hl 5 rfl) ?_
                          refine lv_iconst (v := 0) hx hb d_La_law_610 (by decide) ?_
                          refine gl_load hC hB d_La_law_611 ?_
                          refine lv_iload hx hb d_La_law_612 (lv_at hl 0 rfl) ?_
                          refine lv_i2l (v := ((f_Mo_when N G (xs (x4 + (1 : Int32)).toNatClampNeg) (xs (x4 + (2 : Int32)).toNatClampNeg) (xs (x4 + (3 : Int32)).toNatClampNeg)).1).toInt64) hx hb d_La_law_614 rfl ?_
                          refine W.lcmp hx hb d_La_law_615 ?_
                          refine lv_if_eq (tgt := 621) hx hb d_La_law_616 (by decide) (fun c25 => ?_) (fun c25 => ?_)
                          · replace hok := hok.1 c25
                            refine lv_goto (tgt := 718) hx hb d_La_law_621 (by decide) ?_
                            refine lv_iinc (v := x4 + 4) (lv' := [(4, .int (x4 + 4)), (6, .int ((f_Mo_when N G (xs (x4 + (1 : Int32)).toNatClampNeg) (xs (x4 + (2 : Int32)).toNatClampNeg) (xs (x4 + (3 : Int32)).toNatClampNeg)).1)), (5, .int (kx2 (f_BS_when N G (xs (x4 + (1 : Int32)).toNatClampNeg) (xs (x4 + (2 : Int32)).toNatClampNeg) (xs (x4 + (3 : Int32)).toNatClampNeg)).1)), (0, .ref b), (1, .ref (ad 0)), (2, .ref (ad 16)), (3, .ref (ad 24))]) hx hb d_La_law_718 hl (k := 6) rfl rfl (by decide) rfl (fun ls hl => ?_)
                            refine lv_goto (tgt := 43) hx hb d_La_law_721 (by decide) ?_
                            refine W.widen (k := cells + 1) (n := slots + 6) (Nat.le_refl _) (Nat.le_refl _) ?_
                            exact ih ((f_Mo_when N G (xs (x4 + (1 : Int32)).toNatClampNeg) (xs (x4 + (2 : Int32)).toNatClampNeg) (xs (x4 + (3 : Int32)).toNatClampNeg)).2) (if (f_BS_when N G (xs (x4 + (1 : Int32)).toNatClampNeg) (xs (x4 + (2 : Int32)).toNatClampNeg) (xs (x4 + (3 : Int32)).toNatClampNeg)).1 = 0 then (f_BS_when N G (xs (x4 + (1 : Int32)).toNatClampNeg) (xs (x4 + (2 : Int32)).toNatClampNeg) (xs (x4 + (3 : Int32)).toNatClampNeg)).2.toInt64 else O) (x4 + 4) (cells + 1) (slots + 6) (by omega) (by omega) hok _ _ hB ls (lv_sub hl [3, 4, 5, 6, 0] rfl)
                          · replace hok := hok.2 c25
                            refine lv_iconst (v := 0) hx hb d_La_law_619 (by decide) ?_
                            exact hok.elim
                      · replace hok := hok.2 c23
                        refine lv_iconst (v := 0) hx hb d_La_law_602 (by decide) ?_
                        exact hok.elim
                    · replace hok := hok.2 c38
                      by_cases c39 : ((xs x4.toNatClampNeg) &&& (15 : Int32)) = 8
                      · replace hok := hok.1 c39
                        refine g_switch (tgt := 624) hC d_La_law_59 (fun i hi => by show i < 11; omega) (by rw [c39]; decide) ?_
                        refine lv_aload_n hx hb d_La_law_624 rfl (lv_at hl 1 rfl) ?_
                        refine g_callVi (b := ad 0) (As := []) (rest := []) hC hB (c_BS_replay l N G O hok.1) rfl key_BS_replay rfl ins_BS_replay sel_BS_replay ml_La_88 (g_rec0 hB) rfl hl.1 ⟨Nat.le_of_ble_eq_true rfl, Nat.le_of_ble_eq_true rfl, (by show cells + 0 ≤ 601024; omega), (by show slots + 0 ≤ 7293000; omega)⟩ d_La_law_625 (fun H locs hB => ?_)
                        replace hok := hok.2
                        refine lv_aload_n hx hb d_La_law_628 rfl (lv_at hl 2 rfl) ?_
                        refine g_callVi (b := ad 16) (As := []) (rest := [.int ((f_BS_replay N G).1)]) hC hB (c_Mo_replay l N ((f_BS_replay N G).2) O hok.1) rfl key_Mo_replay rfl ins_Mo_replay sel_Mo_replay ml_La_91 (g_rec16 hB) rfl hl.1 ⟨Nat.le_of_ble_eq_true rfl, Nat.le_of_ble_eq_true rfl, (by show cells + 0 ≤ 601024; omega), (by show slots + 0 ≤ 7293000; omega)⟩ d_La_law_629 (fun H locs hB => ?_)
                        replace hok := hok.2
                        refine lv_icmp_eq (tgt := 718) hx hb d_La_law_632 (by decide) (fun c26 => ?_) (fun c26 => ?_)
                        · replace hok := hok.1 c26
                          refine lv_iinc (v := x4 + 4) (lv' := [(4, .int (x4 + 4)), (0, .ref b), (1, .ref (ad 0)), (2, .ref (ad 16)), (3, .ref (ad 24))]) hx hb d_La_law_718 hl (k := 4) rfl rfl (by decide) rfl (fun ls hl => ?_)
                          refine lv_goto (tgt := 43) hx hb d_La_law_721 (by decide) ?_
                          refine W.widen (k := cells + 1) (n := slots + 6) (Nat.le_succ _) (Nat.le_add_right _ _) ?_
                          exact ih ((f_Mo_replay N ((f_BS_replay N G).2)).2) O (x4 + 4) (cells + 1) (slots + 6) (by omega) (by omega) hok _ _ hB ls (lv_sub hl [1, 2, 3, 4, 0] rfl)
                        · replace hok := hok.2 c26
                          refine lv_iconst (v := 0) hx hb d_La_law_635 (by decide) ?_
                          exact hok.elim
                      · replace hok := hok.2 c39
                        by_cases c40 : ((xs x4.toNatClampNeg) &&& (15 : Int32)) = 9
                        · replace hok := hok.1 c40
                          refine g_switch (tgt := 637) hC d_La_law_59 (fun i hi => by show i < 11; omega) (by rw [c40]; decide) ?_
                          refine lv_aload_n hx hb d_La_law_637 rfl (lv_at hl 1 rfl) ?_
                          refine lv_aload_n hx hb d_La_law_638 rfl (lv_at hl 0 rfl) ?_
                          refine lv_iload hx hb d_La_law_639 (lv_at hl 4 rfl) ?_
                          refine lv_iconst (v := 1) hx hb d_La_law_641 (by decide) ?_
                          refine lv_iadd hx hb d_La_law_642 ?_
                          refine va_sld hx hb hSX hbl hbA hB.2.2.2.1 hok.1 d_La_law_643 ?_
                          replace hok := hok.2
                          refine lv_aload_n hx hb d_La_law_644 rfl (lv_at hl 3 rfl) ?_
                          refine g_callSi (As := [.ref (ad 0), .int (xs (x4 + (1 : Int32)).toNatClampNeg), .ref (ad 24)]) (rest := []) hC hB (c_La_cost l hst G (xs (x4 + (1 : Int32)).toNatClampNeg) O hok.1) rfl key_La_cost rfl sta_La_cost ml_La_92 rfl hl.1 ⟨Nat.le_of_ble_eq_true rfl, Nat.le_of_ble_eq_true rfl, (by show cells + 1 ≤ 601024; omega), (by show slots + 6 ≤ 7293000; omega)⟩ d_La_law_645 (fun H locs hB => ?_)
                          replace hok := hok.2
                          refine lv_istore (lv' := [(5, .int (kx1 (f_BS_cost G (xs (x4 + (1 : Int32)).toNatClampNeg)).1)), (0, .ref b), (1, .ref (ad 0)), (2, .ref (ad 16)), (3, .ref (ad 24)), (4, .int x4)]) hx hb d_La_law_648 hl (by decide) rfl (fun ls hl => ?_)
                          refine lv_aload_n hx hb d_La_law_650 rfl (lv_at hl 3 rfl) ?_
                          refine lv_aload_n hx hb d_La_law_651 rfl (lv_at hl 1 rfl) ?_
                          refine lv_iload hx hb d_La_law_652 (lv_at hl 5 rfl) ?_
                          refine lv_iconst (v := 1) hx hb d_La_law_654 (by decide) ?_
                          refine lv_iadd hx hb d_La_law_655 ?_
                          refine va_sld hx hb hSX hbl hbA hB.2.2.2.1 hok.1 d_La_law_656 ?_
                          replace hok := hok.2
                          refine g_callVi (b := ad 16) (As := [.int (xs (x4 + (1 : Int32)).toNatClampNeg)]) (rest := []) hC hB (c_Mo_cost l G (xs (x4 + (1 : Int32)).toNatClampNeg) (if (f_BS_cost G (xs (x4 + (1 : Int32)).toNatClampNeg)).1 = 0 then (f_BS_cost G (xs (x4 + (1 : Int32)).toNatClampNeg)).2.toInt64 else O) hok.1) rfl key_Mo_cost rfl ins_Mo_cost sel_Mo_cost ml_La_94 (g_rec16 hB) rfl hl.1 ⟨Nat.le_of_ble_eq_true rfl, Nat.le_of_ble_eq_true rfl, (by show cells + 1 ≤ 601024; omega), (by show slots + 6 ≤ 7293000; omega)⟩ d_La_law_657 (fun H locs hB => ?_)
                          replace hok := hok.2
                          refine lv_istore (lv' := [(6, .int ((f_Mo_cost G (xs (x4 + (1 : Int32)).toNatClampNeg)).1)), (5, .int (kx1 (f_BS_cost G (xs (x4 + (1 : Int32)).toNatClampNeg)).1)), (0, .ref b), (1, .ref (ad 0)), (2, .ref (ad 16)), (3, .ref (ad 24)), (4, .int x4)]) hx hb d_La_law_660 hl (by decide) rfl (fun ls hl => ?_)
                          refine lv_aload_n hx hb d_La_law_662 rfl (lv_at hl 4 rfl) ?_
                          refine g_callVi (b := ad 16) (As := []) (rest := []) hC hB (c_Mo_thrown l ((f_Mo_cost G (xs (x4 + (1 : Int32)).toNatClampNeg)).2) (if (f_BS_cost G (xs (x4 + (1 : Int32)).toNatClampNeg)).1 = 0 then (f_BS_cost G (xs (x4 + (1 : Int32)).toNatClampNeg)).2.toInt64 else O)) rfl key_Mo_thrown rfl ins_Mo_thrown sel_Mo_thrown ml_La_61 (g_rec16 hB) rfl hl.1 ⟨Nat.le_of_ble_eq_true rfl, Nat.le_of_ble_eq_true rfl, (by show cells + 1 ≤ 601024; omega), (by show slots + 6 ≤ 7293000; omega)⟩ d_La_law_663 (fun H locs hB => ?_)
                          refine lv_iload hx hb d_La_law_666 (lv_at hl 1 rfl) ?_
                          refine lv_icmp_eq (tgt := 673) hx hb d_La_law_668 (by decide) (fun c27 => ?_) (fun c27 => ?_)
                          · replace hok := hok.1 c27
                            refine lv_iload hx hb d_La_law_673 (lv_at hl 1 rfl) ?_
                            refine lv_if_ne (tgt := 690) hx hb d_La_law_675 (by decide) (fun c28 => ?_) (fun c28 => ?_)
                            · replace hok := hok.2 c28
                              refine lv_goto (tgt := 718) hx hb d_La_law_690 (by decide) ?_
                              refine lv_iinc (v := x4 + 4) (lv' := [(4, .int (x4 + 4)), (6, .int ((f_Mo_cost G (xs (x4 + (1 : Int32)).toNatClampNeg)).1)), (5, .int (kx1 (f_BS_cost G (xs (x4 + (1 : Int32)).toNatClampNeg)).1)), (0, .ref b), (1, .ref (ad 0)), (2, .ref (ad 16)), (3, .ref (ad 24))]) hx hb d_La_law_718 hl (k := 6) rfl rfl (by decide) rfl (fun ls hl => ?_)
                              refine lv_goto (tgt := 43) hx hb d_La_law_721 (by decide) ?_
                              refine W.widen (k := cells + 1) (n := slots + 6) (Nat.le_refl _) (Nat.le_refl _) ?_
                              exact ih ((f_Mo_cost G (xs (x4 + (1 : Int32)).toNatClampNeg)).2) (if (f_BS_cost G (xs (x4 + (1 : Int32)).toNatClampNeg)).1 = 0 then (f_BS_cost G (xs (x4 + (1 : Int32)).toNatClampNeg)).2.toInt64 else O) (x4 + 4) (cells + 1) (slots + 6) (by omega) (by omega) hok _ _ hB ls (lv_sub hl [3, 4, 5, 6, 0] rfl)
                            · replace hok := hok.1 c28
                              refine lv_aload_n hx hb d_La_law_678 rfl (lv_at hl 5 rfl) ?_
                              refine lv_iconst (v := 0) hx hb d_La_law_679 (by decide) ?_
                              refine gl_load hC hB d_La_law_680 ?_
                              refine lv_iload hx hb d_La_law_681 (lv_at hl 0 rfl) ?_
                              refine lv_i2l (v := ((f_Mo_cost G (xs (x4 + (1 : Int32)).toNatClampNeg)).1).toInt64) hx hb d_La_law_683 rfl ?_
                              refine W.lcmp hx hb d_La_law_684 ?_
                              refine lv_if_eq (tgt := 690) hx hb d_La_law_685 (by decide) (fun c29 => ?_) (fun c29 => ?_)
                              · replace hok := hok.1 c29
                                refine lv_goto (tgt := 718) hx hb d_La_law_690 (by decide) ?_
                                refine lv_iinc (v := x4 + 4) (lv' := [(4, .int (x4 + 4)), (6, .int ((f_Mo_cost G (xs (x4 + (1 : Int32)).toNatClampNeg)).1)), (5, .int (kx1 (f_BS_cost G (xs (x4 + (1 : Int32)).toNatClampNeg)).1)), (0, .ref b), (1, .ref (ad 0)), (2, .ref (ad 16)), (3, .ref (ad 24))]) hx hb d_La_law_718 hl (k := 6) rfl rfl (by decide) rfl (fun ls hl => ?_)
                                refine lv_goto (tgt := 43) hx hb d_La_law_721 (by decide) ?_
                                refine W.widen (k := cells + 1) (n := slots + 6) (Nat.le_refl _) (Nat.le_refl _) ?_
                                exact ih ((f_Mo_cost G (xs (x4 + (1 : Int32)).toNatClampNeg)).2) (if (f_BS_cost G (xs (x4 + (1 : Int32)).toNatClampNeg)).1 = 0 then (f_BS_cost G (xs (x4 + (1 : Int32)).toNatClampNeg)).2.toInt64 else O) (x4 + 4) (cells + 1) (slots + 6) (by omega) (by omega) hok _ _ hB ls (lv_sub hl [3, 4, 5, 6, 0] rfl)
                              · replace hok := hok.2 c29
                                refine lv_iconst (v := 0) hx hb d_La_law_688 (by decide) ?_
                                exact hok.elim
                          · replace hok := hok.2 c27
                            refine lv_iconst (v := 0) hx hb d_La_law_671 (by decide) ?_
                            exact hok.elim
                        · replace hok := hok.2 c40
                          by_cases c41 : ((xs x4.toNatClampNeg) &&& (15 : Int32)) = 10
                          · replace hok := hok.1 c41
                            refine g_switch (tgt := 693) hC d_La_law_59 (fun i hi => by show i < 11; omega) (by rw [c41]; decide) ?_
                            refine lv_aload_n hx hb d_La_law_693 rfl (lv_at hl 1 rfl) ?_
                            refine lv_aload_n hx hb d_La_law_694 rfl (lv_at hl 0 rfl) ?_
                            refine lv_iload hx hb d_La_law_695 (lv_at hl 4 rfl) ?_
                            refine lv_iconst (v := 1) hx hb d_La_law_697 (by decide) ?_
                            refine lv_iadd hx hb d_La_law_698 ?_
                            refine va_sld hx hb hSX hbl hbA hB.2.2.2.1 hok.1 d_La_law_699 ?_
                            replace hok := hok.2
                            refine g_callVi (b := ad 0) (As := [.int (xs (x4 + (1 : Int32)).toNatClampNeg)]) (rest := []) hC hB (c_BS_count l G (xs (x4 + (1 : Int32)).toNatClampNeg) O hok.1) rfl key_BS_count rfl ins_BS_count sel_BS_count ml_La_95 (g_rec0 hB) rfl hl.1 ⟨Nat.le_of_ble_eq_true rfl, Nat.le_of_ble_eq_true rfl, (by show cells + 0 ≤ 601024; omega), (by show slots + 0 ≤ 7293000; omega)⟩ d_La_law_700 (fun H locs hB => ?_)
                            replace hok := hok.2
                            refine lv_aload_n hx hb d_La_law_703 rfl (lv_at hl 2 rfl) ?_
                            refine lv_aload_n hx hb d_La_law_704 rfl (lv_at hl 0 rfl) ?_
                            refine lv_iload hx hb d_La_law_705 (lv_at hl 4 rfl) ?_
                            refine lv_iconst (v := 1) hx hb d_La_law_707 (by decide) ?_
                            refine lv_iadd hx hb d_La_law_708 ?_
                            refine va_sld hx hb hSX hbl hbA hB.2.2.2.1 hok.1 d_La_law_709 ?_
                            replace hok := hok.2
                            refine g_callVi (b := ad 16) (As := [.int (xs (x4 + (1 : Int32)).toNatClampNeg)]) (rest := [.int (f_BS_count G (xs (x4 + (1 : Int32)).toNatClampNeg))]) hC hB (c_Mo_count l N G (xs (x4 + (1 : Int32)).toNatClampNeg) O hok.1) rfl key_Mo_count rfl ins_Mo_count sel_Mo_count ml_La_98 (g_rec16 hB) rfl hl.1 ⟨Nat.le_of_ble_eq_true rfl, Nat.le_of_ble_eq_true rfl, (by show cells + 0 ≤ 601024; omega), (by show slots + 0 ≤ 7293000; omega)⟩ d_La_law_710 (fun H locs hB => ?_)
                            replace hok := hok.2
                            refine lv_icmp_eq (tgt := 718) hx hb d_La_law_713 (by decide) (fun c30 => ?_) (fun c30 => ?_)
                            · replace hok := hok.1 c30
                              refine lv_iinc (v := x4 + 4) (lv' := [(4, .int (x4 + 4)), (0, .ref b), (1, .ref (ad 0)), (2, .ref (ad 16)), (3, .ref (ad 24))]) hx hb d_La_law_718 hl (k := 4) rfl rfl (by decide) rfl (fun ls hl => ?_)
                              refine lv_goto (tgt := 43) hx hb d_La_law_721 (by decide) ?_
                              refine W.widen (k := cells + 1) (n := slots + 6) (Nat.le_succ _) (Nat.le_add_right _ _) ?_
                              exact ih ((f_Mo_count N G (xs (x4 + (1 : Int32)).toNatClampNeg)).2) O (x4 + 4) (cells + 1) (slots + 6) (by omega) (by omega) hok _ _ hB ls (lv_sub hl [1, 2, 3, 4, 0] rfl)
                            · replace hok := hok.2 c30
                              refine lv_iconst (v := 0) hx hb d_La_law_716 (by decide) ?_
                              exact hok.elim
                          · replace hok := hok.2 c41
                            refine g_switch (tgt := 718) hC d_La_law_59 (fun i hi => by show i < 11; omega) ?_ ?_
                            · have e0 := g_ne (k := 0) c31 (by decide)
                              have e1 := g_ne (k := 1) c32 (by decide)
                              have e2 := g_ne (k := 2) c33 (by decide)
                              have e3 := g_ne (k := 3) c34 (by decide)
                              have e4 := g_ne (k := 4) c35 (by decide)
                              have e5 := g_ne (k := 5) c36 (by decide)
                              have e6 := g_ne (k := 6) c37 (by decide)
                              have e7 := g_ne (k := 7) c38 (by decide)
                              have e8 := g_ne (k := 8) c39 (by decide)
                              have e9 := g_ne (k := 9) c40 (by decide)
                              have e10 := g_ne (k := 10) c41 (by decide)
                              have e : ((xs x4.toNatClampNeg) &&& (15 : Int32)).toInt < 0 ∨ 10 < ((xs x4.toNatClampNeg) &&& (15 : Int32)).toInt := by omega
                              rw [g_swt, if_pos e]; decide
                            · refine lv_iinc (v := x4 + 4) (lv' := [(4, .int (x4 + 4)), (0, .ref b), (1, .ref (ad 0)), (2, .ref (ad 16)), (3, .ref (ad 24))]) hx hb d_La_law_718 hl (k := 4) rfl rfl (by decide) rfl (fun ls hl => ?_)
                              refine lv_goto (tgt := 43) hx hb d_La_law_721 (by decide) ?_
                              refine W.widen (k := cells + 1) (n := slots + 6) (Nat.le_succ _) (Nat.le_add_right _ _) ?_
                              exact ih G O (x4 + 4) (cells + 1) (slots + 6) (by omega) (by omega) hok _ _ hB ls (lv_sub hl [1, 2, 3, 4, 0] rfl)
