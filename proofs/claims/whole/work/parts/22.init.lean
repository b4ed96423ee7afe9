/-! The makings: constructors over growing worlds (the kit's rows), and the small methods that they call. -/
theorem g_good {w : Cond} (h : w ∈ gtb) : GoodIn gtb (w :: gtb) := fun v hv => (List.mem_cons.mp hv).elim (fun e => by subst e; exact ⟨h, good_of_word (List.mem_filter.mp h).2⟩) (fun h2 => ⟨h2, good_of_word (List.mem_filter.mp h2).2⟩)
theorem g_good1 {w : Cond} (h : w ∈ gtb) : GoodIn gtb [w] := fun v hv => by rw [List.mem_singleton.mp hv]; exact ⟨h, good_of_word (List.mem_filter.mp h).2⟩
theorem arr_I : Cond.arrayClass .int ∈ gtb := g_mem 79 (by decide +kernel) rfl
theorem arr_L : Cond.arrayClass .long ∈ gtb := g_mem 621 (by decide +kernel) rfl
section GN
variable {p : Program} {l : Launch} {e : Env} {R : Room} {s0 s : State} {m : MethodId} {args : Array Value} {below : List Frame} {meth : Method} {c : Code} {H : Heap} {locs : List Loc} {cells slots mc ms : Nat} {Q : State → Prop} {cc : ByteArray} {nL pc : Nat} {ls : Array Slot} {rest : List Value} {own : String} {D : va_G} {cI cL : ClassId} {ad : Nat → Nat} {G : gT} {O : Int64}
variable {A : Nat → Prop} {ws : va_W}
theorem gn_arr (hC : CallFix p m c cc nL s args gtb own) (hK : va_K D gcl (gty cI cL) s) (hP : va_P D gcl ws H) (hD : va_D A ws) (hS : va_S A s.heap H locs) (hA : ∀ q, s.heap.size ≤ q → A q) {n : Int32} {N' : Nat} (hn : ¬ n < 0) (hN : n.toNatClampNeg = N') (hby : N' * 4 ≤ 536870912) (hc : cells + 1 ≤ R.cells) (hs : slots + N' ≤ R.slots) (hdg : decode cc pc = .ok (.newarray .int, 2))
    (kk : ∀ (q : Nat) (H1 : Heap), va_P D gcl (ws ++ [(q, .inl (cI, N', .inl (fun _ => 0)))]) H1 → va_D A (ws ++ [(q, .inl (cI, N', .inl (fun _ => 0)))]) → va_S A s.heap H1 locs → W p l e R s m args below meth c H1 locs (cells + 1) (slots + N') Q (F0 m (pc + 2) ls (.ref q :: rest))) : W p l e R s m args below meth c H locs cells slots Q (F0 m pc ls (.int n :: rest)) := by
  refine va_newa (ty := .int) (a0 := (N', .inl (fun _ => 0))) hC.1 hC.2.1 (hC.2.2.2.2 _ (show Cond.arrayClass (newarray.typeOf .int) ∈ gtb from arr_I)) rfl hK hP hD hS hA (fun cA => rfl) hn hN hby hc hs hdg (fun q cA H1 hK' hP' hD' hS' => ?_)
  have e1 : s.vm.findClass ("[" ++ FieldType.int.toString) = some cA := (hK'.2 2 (cA, .int) rfl).2
  have e2 : s.vm.findClass ("[" ++ FieldType.int.toString) = some cI := (hK.2 0 (cI, .int) rfl).2
  have e3 : cA = cI := Option.some.inj (e1.symm.trans e2)
  subst e3
  exact kk q H1 hP' hD' hS'
theorem gn_arrL (hC : CallFix p m c cc nL s args gtb own) (hK : va_K D gcl (gty cI cL) s) (hP : va_P D gcl ws H) (hD : va_D A ws) (hS : va_S A s.heap H locs) (hA : ∀ q, s.heap.size ≤ q → A q) (hc : cells + 1 ≤ R.cells) (hs : slots + 1 ≤ R.slots) (hdg : decode cc pc = .ok (.newarray .long, 2))
    (kk : ∀ (q : Nat) (H1 : Heap), va_P D gcl (ws ++ [(q, .inl (cL, 1, .inr (.inl (fun _ => 0))))]) H1 → va_D A (ws ++ [(q, .inl (cL, 1, .inr (.inl (fun _ => 0))))]) → va_S A s.heap H1 locs → W p l e R s m args below meth c H1 locs (cells + 1) (slots + 1) Q (F0 m (pc + 2) ls (.ref q :: rest))) : W p l e R s m args below meth c H locs cells slots Q (F0 m pc ls (.int 1 :: rest)) := by
  refine va_newa (ty := .long) (a0 := (1, .inr (.inl (fun _ => 0)))) hC.1 hC.2.1 (hC.2.2.2.2 _ (show Cond.arrayClass (newarray.typeOf .long) ∈ gtb from arr_L)) rfl hK hP hD hS hA (fun cA => rfl) (by decide) (by decide) (by decide) hc hs hdg (fun q cA H1 hK' hP' hD' hS' => ?_)
  have e1 : s.vm.findClass ("[" ++ FieldType.long.toString) = some cA := (hK'.2 2 (cA, .long) rfl).2
  have e2 : s.vm.findClass ("[" ++ FieldType.long.toString) = some cL := (hK.2 1 (cL, .long) rfl).2
  have e3 : cA = cL := Option.some.inj (e1.symm.trans e2)
  subst e3
  exact kk q H1 hP' hD' hS'
end GN
theorem obj_in : Cond.instanceMethod objectInit ∈ gtb := g_mem 19 (by decide +kernel) rfl
theorem obj_co : Cond.code objectInit ⟨#[0xb1]⟩ 1 none ∈ gtb := g_mem 20 (by decide +kernel) rfl
theorem ml_BS_obj : Cond.methodLink R_BS 3 objectInit ∈ gtb := g_mem 18 (by decide +kernel) rfl
theorem mi_BS_34 : Cond.methodLink R_BS 34 y_Ro_init ∈ gtb := g_mem 85 (by decide +kernel) rfl
theorem ml_Ma_obj : Cond.methodLink R_Ma 3 objectInit ∈ gtb := g_mem 26 (by decide +kernel) rfl
theorem ml_Ro_obj : Cond.methodLink R_Ro 5 objectInit ∈ gtb := g_mem 88 (by decide +kernel) rfl
theorem mi_La_51 : Cond.methodLink R_La 51 y_BS_init ∈ gtb := g_mem 15 (by decide +kernel) rfl
theorem mi_La_56 : Cond.methodLink R_La 56 y_Mo_init ∈ gtb := g_mem 467 (by decide +kernel) rfl
theorem ml_Mo_obj : Cond.methodLink R_Mo 1 objectInit ∈ gtb := g_mem 470 (by decide +kernel) rfl
theorem wi_Ma : w_Ma_init ∈ gtb := g_mem 25 (by decide +kernel) rfl
theorem ii_Ma : Cond.instanceMethod y_Ma_init ∈ gtb := g_mem 24 (by decide +kernel) rfl
theorem in1_Ma : Cond.initialized R_Ma ∈ gtb := g_mem 2 (by decide +kernel) rfl
theorem in2_Ma : Cond.instantiable R_Ma 12 ∈ gtb := g_mem 22 (by decide +kernel) rfl
theorem wi_Ro : w_Ro_init ∈ gtb := g_mem 87 (by decide +kernel) rfl
theorem ii_Ro : Cond.instanceMethod y_Ro_init ∈ gtb := g_mem 86 (by decide +kernel) rfl
theorem in1_Ro : Cond.initialized R_Ro ∈ gtb := g_mem 3 (by decide +kernel) rfl
theorem in2_Ro : Cond.instantiable R_Ro 13 ∈ gtb := g_mem 81 (by decide +kernel) rfl
theorem wi_BS : w_BS_init ∈ gtb := g_mem 17 (by decide +kernel) rfl
theorem ii_BS : Cond.instanceMethod y_BS_init ∈ gtb := g_mem 16 (by decide +kernel) rfl
theorem in1_BS : Cond.initialized R_BS ∈ gtb := g_mem 1 (by decide +kernel) rfl
theorem in2_BS : Cond.instantiable R_BS 7 ∈ gtb := g_mem 14 (by decide +kernel) rfl
theorem wi_Mo : w_Mo_init ∈ gtb := g_mem 469 (by decide +kernel) rfl
theorem ii_Mo : Cond.instanceMethod y_Mo_init ∈ gtb := g_mem 468 (by decide +kernel) rfl
theorem in1_Mo : Cond.initialized R_Mo ∈ gtb := g_mem 5 (by decide +kernel) rfl
theorem in2_Mo : Cond.instantiable R_Mo 15 ∈ gtb := g_mem 466 (by decide +kernel) rfl
theorem cl_BS_16 : Cond.classLink R_BS 16 R_Ma ∈ gtb := g_mem 21 (by decide +kernel) rfl
theorem cl_BS_26 : Cond.classLink R_BS 26 R_Ro ∈ gtb := g_mem 80 (by decide +kernel) rfl
theorem cl_La_8 : Cond.classLink R_La 8 R_BS ∈ gtb := g_mem 13 (by decide +kernel) rfl
theorem cl_La_54 : Cond.classLink R_La 54 R_Mo ∈ gtb := g_mem 465 (by decide +kernel) rfl
theorem co_22 : Cond.constant R_Mo 22 275725 ∈ gtb := g_mem 471 (by decide +kernel) rfl
set_option maxHeartbeats 4000000 in
set_option maxRecDepth 100000 in
theorem q_Mt_floorMod (l : Launch) (G : gT) (p0 : Int32) (p1 : Int32) (hok : ok_Mt_floorMod G p0 p1) : Met l y_Mt_floorMod [w_Mt_floorMod] {} (fun v _ => v = ([.int p0, .int p1] : List Value).toArray) (QcRead (f_Mt_floorMod G p0 p1)) 0 0 (fun _ => False) := by
  refine va_MetF (cc := b_Mt_floorMod) (maxL := 3) (ret := (some .int)) (by decide +kernel) rfl ?_
  intro p e s m args below meth c s₁ B hml hv
  subst hv
  have hx := B.exec
  have hb := B.bytes
  have hr := B.returns
  have hlk := B.notSynchronized
  have hl := lv_entry ([.int p0, .int p1]) (n := 3) (Nat.le_of_ble_eq_true rfl)
  rw [lg_entry_eq]
  generalize (lg_sl ([.int p0, .int p1]) ++ List.replicate (3 - (lg_sl ([.int p0, .int p1])).length) Slot.unset).toArray = ls at hl ⊢
  have hl : lv_has ls 3 [(0, .int p0), (1, .int p1)] := hl
  have hf : f_Mt_floorMod G p0 p1 = (if (0 : Int32) ≤ (p0 ^^^ p1) then p0 - p0 / p1 * p1 else (if (p0 - p0 / p1 * p1) = 0 then p0 - p0 / p1 * p1 else (p0 - p0 / p1 * p1) + p1)) := rfl
  have hok : (¬ p1 = 0 ∧ True) := hok
  refine lv_iload_n hx hb d_Mt_floorMod_0 rfl (lv_at hl 0 rfl) ?_
  refine lv_iload_n hx hb d_Mt_floorMod_1 rfl (lv_at hl 1 rfl) ?_
  refine lv_irem hx hb d_Mt_floorMod_2 hok.1 ?_
  replace hok := hok.2
  refine lv_istore_n (lv' := [(2, .int (p0 - p0 / p1 * p1)), (0, .int p0), (1, .int p1)]) hx hb d_Mt_floorMod_3 rfl hl (by decide) rfl (fun ls hl => ?_)
  refine lv_iload_n hx hb d_Mt_floorMod_4 rfl (lv_at hl 1 rfl) ?_
  refine lv_iload_n hx hb d_Mt_floorMod_5 rfl (lv_at hl 2 rfl) ?_
  refine lv_ixor hx hb d_Mt_floorMod_6 ?_
  refine lv_if_ge (tgt := 18) hx hb d_Mt_floorMod_7 (by decide) (fun c1 => ?_) (fun c1 => ?_)
  · replace hf := hf.trans (if_pos c1)
    refine lv_iload_n hx hb d_Mt_floorMod_18 rfl (lv_at hl 0 rfl) ?_
    exact W.iret hx hb hr (fun t ht hW => ⟨by rw [hf], ht⟩) (fun q hq => nomatch hq) d_Mt_floorMod_19 hlk
  · replace hf := hf.trans (if_neg c1)
    refine lv_iload_n hx hb d_Mt_floorMod_10 rfl (lv_at hl 0 rfl) ?_
    refine lv_if_eq (tgt := 18) hx hb d_Mt_floorMod_11 (by decide) (fun c2 => ?_) (fun c2 => ?_)
    · replace hf := hf.trans (if_pos c2)
      refine lv_iload_n hx hb d_Mt_floorMod_18 rfl (lv_at hl 0 rfl) ?_
      exact W.iret hx hb hr (fun t ht hW => ⟨by rw [hf], ht⟩) (fun q hq => nomatch hq) d_Mt_floorMod_19 hlk
    · replace hf := hf.trans (if_neg c2)
      refine lv_iload_n hx hb d_Mt_floorMod_14 rfl (lv_at hl 0 rfl) ?_
      refine lv_iload_n hx hb d_Mt_floorMod_15 rfl (lv_at hl 2 rfl) ?_
      refine lv_iadd hx hb d_Mt_floorMod_16 ?_
      exact W.iret hx hb hr (fun t ht hW => ⟨by rw [hf], ht⟩) (fun q hq => nomatch hq) d_Mt_floorMod_17 hlk
set_option maxHeartbeats 4000000 in
set_option maxRecDepth 100000 in
theorem q_Mo_modulo (l : Launch) (G : gT) (p0 : Int32) (p1 : Int32) (hok : ok_Mo_modulo G p0 p1) : Met l y_Mo_modulo [w_Mo_modulo] {} (fun v _ => v = ([.int p0, .int p1] : List Value).toArray) (QcRead (f_Mo_modulo G p0 p1)) 0 0 (fun _ => False) := by
  refine Met.ofW (cc := b_Mo_modulo) (maxL := 2) (ret := (some .int)) (by decide) rfl ?_
  intro p e s m args below meth c s₁ B hml hv
  subst hv
  have hx := B.exec
  have hb := B.bytes
  have hr := B.returns
  have hlk := B.notSynchronized
  have hl := lv_entry ([.int p0, .int p1]) (n := 2) (Nat.le_of_ble_eq_true rfl)
  rw [lg_entry_eq]
  generalize (lg_sl ([.int p0, .int p1]) ++ List.replicate (2 - (lg_sl ([.int p0, .int p1])).length) Slot.unset).toArray = ls at hl ⊢
  have hl : lv_has ls 2 [(0, .int p0), (1, .int p1)] := hl
  have hf : f_Mo_modulo G p0 p1 = ((p0 - p0 / p1 * p1) + p1) - ((p0 - p0 / p1 * p1) + p1) / p1 * p1 := rfl
  have hok : (¬ p1 = 0 ∧ (¬ p1 = 0 ∧ True)) := hok
  refine lv_iload_n hx hb d_Mo_modulo_0 rfl (lv_at hl 0 rfl) ?_
  refine lv_iload_n hx hb d_Mo_modulo_1 rfl (lv_at hl 1 rfl) ?_
  refine lv_irem hx hb d_Mo_modulo_2 hok.1 ?_
  replace hok := hok.2
  refine lv_iload_n hx hb d_Mo_modulo_3 rfl (lv_at hl 1 rfl) ?_
  refine lv_iadd hx hb d_Mo_modulo_4 ?_
  refine lv_iload_n hx hb d_Mo_modulo_5 rfl (lv_at hl 1 rfl) ?_
  refine lv_irem hx hb d_Mo_modulo_6 hok.1 ?_
  replace hok := hok.2
  exact W.iret hx hb hr (fun t ht hW => ⟨by rw [hf], ht⟩) (fun q hq => nomatch hq) d_Mo_modulo_7 hlk
set_option maxHeartbeats 4000000 in
/-- the law's own read of a cell of the script -/
theorem q_La_cell (l : Launch) (b L : Nat) (xs : Nat → Int32) (k : Nat) (hk : k < 2) (hL : L ≤ 2050) : Met l y_La_cell [w_La_cell] {} (fun v U => v = ([.ref b, .int (nI k)] : List Value).toArray ∧ va_X b L xs U U.heap) (QcRead (if k < L then xs k else 0)) 0 0 (fun _ => False) := by
  refine Met.ofW (cc := b_La_cell) (maxL := 2) (ret := (some .int)) (by decide) rfl ?_
  intro p e s m args below meth c s₁ B hml hv
  obtain ⟨rfl, hX⟩ := hv
  have hx := B.exec
  have hb := B.bytes
  have hr := B.returns
  have hlk := B.notSynchronized
  have hl := lv_entry ([.ref b, .int (nI k)]) (n := 2) (Nat.le_of_ble_eq_true rfl)
  rw [lg_entry_eq]
  generalize (lg_sl ([.ref b, .int (nI k)]) ++ List.replicate (2 - (lg_sl ([.ref b, .int (nI k)])).length) Slot.unset).toArray = ls at hl ⊢
  have hl : lv_has ls 2 [(0, .ref b), (1, .int (nI k))] := hl
  have hbl : b < s.heap.size := by
    obtain ⟨scr, h1, -⟩ := hX
    exact (Array.getElem?_eq_some_iff.mp h1).1
  have hS : va_S (fun _ => False) s.heap s.heap [] := va_S.rf
  refine lv_iload_n hx hb d_La_cell_0 rfl (lv_at hl 1 rfl) ?_
  refine lv_aload_n hx hb d_La_cell_1 rfl (lv_at hl 0 rfl) ?_
  refine va_slen hx hb hX hbl (fun h => h) hS d_La_cell_2 ?_
  refine lv_icmp_ge (tgt := 12) hx hb d_La_cell_3 (by decide) (fun c1 => ?_) (fun c1 => ?_)
  · have h1 : ¬ k < L := fun h => absurd c1 (nI_ge h (by omega))
    refine lv_iconst (v := 0) hx hb d_La_cell_12 (by decide) ?_
    exact W.iret hx hb hr (fun t ht hW => ⟨by rw [if_neg h1], ht⟩) (fun q hq => nomatch hq) d_La_cell_13 hlk
  · have h1 : k < L := by
      rcases Nat.lt_or_ge k L with h | h
      · exact h
      · exact absurd (nI_le h (by omega)) c1
    refine lv_aload_n hx hb d_La_cell_6 rfl (lv_at hl 0 rfl) ?_
    refine lv_iload_n hx hb d_La_cell_7 rfl (lv_at hl 1 rfl) ?_
    refine va_sld hx hb hX hbl (fun h => h) hS (vp_in_nI h1 (by omega)) d_La_cell_8 ?_
    refine lv_goto (tgt := 13) hx hb d_La_cell_9 (by decide) ?_
    rw [nI_clamp (by omega)]
    exact W.iret hx hb hr (fun t ht hW => ⟨by rw [if_pos h1], ht⟩) (fun q hq => nomatch hq) d_La_cell_13 hlk
theorem nest_18 {A0 : Array Value} {s0 : State} (h : ∀ w ∈ lw_tbl, w.before A0 s0 = true) : va_Nw (.methodLinkNest R_BS 18 y_Ma_init "BackSteps") s0 := va_Nw.of rfl (h _ (g_memL 23 (by decide +kernel)))
theorem g_goodS {own : String} {index : Nat} {y : MethodName} {wy : Cond} {maxL n : Nat} (hk : gKey y wy maxL n) (hs : Cond.static y ∈ gtb) (hl : Cond.methodLink own index y ∈ gtb) : GoodIn gtb (va_wsS own index y [wy]) := by
  have gd : ∀ {w : Cond}, w ∈ gtb → w ∈ gtb ∧ ((w.onTables && w.keeps) = true ∨ ∃ ty, w = .arrayClass ty) := fun h => ⟨h, good_of_word (List.mem_filter.mp h).2⟩
  intro w hw
  simp only [va_wsS, List.cons_append, List.nil_append, List.mem_cons, List.not_mem_nil, or_false] at hw
  rcases hw with rfl | rfl | rfl | rfl
  · exact gd hl
  · exact gd hs
  · exact gd hk.2.2.1
  · exact gd hk.1
def gwc (ad : Nat → Nat) (cI : ClassId) (G : gT) : va_W := [(ad 0, .inr (2, [.int (G 0 0), .ref (ad 1), .ref (ad 2), .int (G 0 3), .ref (ad 3), .ref (ad 5), .ref (ad 7)])), (ad 1, .inl (cI, 64, .inl (G 1))), (ad 2, .inl (cI, 200, .inl (G 2))), (ad 3, .inr (0, [.ref (ad 4), .int (G 3 1), .int (G 3 2), .int (G 3 3), .int (G 3 4), .int (G 3 5), .int (G 3 6), .int (G 3 7), .int (G 3 8), .int (G 3 9), .int (G 3 10), .int (G 3 11)])), (ad 4, .inl (cI, 264, .inl (G 4))), (ad 5, .inr (0, [.ref (ad 6), .int (G 5 1), .int (G 5 2), .int (G 5 3), .int (G 5 4), .int (G 5 5), .int (G 5 6), .int (G 5 7), .int (G 5 8), .int (G 5 9), .int (G 5 10), .int (G 5 11)])), (ad 6, .inl (cI, 264, .inl (G 6))), (ad 7, .inr (1, [.int (G 7 0), .int (G 7 1), .int (G 7 2), .int (G 7 3), .int (G 7 4), .ref (ad 8), .ref (ad 9), .ref (ad 10), .ref (ad 11), .ref (ad 12), .ref (ad 13), .ref (ad 14), .ref (ad 15)])), (ad 8, .inl (cI, 1024, .inl (G 8))), (ad 9, .inl (cI, 1024, .inl (G 9))), (ad 10, .inl (cI, 1024, .inl (G 10))), (ad 11, .inl (cI, 1024, .inl (G 11))), (ad 12, .inl (cI, 1024, .inl (G 12))), (ad 13, .inl (cI, 1024, .inl (G 13))), (ad 14, .inl (cI, 1024, .inl (G 14))), (ad 15, .inl (cI, 1024, .inl (G 15)))]
def gwm (ad : Nat → Nat) (cI : ClassId) (G : gT) : va_W := [(ad 16, .inr (3, [.int (G 16 0), .int (G 16 1), .int (G 16 2), .ref (ad 17), .int (G 16 4), .ref (ad 18), .ref (ad 19), .ref (ad 20), .ref (ad 21), .ref (ad 22), .ref (ad 23), .int (G 16 11), .int (G 16 12), .int (G 16 13), .int (G 16 14)])), (ad 17, .inl (cI, 64, .inl (G 17))), (ad 18, .inl (cI, 200, .inl (G 18))), (ad 19, .inl (cI, 269, .inl (G 19))), (ad 20, .inl (cI, 269, .inl (G 20))), (ad 21, .inl (cI, 275725, .inl (G 21))), (ad 22, .inl (cI, 1025, .inl (G 22))), (ad 23, .inl (cI, 1025, .inl (G 23)))]
theorem gwd_split (ad : Nat → Nat) (cI cL : ClassId) (G : gT) (O : Int64) : gwd ad cI cL G O = gwc ad cI G ++ gwm ad cI G ++ [(ad 24, .inl (cL, 1, .inr (.inl (fun _ => O))))] := rfl
/-- the numbers of a new object, and of a new reference -/
def G0c (p1 p2 : Int32) : gT := g_up (g_up (g_up (g_up (fun _ _ => 0) 3 6 (-1)) 5 6 (-1)) 7 0 (4 + f_Mt_floorMod (fun _ _ => 0) p1 1021)) 0 0 (1 + f_Mt_floorMod (fun _ _ => 0) p2 64)
def G0m (p1 p2 : Int32) : gT := g_up (g_up (fun _ _ => 0) 16 1 (4 + f_Mo_modulo (fun _ _ => 0) p1 1021)) 16 2 (1 + (p2 &&& 63))
set_option maxHeartbeats 8000000 in
set_option maxRecDepth 100000 in
theorem c_Ma_init (l : Launch) (D : va_G) (cI cL : ClassId) (h0 sz : Nat) : Met l y_Ma_init (w_Ma_init :: gtb) { frames := 1, cells := 1, slots := 264, locals := 12 } (va_Pc [.ref h0] (fun U => U.heap.size = sz ∧ va_P D gcl [(h0, .inr (0, [.null, .int 0, .int 0, .int 0, .int 0, .int 0, .int 0, .int 0, .int 0, .int 0, .int 0, .int 0]))] U.heap ∧ va_K D gcl (gty cI cL) U ∧ va_D (fun _ => True) [(h0, .inr (0, [.null, .int 0, .int 0, .int 0, .int 0, .int 0, .int 0, .int 0, .int 0, .int 0, .int 0, .int 0]))])) (va_Qv (S := Nat) (fun _ => True) (fun u t => va_P D gcl [(h0, .inr (0, [.ref (u), .int 0, .int 0, .int 0, .int 0, .int 0, .int (-1), .int 0, .int 0, .int 0, .int 0, .int 0])), ((u), .inl (cI, 264, .inl (fun _ => 0)))] t.heap ∧ va_K D gcl (gty cI cL) t ∧ va_D (va_A [(h0, .inr (0, [.null, .int 0, .int 0, .int 0, .int 0, .int 0, .int 0, .int 0, .int 0, .int 0, .int 0, .int 0]))] sz) [(h0, .inr (0, [.ref (u), .int 0, .int 0, .int 0, .int 0, .int 0, .int (-1), .int 0, .int 0, .int 0, .int 0, .int 0])), ((u), .inl (cI, 264, .inl (fun _ => 0)))]) (va_A [(h0, .inr (0, [.null, .int 0, .int 0, .int 0, .int 0, .int 0, .int 0, .int 0, .int 0, .int 0, .int 0, .int 0]))] sz)) 1 264 (va_A [(h0, .inr (0, [.null, .int 0, .int 0, .int 0, .int 0, .int 0, .int 0, .int 0, .int 0, .int 0, .int 0, .int 0]))] sz) := by
  refine Met.ofW (cc := b_Ma_init) (maxL := 1) (ret := none) (by decide) rfl ?_
  intro p e s m args below meth c s₁ B hml hv
  obtain ⟨rfl, hsz, hP, hK, hD0⟩ := hv
  have hx := B.exec
  have hb := B.bytes
  have hr := B.returns
  have hts : ∀ w ∈ gtb, w.before ([.ref h0] : List Value).toArray s = true := fun w hw => atoms_spec (ws := w_Ma_init :: gtb) B.pre w (List.mem_cons_of_mem _ hw)
  have hown : s.vm.findClass R_Ma = some m.cls := findClass_of_methodNamed B.named
  have hlocks := B.notSynchronized
  have hin : meth.name = "<init>" := (name_of_methodNamed B.named B.method).1
  have hC : CallFix p m c b_Ma_init 1 s ([.ref h0] : List Value).toArray gtb R_Ma := ⟨hx, hb, hml, hown, hts⟩
  subst hsz
  have hD := hD0.self (sz := s.heap.size)
  generalize hAe : va_A [(h0, .inr (0, [.null, .int 0, .int 0, .int 0, .int 0, .int 0, .int 0, .int 0, .int 0, .int 0, .int 0, .int 0]))] s.heap.size = A at hD ⊢
  have hA : ∀ q : Nat, s.heap.size ≤ q → A q := fun q h => by rw [← hAe]; exact Or.inr h
  have hS : va_S A s.heap s.heap [] := va_S.rf
  have hP : va_P D gcl [(h0, .inr (0, [.null, .int 0, .int 0, .int 0, .int 0, .int 0, .int 0, .int 0, .int 0, .int 0, .int 0, .int 0]))] s.heap := hP
  have hl := lv_entry ([.ref h0]) (n := 1) (Nat.le_of_ble_eq_true rfl)
  rw [lg_entry_eq]
  generalize (lg_sl ([.ref h0]) ++ List.replicate (1 - (lg_sl ([.ref h0])).length) Slot.unset).toArray = ls at hl ⊢
  have hl : lv_has ls 1 [(0, .ref h0)] := hl
  refine lv_aload_n hx hb d_Ma_init_0 rfl (lv_at hl 0 rfl) ?_
  refine W.objInit hx hb hown (hts _ ml_Ma_obj) (hts _ obj_in) (hts _ obj_co) rfl (by rw [hml]; exact hl.1) rfl d_Ma_init_1 (Nat.le_of_ble_eq_true rfl) (Nat.le_of_ble_eq_true rfl) ?_
  refine W.eq (g2 := F0 m 4 ls []) rfl ?_
  refine lv_aload_n hx hb d_Ma_init_4 rfl (lv_at hl 0 rfl) ?_
  refine lv_sipush (v := 264) hx hb d_Ma_init_5 (by decide) ?_
  refine gn_arr (n := 264) (N' := 264) hC hK hP hD hS hA (by decide) (by decide) (by decide) (Nat.le_of_ble_eq_true rfl) (Nat.le_of_ble_eq_true rfl) d_Ma_init_8 (fun q1 H hP hD hS => ?_)
  have hP : va_P D gcl [(h0, .inr (0, [.null, .int 0, .int 0, .int 0, .int 0, .int 0, .int 0, .int 0, .int 0, .int 0, .int 0, .int 0])), (q1, .inl (cI, 264, .inl (fun _ => 0)))] H := hP
  have hD : va_D A [(h0, .inr (0, [.null, .int 0, .int 0, .int 0, .int 0, .int 0, .int 0, .int 0, .int 0, .int 0, .int 0, .int 0])), (q1, .inl (cI, 264, .inl (fun _ => 0)))] := hD
  refine W.widen (k := 1) (n := 264) (Nat.le_of_ble_eq_true rfl) (Nat.le_of_ble_eq_true rfl) ?_
  refine va_putF (D := D) (q0 := 0) (k := 0) (v := .ref q1) (ty := .array .int) (C := R_Ma) (T := F_Ma) (N := 12) hx hb hts in_Ma t_Ma t_Ma_ok n_Ma hown hK hP hD hS rfl rfl (by decide) (hts _ fl_Ma_9) (fun _ h9 => h9) rfl hin rfl (by decide +kernel) rfl rfl (Nat.le_of_ble_eq_true rfl) d_Ma_init_10 (fun H locs hP hD hS => ?_)
  have hP : va_P D gcl [(h0, .inr (0, [.ref q1, .int 0, .int 0, .int 0, .int 0, .int 0, .int 0, .int 0, .int 0, .int 0, .int 0, .int 0])), (q1, .inl (cI, 264, .inl (fun _ => 0)))] H := hP
  have hD : va_D A [(h0, .inr (0, [.ref q1, .int 0, .int 0, .int 0, .int 0, .int 0, .int 0, .int 0, .int 0, .int 0, .int 0, .int 0])), (q1, .inl (cI, 264, .inl (fun _ => 0)))] := hD
  refine lv_aload_n hx hb d_Ma_init_13 rfl (lv_at hl 0 rfl) ?_
  refine lv_iconst (v := 0) hx hb d_Ma_init_14 (by decide) ?_
  refine va_put (D := D) (q0 := 0) (k := 5) (v := .int 0) (ty := .int) (C := R_Ma) (T := F_Ma) (N := 12) hx hb hts in_Ma t_Ma t_Ma_ok n_Ma hown hK hP hD hS rfl rfl (by decide) (hts _ fl_Ma_15) (fun _ h9 => h9) rfl (by decide +kernel) rfl rfl (Nat.le_of_ble_eq_true rfl) d_Ma_init_15 (fun H locs hP hD hS => ?_)
  have hP : va_P D gcl [(h0, .inr (0, [.ref q1, .int 0, .int 0, .int 0, .int 0, .int 0, .int 0, .int 0, .int 0, .int 0, .int 0, .int 0])), (q1, .inl (cI, 264, .inl (fun _ => 0)))] H := hP
  have hD : va_D A [(h0, .inr (0, [.ref q1, .int 0, .int 0, .int 0, .int 0, .int 0, .int 0, .int 0, .int 0, .int 0, .int 0, .int 0])), (q1, .inl (cI, 264, .inl (fun _ => 0)))] := hD
  refine lv_aload_n hx hb d_Ma_init_18 rfl (lv_at hl 0 rfl) ?_
  refine lv_iconst (v := (-1)) hx hb d_Ma_init_19 (by decide) ?_
  refine va_put (D := D) (q0 := 0) (k := 6) (v := .int (-1)) (ty := .int) (C := R_Ma) (T := F_Ma) (N := 12) hx hb hts in_Ma t_Ma t_Ma_ok n_Ma hown hK hP hD hS rfl rfl (by decide) (hts _ fl_Ma_19) (fun _ h9 => h9) rfl (by decide +kernel) rfl rfl (Nat.le_of_ble_eq_true rfl) d_Ma_init_20 (fun H locs hP hD hS => ?_)
  have hP : va_P D gcl [(h0, .inr (0, [.ref q1, .int 0, .int 0, .int 0, .int 0, .int 0, .int (-1), .int 0, .int 0, .int 0, .int 0, .int 0])), (q1, .inl (cI, 264, .inl (fun _ => 0)))] H := hP
  have hD : va_D A [(h0, .inr (0, [.ref q1, .int 0, .int 0, .int 0, .int 0, .int 0, .int (-1), .int 0, .int 0, .int 0, .int 0, .int 0])), (q1, .inl (cI, 264, .inl (fun _ => 0)))] := hD
  have hP9 := hP.sub (ws' := [(h0, .inr (0, [.ref (q1), .int 0, .int 0, .int 0, .int 0, .int 0, .int (-1), .int 0, .int 0, .int 0, .int 0, .int 0])), (q1, .inl (cI, 264, .inl (fun _ => 0)))]) [0, 1] rfl
  have hD9 := hD.sub (ws' := [(h0, .inr (0, [.ref (q1), .int 0, .int 0, .int 0, .int 0, .int 0, .int (-1), .int 0, .int 0, .int 0, .int 0, .int 0])), (q1, .inl (cI, 264, .inl (fun _ => 0)))]) [0, 1] (by decide) rfl
  refine W.widen (k := 1) (n := 264) (Nat.le_of_ble_eq_true rfl) (Nat.le_of_ble_eq_true rfl) ?_
  exact W.vret hx hb hr (fun t ht hW => ⟨⟨q1, rfl, trivial, by rw [ht]; exact hP9, va_K.moved hW.alike hK, hD9⟩, hS.F ht⟩) hS.2.2 d_Ma_init_23
set_option maxHeartbeats 8000000 in
set_option maxRecDepth 100000 in
theorem c_Ro_init (l : Launch) (D : va_G) (cI cL : ClassId) (h0 sz : Nat) (p1 : Int32) : Met l y_Ro_init (w_Ro_init :: gtb) { frames := 1, cells := 8, slots := 8192, locals := 12 } (va_Pc [.ref h0, .int p1] (fun U => U.heap.size = sz ∧ va_P D gcl [(h0, .inr (1, [.int 0, .int 0, .int 0, .int 0, .int 0, .null, .null, .null, .null, .null, .null, .null, .null]))] U.heap ∧ va_K D gcl (gty cI cL) U ∧ va_D (fun _ => True) [(h0, .inr (1, [.int 0, .int 0, .int 0, .int 0, .int 0, .null, .null, .null, .null, .null, .null, .null, .null]))])) (va_Qv (S := Nat → Nat) (fun _ => True) (fun u t => va_P D gcl [(h0, .inr (1, [.int p1, .int 0, .int 0, .int 0, .int 0, .ref (u 0), .ref (u 1), .ref (u 2), .ref (u 3), .ref (u 4), .ref (u 5), .ref (u 6), .ref (u 7)])), ((u 0), .inl (cI, 1024, .inl (fun _ => 0))), ((u 1), .inl (cI, 1024, .inl (fun _ => 0))), ((u 2), .inl (cI, 1024, .inl (fun _ => 0))), ((u 3), .inl (cI, 1024, .inl (fun _ => 0))), ((u 4), .inl (cI, 1024, .inl (fun _ => 0))), ((u 5), .inl (cI, 1024, .inl (fun _ => 0))), ((u 6), .inl (cI, 1024, .inl (fun _ => 0))), ((u 7), .inl (cI, 1024, .inl (fun _ => 0)))] t.heap ∧ va_K D gcl (gty cI cL) t ∧ va_D (va_A [(h0, .inr (1, [.int 0, .int 0, .int 0, .int 0, .int 0, .null, .null, .null, .null, .null, .null, .null, .null]))] sz) [(h0, .inr (1, [.int p1, .int 0, .int 0, .int 0, .int 0, .ref (u 0), .ref (u 1), .ref (u 2), .ref (u 3), .ref (u 4), .ref (u 5), .ref (u 6), .ref (u 7)])), ((u 0), .inl (cI, 1024, .inl (fun _ => 0))), ((u 1), .inl (cI, 1024, .inl (fun _ => 0))), ((u 2), .inl (cI, 1024, .inl (fun _ => 0))), ((u 3), .inl (cI, 1024, .inl (fun _ => 0))), ((u 4), .inl (cI, 1024, .inl (fun _ => 0))), ((u 5), .inl (cI, 1024, .inl (fun _ => 0))), ((u 6), .inl (cI, 1024, .inl (fun _ => 0))), ((u 7), .inl (cI, 1024, .inl (fun _ => 0)))]) (va_A [(h0, .inr (1, [.int 0, .int 0, .int 0, .int 0, .int 0, .null, .null, .null, .null, .null, .null, .null, .null]))] sz)) 8 8192 (va_A [(h0, .inr (1, [.int 0, .int 0, .int 0, .int 0, .int 0, .null, .null, .null, .null, .null, .null, .null, .null]))] sz) := by
  refine Met.ofW (cc := b_Ro_init) (maxL := 2) (ret := none) (by decide) rfl ?_
  intro p e s m args below meth c s₁ B hml hv
  obtain ⟨rfl, hsz, hP, hK, hD0⟩ := hv
  have hx := B.exec
  have hb := B.bytes
  have hr := B.returns
  have hts : ∀ w ∈ gtb, w.before ([.ref h0, .int p1] : List Value).toArray s = true := fun w hw => atoms_spec (ws := w_Ro_init :: gtb) B.pre w (List.mem_cons_of_mem _ hw)
  have hown : s.vm.findClass R_Ro = some m.cls := findClass_of_methodNamed B.named
  have hlocks := B.notSynchronized
  have hin : meth.name = "<init>" := (name_of_methodNamed B.named B.method).1
  have hC : CallFix p m c b_Ro_init 2 s ([.ref h0, .int p1] : List Value).toArray gtb R_Ro := ⟨hx, hb, hml, hown, hts⟩
  subst hsz
  have hD := hD0.self (sz := s.heap.size)
  generalize hAe : va_A [(h0, .inr (1, [.int 0, .int 0, .int 0, .int 0, .int 0, .null, .null, .null, .null, .null, .null, .null, .null]))] s.heap.size = A at hD ⊢
  have hA : ∀ q : Nat, s.heap.size ≤ q → A q := fun q h => by rw [← hAe]; exact Or.inr h
  have hS : va_S A s.heap s.heap [] := va_S.rf
  have hP : va_P D gcl [(h0, .inr (1, [.int 0, .int 0, .int 0, .int 0, .int 0, .null, .null, .null, .null, .null, .null, .null, .null]))] s.heap := hP
  have hl := lv_entry ([.ref h0, .int p1]) (n := 2) (Nat.le_of_ble_eq_true rfl)
  rw [lg_entry_eq]
  generalize (lg_sl ([.ref h0, .int p1]) ++ List.replicate (2 - (lg_sl ([.ref h0, .int p1])).length) Slot.unset).toArray = ls at hl ⊢
  have hl : lv_has ls 2 [(0, .ref h0), (1, .int p1)] := hl
  refine lv_aload_n hx hb d_Ro_init_0 rfl (lv_at hl 0 rfl) ?_
  refine W.objInit hx hb hown (hts _ ml_Ro_obj) (hts _ obj_in) (hts _ obj_co) rfl (by rw [hml]; exact hl.1) rfl d_Ro_init_1 (Nat.le_of_ble_eq_true rfl) (Nat.le_of_ble_eq_true rfl) ?_
  refine W.eq (g2 := F0 m 4 ls []) rfl ?_
  refine lv_aload_n hx hb d_Ro_init_4 rfl (lv_at hl 0 rfl) ?_
  refine lv_sipush (v := 1024) hx hb d_Ro_init_5 (by decide) ?_
  refine gn_arr (n := 1024) (N' := 1024) hC hK hP hD hS hA (by decide) (by decide) (by decide) (Nat.le_of_ble_eq_true rfl) (Nat.le_of_ble_eq_true rfl) d_Ro_init_8 (fun q1 H hP hD hS => ?_)
  have hP : va_P D gcl [(h0, .inr (1, [.int 0, .int 0, .int 0, .int 0, .int 0, .null, .null, .null, .null, .null, .null, .null, .null])), (q1, .inl (cI, 1024, .inl (fun _ => 0)))] H := hP
  have hD : va_D A [(h0, .inr (1, [.int 0, .int 0, .int 0, .int 0, .int 0, .null, .null, .null, .null, .null, .null, .null, .null])), (q1, .inl (cI, 1024, .inl (fun _ => 0)))] := hD
  refine W.widen (k := 1) (n := 1024) (Nat.le_of_ble_eq_true rfl) (Nat.le_of_ble_eq_true rfl) ?_
  refine va_putF (D := D) (q0 := 0) (k := 5) (v := .ref q1) (ty := .array .int) (C := R_Ro) (T := F_Ro) (N := 13) hx hb hts in_Ro t_Ro t_Ro_ok n_Ro hown hK hP hD hS rfl rfl (by decide) (hts _ fl_Ro_11) (fun _ h9 => h9) rfl hin rfl (by decide +kernel) rfl rfl (Nat.le_of_ble_eq_true rfl) d_Ro_init_10 (fun H locs hP hD hS => ?_)
  have hP : va_P D gcl [(h0, .inr (1, [.int 0, .int 0, .int 0, .int 0, .int 0, .ref q1, .null, .null, .null, .null, .null, .null, .null])), (q1, .inl (cI, 1024, .inl (fun _ => 0)))] H := hP
  have hD : va_D A [(h0, .inr (1, [.int 0, .int 0, .int 0, .int 0, .int 0, .ref q1, .null, .null, .null, .null, .null, .null, .null])), (q1, .inl (cI, 1024, .inl (fun _ => 0)))] := hD
  refine lv_aload_n hx hb d_Ro_init_13 rfl (lv_at hl 0 rfl) ?_
  refine lv_sipush (v := 1024) hx hb d_Ro_init_14 (by decide) ?_
  refine gn_arr (n := 1024) (N' := 1024) hC hK hP hD hS hA (by decide) (by decide) (by decide) (Nat.le_of_ble_eq_true rfl) (Nat.le_of_ble_eq_true rfl) d_Ro_init_17 (fun q2 H hP hD hS => ?_)
  have hP : va_P D gcl [(h0, .inr (1, [.int 0, .int 0, .int 0, .int 0, .int 0, .ref q1, .null, .null, .null, .null, .null, .null, .null])), (q1, .inl (cI, 1024, .inl (fun _ => 0))), (q2, .inl (cI, 1024, .inl (fun _ => 0)))] H := hP
  have hD : va_D A [(h0, .inr (1, [.int 0, .int 0, .int 0, .int 0, .int 0, .ref q1, .null, .null, .null, .null, .null, .null, .null])), (q1, .inl (cI, 1024, .inl (fun _ => 0))), (q2, .inl (cI, 1024, .inl (fun _ => 0)))] := hD
  refine W.widen (k := 2) (n := 2048) (Nat.le_of_ble_eq_true rfl) (Nat.le_of_ble_eq_true rfl) ?_
  refine va_putF (D := D) (q0 := 0) (k := 6) (v := .ref q2) (ty := .array .int) (C := R_Ro) (T := F_Ro) (N := 13) hx hb hts in_Ro t_Ro t_Ro_ok n_Ro hown hK hP hD hS rfl rfl (by decide) (hts _ fl_Ro_15) (fun _ h9 => h9) rfl hin rfl (by decide +kernel) rfl rfl (Nat.le_of_ble_eq_true rfl) d_Ro_init_19 (fun H locs hP hD hS => ?_)
  have hP : va_P D gcl [(h0, .inr (1, [.int 0, .int 0, .int 0, .int 0, .int 0, .ref q1, .ref q2, .null, .null, .null, .null, .null, .null])), (q1, .inl (cI, 1024, .inl (fun _ => 0))), (q2, .inl (cI, 1024, .inl (fun _ => 0)))] H := hP
  have hD : va_D A [(h0, .inr (1, [.int 0, .int 0, .int 0, .int 0, .int 0, .ref q1, .ref q2, .null, .null, .null, .null, .null, .null])), (q1, .inl (cI, 1024, .inl (fun _ => 0))), (q2, .inl (cI, 1024, .inl (fun _ => 0)))] := hD
  refine lv_aload_n hx hb d_Ro_init_22 rfl (lv_at hl 0 rfl) ?_
  refine lv_sipush (v := 1024) hx hb d_Ro_init_23 (by decide) ?_
  refine gn_arr (n := 1024) (N' := 1024) hC hK hP hD hS hA (by decide) (by decide) (by decide) (Nat.le_of_ble_eq_true rfl) (Nat.le_of_ble_eq_true rfl) d_Ro_init_26 (fun q3 H hP hD hS => ?_)
  have hP : va_P D gcl [(h0, .inr (1, [.int 0, .int 0, .int 0, .int 0, .int 0, .ref q1, .ref q2, .null, .null, .null, .null, .null, .null])), (q1, .inl (cI, 1024, .inl (fun _ => 0))), (q2, .inl (cI, 1024, .inl (fun _ => 0))), (q3, .inl (cI, 1024, .inl (fun _ => 0)))] H := hP
  have hD : va_D A [(h0, .inr (1, [.int 0, .int 0, .int 0, .int 0, .int 0, .ref q1, .ref q2, .null, .null, .null, .null, .null, .null])), (q1, .inl (cI, 1024, .inl (fun _ => 0))), (q2, .inl (cI, 1024, .inl (fun _ => 0))), (q3, .inl (cI, 1024, .inl (fun _ => 0)))] := hD
  refine W.widen (k := 3) (n := 3072) (Nat.le_of_ble_eq_true rfl) (Nat.le_of_ble_eq_true rfl) ?_
  refine va_putF (D := D) (q0 := 0) (k := 7) (v := .ref q3) (ty := .array .int) (C := R_Ro) (T := F_Ro) (N := 13) hx hb hts in_Ro t_Ro t_Ro_ok n_Ro hown hK hP hD hS rfl rfl (by decide) (hts _ fl_Ro_18) (fun _ h9 => h9) rfl hin rfl (by decide +kernel) rfl rfl (Nat.le_of_ble_eq_true rfl) d_Ro_init_28 (fun H locs hP hD hS => ?_)
  have hP : va_P D gcl [(h0, .inr (1, [.int 0, .int 0, .int 0, .int 0, .int 0, .ref q1, .ref q2, .ref q3, .null, .null, .null, .null, .null])), (q1, .inl (cI, 1024, .inl (fun _ => 0))), (q2, .inl (cI, 1024, .inl (fun _ => 0))), (q3, .inl (cI, 1024, .inl (fun _ => 0)))] H := hP
  have hD : va_D A [(h0, .inr (1, [.int 0, .int 0, .int 0, .int 0, .int 0, .ref q1, .ref q2, .ref q3, .null, .null, .null, .null, .null])), (q1, .inl (cI, 1024, .inl (fun _ => 0))), (q2, .inl (cI, 1024, .inl (fun _ => 0))), (q3, .inl (cI, 1024, .inl (fun _ => 0)))] := hD
  refine lv_aload_n hx hb d_Ro_init_31 rfl (lv_at hl 0 rfl) ?_
  refine lv_sipush (v := 1024) hx hb d_Ro_init_32 (by decide) ?_
  refine gn_arr (n := 1024) (N' := 1024) hC hK hP hD hS hA (by decide) (by decide) (by decide) (Nat.le_of_ble_eq_true rfl) (Nat.le_of_ble_eq_true rfl) d_Ro_init_35 (fun q4 H hP hD hS => ?_)
  have hP : va_P D gcl [(h0, .inr (1, [.int 0, .int 0, .int 0, .int 0, .int 0, .ref q1, .ref q2, .ref q3, .null, .null, .null, .null, .null])), (q1, .inl (cI, 1024, .inl (fun _ => 0))), (q2, .inl (cI, 1024, .inl (fun _ => 0))), (q3, .inl (cI, 1024, .inl (fun _ => 0))), (q4, .inl (cI, 1024, .inl (fun _ => 0)))] H := hP
  have hD : va_D A [(h0, .inr (1, [.int 0, .int 0, .int 0, .int 0, .int 0, .ref q1, .ref q2, .ref q3, .null, .null, .null, .null, .null])), (q1, .inl (cI, 1024, .inl (fun _ => 0))), (q2, .inl (cI, 1024, .inl (fun _ => 0))), (q3, .inl (cI, 1024, .inl (fun _ => 0))), (q4, .inl (cI, 1024, .inl (fun _ => 0)))] := hD
  refine W.widen (k := 4) (n := 4096) (Nat.le_of_ble_eq_true rfl) (Nat.le_of_ble_eq_true rfl) ?_
  refine va_putF (D := D) (q0 := 0) (k := 8) (v := .ref q4) (ty := .array .int) (C := R_Ro) (T := F_Ro) (N := 13) hx hb hts in_Ro t_Ro t_Ro_ok n_Ro hown hK hP hD hS rfl rfl (by decide) (hts _ fl_Ro_21) (fun _ h9 => h9) rfl hin rfl (by decide +kernel) rfl rfl (Nat.le_of_ble_eq_true rfl) d_Ro_init_37 (fun H locs hP hD hS => ?_)
  have hP : va_P D gcl [(h0, .inr (1, [.int 0, .int 0, .int 0, .int 0, .int 0, .ref q1, .ref q2, .ref q3, .ref q4, .null, .null, .null, .null])), (q1, .inl (cI, 1024, .inl (fun _ => 0))), (q2, .inl (cI, 1024, .inl (fun _ => 0))), (q3, .inl (cI, 1024, .inl (fun _ => 0))), (q4, .inl (cI, 1024, .inl (fun _ => 0)))] H := hP
  have hD : va_D A [(h0, .inr (1, [.int 0, .int 0, .int 0, .int 0, .int 0, .ref q1, .ref q2, .ref q3, .ref q4, .null, .null, .null, .null])), (q1, .inl (cI, 1024, .inl (fun _ => 0))), (q2, .inl (cI, 1024, .inl (fun _ => 0))), (q3, .inl (cI, 1024, .inl (fun _ => 0))), (q4, .inl (cI, 1024, .inl (fun _ => 0)))] := hD
  refine lv_aload_n hx hb d_Ro_init_40 rfl (lv_at hl 0 rfl) ?_
  refine lv_sipush (v := 1024) hx hb d_Ro_init_41 (by decide) ?_
  refine gn_arr (n := 1024) (N' := 1024) hC hK hP hD hS hA (by decide) (by decide) (by decide) (Nat.le_of_ble_eq_true rfl) (Nat.le_of_ble_eq_true rfl) d_Ro_init_44 (fun q5 H hP hD hS => ?_)
  have hP : va_P D gcl [(h0, .inr (1, [.int 0, .int 0, .int 0, .int 0, .int 0, .ref q1, .ref q2, .ref q3, .ref q4, .null, .null, .null, .null])), (q1, .inl (cI, 1024, .inl (fun _ => 0))), (q2, .inl (cI, 1024, .inl (fun _ => 0))), (q3, .inl (cI, 1024, .inl (fun _ => 0))), (q4, .inl (cI, 1024, .inl (fun _ => 0))), (q5, .inl (cI, 1024, .inl (fun _ => 0)))] H := hP
  have hD : va_D A [(h0, .inr (1, [.int 0, .int 0, .int 0, .int 0, .int 0, .ref q1, .ref q2, .ref q3, .ref q4, .null, .null, .null, .null])), (q1, .inl (cI, 1024, .inl (fun _ => 0))), (q2, .inl (cI, 1024, .inl (fun _ => 0))), (q3, .inl (cI, 1024, .inl (fun _ => 0))), (q4, .inl (cI, 1024, .inl (fun _ => 0))), (q5, .inl (cI, 1024, .inl (fun _ => 0)))] := hD
  refine W.widen (k := 5) (n := 5120) (Nat.le_of_ble_eq_true rfl) (Nat.le_of_ble_eq_true rfl) ?_
  refine va_putF (D := D) (q0 := 0) (k := 9) (v := .ref q5) (ty := .array .int) (C := R_Ro) (T := F_Ro) (N := 13) hx hb hts in_Ro t_Ro t_Ro_ok n_Ro hown hK hP hD hS rfl rfl (by decide) (hts _ fl_Ro_24) (fun _ h9 => h9) rfl hin rfl (by decide +kernel) rfl rfl (Nat.le_of_ble_eq_true rfl) d_Ro_init_46 (fun H locs hP hD hS => ?_)
  have hP : va_P D gcl [(h0, .inr (1, [.int 0, .int 0, .int 0, .int 0, .int 0, .ref q1, .ref q2, .ref q3, .ref q4, .ref q5, .null, .null, .null])), (q1, .inl (cI, 1024, .inl (fun _ => 0))), (q2, .inl (cI, 1024, .inl (fun _ => 0))), (q3, .inl (cI, 1024, .inl (fun _ => 0))), (q4, .inl (cI, 1024, .inl (fun _ => 0))), (q5, .inl (cI, 1024, .inl (fun _ => 0)))] H := hP
  have hD : va_D A [(h0, .inr (1, [.int 0, .int 0, .int 0, .int 0, .int 0, .ref q1, .ref q2, .ref q3, .ref q4, .ref q5, .null, .null, .null])), (q1, .inl (cI, 1024, .inl (fun _ => 0))), (q2, .inl (cI, 1024, .inl (fun _ => 0))), (q3, .inl (cI, 1024, .inl (fun _ => 0))), (q4, .inl (cI, 1024, .inl (fun _ => 0))), (q5, .inl (cI, 1024, .inl (fun _ => 0)))] := hD
  refine lv_aload_n hx hb d_Ro_init_49 rfl (lv_at hl 0 rfl) ?_
  refine lv_sipush (v := 1024) hx hb d_Ro_init_50 (by decide) ?_
  refine gn_arr (n := 1024) (N' := 1024) hC hK hP hD hS hA (by decide) (by decide) (by decide) (Nat.le_of_ble_eq_true rfl) (Nat.le_of_ble_eq_true rfl) d_Ro_init_53 (fun q6 H hP hD hS => ?_)
  have hP : va_P D gcl [(h0, .inr (1, [.int 0, .int 0, .int 0, .int 0, .int 0, .ref q1, .ref q2, .ref q3, .ref q4, .ref q5, .null, .null, .null])), (q1, .inl (cI, 1024, .inl (fun _ => 0))), (q2, .inl (cI, 1024, .inl (fun _ => 0))), (q3, .inl (cI, 1024, .inl (fun _ => 0))), (q4, .inl (cI, 1024, .inl (fun _ => 0))), (q5, .inl (cI, 1024, .inl (fun _ => 0))), (q6, .inl (cI, 1024, .inl (fun _ => 0)))] H := hP
  have hD : va_D A [(h0, .inr (1, [.int 0, .int 0, .int 0, .int 0, .int 0, .ref q1, .ref q2, .ref q3, .ref q4, .ref q5, .null, .null, .null])), (q1, .inl (cI, 1024, .inl (fun _ => 0))), (q2, .inl (cI, 1024, .inl (fun _ => 0))), (q3, .inl (cI, 1024, .inl (fun _ => 0))), (q4, .inl (cI, 1024, .inl (fun _ => 0))), (q5, .inl (cI, 1024, .inl (fun _ => 0))), (q6, .inl (cI, 1024, .inl (fun _ => 0)))] := hD
  refine W.widen (k := 6) (n := 6144) (Nat.le_of_ble_eq_true rfl) (Nat.le_of_ble_eq_true rfl) ?_
  refine va_putF (D := D) (q0 := 0) (k := 10) (v := .ref q6) (ty := .array .int) (C := R_Ro) (T := F_Ro) (N := 13) hx hb hts in_Ro t_Ro t_Ro_ok n_Ro hown hK hP hD hS rfl rfl (by decide) (hts _ fl_Ro_27) (fun _ h9 => h9) rfl hin rfl (by decide +kernel) rfl rfl (Nat.le_of_ble_eq_true rfl) d_Ro_init_55 (fun H locs hP hD hS => ?_)
  have hP : va_P D gcl [(h0, .inr (1, [.int 0, .int 0, .int 0, .int 0, .int 0, .ref q1, .ref q2, .ref q3, .ref q4, .ref q5, .ref q6, .null, .null])), (q1, .inl (cI, 1024, .inl (fun _ => 0))), (q2, .inl (cI, 1024, .inl (fun _ => 0))), (q3, .inl (cI, 1024, .inl (fun _ => 0))), (q4, .inl (cI, 1024, .inl (fun _ => 0))), (q5, .inl (cI, 1024, .inl (fun _ => 0))), (q6, .inl (cI, 1024, .inl (fun _ => 0)))] H := hP
  have hD : va_D A [(h0, .inr (1, [.int 0, .int 0, .int 0, .int 0, .int 0, .ref q1, .ref q2, .ref q3, .ref q4, .ref q5, .ref q6, .null, .null])), (q1, .inl (cI, 1024, .inl (fun _ => 0))), (q2, .inl (cI, 1024, .inl (fun _ => 0))), (q3, .inl (cI, 1024, .inl (fun _ => 0))), (q4, .inl (cI, 1024, .inl (fun _ => 0))), (q5, .inl (cI, 1024, .inl (fun _ => 0))), (q6, .inl (cI, 1024, .inl (fun _ => 0)))] := hD
  refine lv_aload_n hx hb d_Ro_init_58 rfl (lv_at hl 0 rfl) ?_
  refine lv_sipush (v := 1024) hx hb d_Ro_init_59 (by decide) ?_
  refine gn_arr (n := 1024) (N' := 1024) hC hK hP hD hS hA (by decide) (by decide) (by decide) (Nat.le_of_ble_eq_true rfl) (Nat.le_of_ble_eq_true rfl) d_Ro_init_62 (fun q7 H hP hD hS => ?_)
  have hP : va_P D gcl [(h0, .inr (1, [.int 0, .int 0, .int 0, .int 0, .int 0, .ref q1, .ref q2, .ref q3, .ref q4, .ref q5, .ref q6, .null, .null])), (q1, .inl (cI, 1024, .inl (fun _ => 0))), (q2, .inl (cI, 1024, .inl (fun _ => 0))), (q3, .inl (cI, 1024, .inl (fun _ => 0))), (q4, .inl (cI, 1024, .inl (fun _ => 0))), (q5, .inl (cI, 1024, .inl (fun _ => 0))), (q6, .inl (cI, 1024, .inl (fun _ => 0))), (q7, .inl (cI, 1024, .inl (fun _ => 0)))] H := hP
  have hD : va_D A [(h0, .inr (1, [.int 0, .int 0, .int 0, .int 0, .int 0, .ref q1, .ref q2, .ref q3, .ref q4, .ref q5, .ref q6, .null, .null])), (q1, .inl (cI, 1024, .inl (fun _ => 0))), (q2, .inl (cI, 1024, .inl (fun _ => 0))), (q3, .inl (cI, 1024, .inl (fun _ => 0))), (q4, .inl (cI, 1024, .inl (fun _ => 0))), (q5, .inl (cI, 1024, .inl (fun _ => 0))), (q6, .inl (cI, 1024, .inl (fun _ => 0))), (q7, .inl (cI, 1024, .inl (fun _ => 0)))] := hD
  refine W.widen (k := 7) (n := 7168) (Nat.le_of_ble_eq_true rfl) (Nat.le_of_ble_eq_true rfl) ?_
  refine va_putF (D := D) (q0 := 0) (k := 11) (v := .ref q7) (ty := .array .int) (C := R_Ro) (T := F_Ro) (N := 13) hx hb hts in_Ro t_Ro t_Ro_ok n_Ro hown hK hP hD hS rfl rfl (by decide) (hts _ fl_Ro_30) (fun _ h9 => h9) rfl hin rfl (by decide +kernel) rfl rfl (Nat.le_of_ble_eq_true rfl) d_Ro_init_64 (fun H locs hP hD hS => ?_)
  have hP : va_P D gcl [(h0, .inr (1, [.int 0, .int 0, .int 0, .int 0, .int 0, .ref q1, .ref q2, .ref q3, .ref q4, .ref q5, .ref q6, .ref q7, .null])), (q1, .inl (cI, 1024, .inl (fun _ => 0))), (q2, .inl (cI, 1024, .inl (fun _ => 0))), (q3, .inl (cI, 1024, .inl (fun _ => 0))), (q4, .inl (cI, 1024, .inl (fun _ => 0))), (q5, .inl (cI, 1024, .inl (fun _ => 0))), (q6, .inl (cI, 1024, .inl (fun _ => 0))), (q7, .inl (cI, 1024, .inl (fun _ => 0)))] H := hP
  have hD : va_D A [(h0, .inr (1, [.int 0, .int 0, .int 0, .int 0, .int 0, .ref q1, .ref q2, .ref q3, .ref q4, .ref q5, .ref q6, .ref q7, .null])), (q1, .inl (cI, 1024, .inl (fun _ => 0))), (q2, .inl (cI, 1024, .inl (fun _ => 0))), (q3, .inl (cI, 1024, .inl (fun _ => 0))), (q4, .inl (cI, 1024, .inl (fun _ => 0))), (q5, .inl (cI, 1024, .inl (fun _ => 0))), (q6, .inl (cI, 1024, .inl (fun _ => 0))), (q7, .inl (cI, 1024, .inl (fun _ => 0)))] := hD
  refine lv_aload_n hx hb d_Ro_init_67 rfl (lv_at hl 0 rfl) ?_
  refine lv_sipush (v := 1024) hx hb d_Ro_init_68 (by decide) ?_
  refine gn_arr (n := 1024) (N' := 1024) hC hK hP hD hS hA (by decide) (by decide) (by decide) (Nat.le_of_ble_eq_true rfl) (Nat.le_of_ble_eq_true rfl) d_Ro_init_71 (fun q8 H hP hD hS => ?_)
  have hP : va_P D gcl [(h0, .inr (1, [.int 0, .int 0, .int 0, .int 0, .int 0, .ref q1, .ref q2, .ref q3, .ref q4, .ref q5, .ref q6, .ref q7, .null])), (q1, .inl (cI, 1024, .inl (fun _ => 0))), (q2, .inl (cI, 1024, .inl (fun _ => 0))), (q3, .inl (cI, 1024, .inl (fun _ => 0))), (q4, .inl (cI, 1024, .inl (fun _ => 0))), (q5, .inl (cI, 1024, .inl (fun _ => 0))), (q6, .inl (cI, 1024, .inl (fun _ => 0))), (q7, .inl (cI, 1024, .inl (fun _ => 0))), (q8, .inl (cI, 1024, .inl (fun _ => 0)))] H := hP
  have hD : va_D A [(h0, .inr (1, [.int 0, .int 0, .int 0, .int 0, .int 0, .ref q1, .ref q2, .ref q3, .ref q4, .ref q5, .ref q6, .ref q7, .null])), (q1, .inl (cI, 1024, .inl (fun _ => 0))), (q2, .inl (cI, 1024, .inl (fun _ => 0))), (q3, .inl (cI, 1024, .inl (fun _ => 0))), (q4, .inl (cI, 1024, .inl (fun _ => 0))), (q5, .inl (cI, 1024, .inl (fun _ => 0))), (q6, .inl (cI, 1024, .inl (fun _ => 0))), (q7, .inl (cI, 1024, .inl (fun _ => 0))), (q8, .inl (cI, 1024, .inl (fun _ => 0)))] := hD
  refine W.widen (k := 8) (n := 8192) (Nat.le_of_ble_eq_true rfl) (Nat.le_of_ble_eq_true rfl) ?_
  refine va_putF (D := D) (q0 := 0) (k := 12) (v := .ref q8) (ty := .array .int) (C := R_Ro) (T := F_Ro) (N := 13) hx hb hts in_Ro t_Ro t_Ro_ok n_Ro hown hK hP hD hS rfl rfl (by decide) (hts _ fl_Ro_33) (fun _ h9 => h9) rfl hin rfl (by decide +kernel) rfl rfl (Nat.le_of_ble_eq_true rfl) d_Ro_init_73 (fun H locs hP hD hS => ?_)
  have hP : va_P D gcl [(h0, .inr (1, [.int 0, .int 0, .int 0, .int 0, .int 0, .ref q1, .ref q2, .ref q3, .ref q4, .ref q5, .ref q6, .ref q7, .ref q8])), (q1, .inl (cI, 1024, .inl (fun _ => 0))), (q2, .inl (cI, 1024, .inl (fun _ => 0))), (q3, .inl (cI, 1024, .inl (fun _ => 0))), (q4, .inl (cI, 1024, .inl (fun _ => 0))), (q5, .inl (cI, 1024, .inl (fun _ => 0))), (q6, .inl (cI, 1024, .inl (fun _ => 0))), (q7, .inl (cI, 1024, .inl (fun _ => 0))), (q8, .inl (cI, 1024, .inl (fun _ => 0)))] H := hP
  have hD : va_D A [(h0, .inr (1, [.int 0, .int 0, .int 0, .int 0, .int 0, .ref q1, .ref q2, .ref q3, .ref q4, .ref q5, .ref q6, .ref q7, .ref q8])), (q1, .inl (cI, 1024, .inl (fun _ => 0))), (q2, .inl (cI, 1024, .inl (fun _ => 0))), (q3, .inl (cI, 1024, .inl (fun _ => 0))), (q4, .inl (cI, 1024, .inl (fun _ => 0))), (q5, .inl (cI, 1024, .inl (fun _ => 0))), (q6, .inl (cI, 1024, .inl (fun _ => 0))), (q7, .inl (cI, 1024, .inl (fun _ => 0))), (q8, .inl (cI, 1024, .inl (fun _ => 0)))] := hD
  refine lv_aload_n hx hb d_Ro_init_76 rfl (lv_at hl 0 rfl) ?_
  refine lv_iload_n hx hb d_Ro_init_77 rfl (lv_at hl 1 rfl) ?_
  refine va_putF (D := D) (q0 := 0) (k := 0) (v := .int p1) (ty := .int) (C := R_Ro) (T := F_Ro) (N := 13) hx hb hts in_Ro t_Ro t_Ro_ok n_Ro hown hK hP hD hS rfl rfl (by decide) (hts _ fl_Ro_36) (fun _ h9 => h9) rfl hin rfl (by decide +kernel) rfl rfl (Nat.le_of_ble_eq_true rfl) d_Ro_init_78 (fun H locs hP hD hS => ?_)
  have hP : va_P D gcl [(h0, .inr (1, [.int p1, .int 0, .int 0, .int 0, .int 0, .ref q1, .ref q2, .ref q3, .ref q4, .ref q5, .ref q6, .ref q7, .ref q8])), (q1, .inl (cI, 1024, .inl (fun _ => 0))), (q2, .inl (cI, 1024, .inl (fun _ => 0))), (q3, .inl (cI, 1024, .inl (fun _ => 0))), (q4, .inl (cI, 1024, .inl (fun _ => 0))), (q5, .inl (cI, 1024, .inl (fun _ => 0))), (q6, .inl (cI, 1024, .inl (fun _ => 0))), (q7, .inl (cI, 1024, .inl (fun _ => 0))), (q8, .inl (cI, 1024, .inl (fun _ => 0)))] H := hP
  have hD : va_D A [(h0, .inr (1, [.int p1, .int 0, .int 0, .int 0, .int 0, .ref q1, .ref q2, .ref q3, .ref q4, .ref q5, .ref q6, .ref q7, .ref q8])), (q1, .inl (cI, 1024, .inl (fun _ => 0))), (q2, .inl (cI, 1024, .inl (fun _ => 0))), (q3, .inl (cI, 1024, .inl (fun _ => 0))), (q4, .inl (cI, 1024, .inl (fun _ => 0))), (q5, .inl (cI, 1024, .inl (fun _ => 0))), (q6, .inl (cI, 1024, .inl (fun _ => 0))), (q7, .inl (cI, 1024, .inl (fun _ => 0))), (q8, .inl (cI, 1024, .inl (fun _ => 0)))] := hD
  have hP9 := hP.sub (ws' := [(h0, .inr (1, [.int p1, .int 0, .int 0, .int 0, .int 0, .ref ((fun k => match k with | 0 => q1 | 1 => q2 | 2 => q3 | 3 => q4 | 4 => q5 | 5 => q6 | 6 => q7 | _ => q8) 0), .ref ((fun k => match k with | 0 => q1 | 1 => q2 | 2 => q3 | 3 => q4 | 4 => q5 | 5 => q6 | 6 => q7 | _ => q8) 1), .ref ((fun k => match k with | 0 => q1 | 1 => q2 | 2 => q3 | 3 => q4 | 4 => q5 | 5 => q6 | 6 => q7 | _ => q8) 2), .ref ((fun k => match k with | 0 => q1 | 1 => q2 | 2 => q3 | 3 => q4 | 4 => q5 | 5 => q6 | 6 => q7 | _ => q8) 3), .ref ((fun k => match k with | 0 => q1 | 1 => q2 | 2 => q3 | 3 => q4 | 4 => q5 | 5 => q6 | 6 => q7 | _ => q8) 4), .ref ((fun k => match k with | 0 => q1 | 1 => q2 | 2 => q3 | 3 => q4 | 4 => q5 | 5 => q6 | 6 => q7 | _ => q8) 5), .ref ((fun k => match k with | 0 => q1 | 1 => q2 | 2 => q3 | 3 => q4 | 4 => q5 | 5 => q6 | 6 => q7 | _ => q8) 6), .ref ((fun k => match k with | 0 => q1 | 1 => q2 | 2 => q3 | 3 => q4 | 4 => q5 | 5 => q6 | 6 => q7 | _ => q8) 7)])), (((fun k => match k with | 0 => q1 | 1 => q2 | 2 => q3 | 3 => q4 | 4 => q5 | 5 => q6 | 6 => q7 | _ => q8) 0), .inl (cI, 1024, .inl (fun _ => 0))), (((fun k => match k with | 0 => q1 | 1 => q2 | 2 => q3 | 3 => q4 | 4 => q5 | 5 => q6 | 6 => q7 | _ => q8) 1), .inl (cI, 1024, .inl (fun _ => 0))), (((fun k => match k with | 0 => q1 | 1 => q2 | 2 => q3 | 3 => q4 | 4 => q5 | 5 => q6 | 6 => q7 | _ => q8) 2), .inl (cI, 1024, .inl (fun _ => 0))), (((fun k => match k with | 0 => q1 | 1 => q2 | 2 => q3 | 3 => q4 | 4 => q5 | 5 => q6 | 6 => q7 | _ => q8) 3), .inl (cI, 1024, .inl (fun _ => 0))), (((fun k => match k with | 0 => q1 | 1 => q2 | 2 => q3 | 3 => q4 | 4 => q5 | 5 => q6 | 6 => q7 | _ => q8) 4), .inl (cI, 1024, .inl (fun _ => 0))), (((fun k => match k with | 0 => q1 | 1 => q2 | 2 => q3 | 3 => q4 | 4 => q5 | 5 => q6 | 6 => q7 | _ => q8) 5), .inl (cI, 1024, .inl (fun _ => 0))), (((fun k => match k with | 0 => q1 | 1 => q2 | 2 => q3 | 3 => q4 | 4 => q5 | 5 => q6 | 6 => q7 | _ => q8) 6), .inl (cI, 1024, .inl (fun _ => 0))), (((fun k => match k with | 0 => q1 | 1 => q2 | 2 => q3 | 3 => q4 | 4 => q5 | 5 => q6 | 6 => q7 | _ => q8) 7), .inl (cI, 1024, .inl (fun _ => 0)))]) [0, 1, 2, 3, 4, 5, 6, 7, 8] rfl
  have hD9 := hD.sub (ws' := [(h0, .inr (1, [.int p1, .int 0, .int 0, .int 0, .int 0, .ref ((fun k => match k with | 0 => q1 | 1 => q2 | 2 => q3 | 3 => q4 | 4 => q5 | 5 => q6 | 6 => q7 | _ => q8) 0), .ref ((fun k => match k with | 0 => q1 | 1 => q2 | 2 => q3 | 3 => q4 | 4 => q5 | 5 => q6 | 6 => q7 | _ => q8) 1), .ref ((fun k => match k with | 0 => q1 | 1 => q2 | 2 => q3 | 3 => q4 | 4 => q5 | 5 => q6 | 6 => q7 | _ => q8) 2), .ref ((fun k => match k with | 0 => q1 | 1 => q2 | 2 => q3 | 3 => q4 | 4 => q5 | 5 => q6 | 6 => q7 | _ => q8) 3), .ref ((fun k => match k with | 0 => q1 | 1 => q2 | 2 => q3 | 3 => q4 | 4 => q5 | 5 => q6 | 6 => q7 | _ => q8) 4), .ref ((fun k => match k with | 0 => q1 | 1 => q2 | 2 => q3 | 3 => q4 | 4 => q5 | 5 => q6 | 6 => q7 | _ => q8) 5), .ref ((fun k => match k with | 0 => q1 | 1 => q2 | 2 => q3 | 3 => q4 | 4 => q5 | 5 => q6 | 6 => q7 | _ => q8) 6), .ref ((fun k => match k with | 0 => q1 | 1 => q2 | 2 => q3 | 3 => q4 | 4 => q5 | 5 => q6 | 6 => q7 | _ => q8) 7)])), (((fun k => match k with | 0 => q1 | 1 => q2 | 2 => q3 | 3 => q4 | 4 => q5 | 5 => q6 | 6 => q7 | _ => q8) 0), .inl (cI, 1024, .inl (fun _ => 0))), (((fun k => match k with | 0 => q1 | 1 => q2 | 2 => q3 | 3 => q4 | 4 => q5 | 5 => q6 | 6 => q7 | _ => q8) 1), .inl (cI, 1024, .inl (fun _ => 0))), (((fun k => match k with | 0 => q1 | 1 => q2 | 2 => q3 | 3 => q4 | 4 => q5 | 5 => q6 | 6 => q7 | _ => q8) 2), .inl (cI, 1024, .inl (fun _ => 0))), (((fun k => match k with | 0 => q1 | 1 => q2 | 2 => q3 | 3 => q4 | 4 => q5 | 5 => q6 | 6 => q7 | _ => q8) 3), .inl (cI, 1024, .inl (fun _ => 0))), (((fun k => match k with | 0 => q1 | 1 => q2 | 2 => q3 | 3 => q4 | 4 => q5 | 5 => q6 | 6 => q7 | _ => q8) 4), .inl (cI, 1024, .inl (fun _ => 0))), (((fun k => match k with | 0 => q1 | 1 => q2 | 2 => q3 | 3 => q4 | 4 => q5 | 5 => q6 | 6 => q7 | _ => q8) 5), .inl (cI, 1024, .inl (fun _ => 0))), (((fun k => match k with | 0 => q1 | 1 => q2 | 2 => q3 | 3 => q4 | 4 => q5 | 5 => q6 | 6 => q7 | _ => q8) 6), .inl (cI, 1024, .inl (fun _ => 0))), (((fun k => match k with | 0 => q1 | 1 => q2 | 2 => q3 | 3 => q4 | 4 => q5 | 5 => q6 | 6 => q7 | _ => q8) 7), .inl (cI, 1024, .inl (fun _ => 0)))]) [0, 1, 2, 3, 4, 5, 6, 7, 8] (by decide) rfl
  refine W.widen (k := 8) (n := 8192) (Nat.le_of_ble_eq_true rfl) (Nat.le_of_ble_eq_true rfl) ?_
  exact W.vret hx hb hr (fun t ht hW => ⟨⟨(fun k => match k with | 0 => q1 | 1 => q2 | 2 => q3 | 3 => q4 | 4 => q5 | 5 => q6 | 6 => q7 | _ => q8), rfl, trivial, by rw [ht]; exact hP9, va_K.moved hW.alike hK, hD9⟩, hS.F ht⟩) hS.2.2 d_Ro_init_81
set_option maxHeartbeats 8000000 in
set_option maxRecDepth 100000 in
theorem c_BS_init (l : Launch) (D : va_G) (cI cL : ClassId) (h0 sz : Nat) (p1 : Int32) (p2 : Int32) : Met l y_BS_init (w_BS_init :: gtb) { frames := 2, cells := 15, slots := 9021, locals := 64 } (va_Pc [.ref h0, .int p1, .int p2] (fun U => U.heap.size = sz ∧ va_P D gcl [(h0, .inr (2, [.int 0, .null, .null, .int 0, .null, .null, .null]))] U.heap ∧ va_K D gcl (gty cI cL) U ∧ va_D (fun _ => True) [(h0, .inr (2, [.int 0, .null, .null, .int 0, .null, .null, .null]))] ∧ va_Nw (.methodLinkNest R_BS 18 y_Ma_init "BackSteps") U)) (va_Qv (S := Nat → Nat) (fun u => u 0 = h0) (fun u t => va_P D gcl (gwc u cI (G0c p1 p2)) t.heap ∧ va_K D gcl (gty cI cL) t ∧ va_D (va_A [(h0, .inr (2, [.int 0, .null, .null, .int 0, .null, .null, .null]))] sz) (gwc u cI (G0c p1 p2))) (va_A [(h0, .inr (2, [.int 0, .null, .null, .int 0, .null, .null, .null]))] sz)) 15 9021 (va_A [(h0, .inr (2, [.int 0, .null, .null, .int 0, .null, .null, .null]))] sz) := by
  refine Met.ofW (cc := b_BS_init) (maxL := 3) (ret := none) (by decide) rfl ?_
  intro p e s m args below meth c s₁ B hml hv
  obtain ⟨rfl, hsz, hP, hK, hD0, hNw⟩ := hv
  have hx := B.exec
  have hb := B.bytes
  have hr := B.returns
  have hts : ∀ w ∈ gtb, w.before ([.ref h0, .int p1, .int p2] : List Value).toArray s = true := fun w hw => atoms_spec (ws := w_BS_init :: gtb) B.pre w (List.mem_cons_of_mem _ hw)
  have hown : s.vm.findClass R_BS = some m.cls := findClass_of_methodNamed B.named
  have hlocks := B.notSynchronized
  have hin : meth.name = "<init>" := (name_of_methodNamed B.named B.method).1
  have hC : CallFix p m c b_BS_init 3 s ([.ref h0, .int p1, .int p2] : List Value).toArray gtb R_BS := ⟨hx, hb, hml, hown, hts⟩
  subst hsz
  have hD := hD0.self (sz := s.heap.size)
  generalize hAe : va_A [(h0, .inr (2, [.int 0, .null, .null, .int 0, .null, .null, .null]))] s.heap.size = A at hD ⊢
  have hA : ∀ q : Nat, s.heap.size ≤ q → A q := fun q h => by rw [← hAe]; exact Or.inr h
  have hS : va_S A s.heap s.heap [] := va_S.rf
  have hP : va_P D gcl [(h0, .inr (2, [.int 0, .null, .null, .int 0, .null, .null, .null]))] s.heap := hP
  have hl := lv_entry ([.ref h0, .int p1, .int p2]) (n := 3) (Nat.le_of_ble_eq_true rfl)
  rw [lg_entry_eq]
  generalize (lg_sl ([.ref h0, .int p1, .int p2]) ++ List.replicate (3 - (lg_sl ([.ref h0, .int p1, .int p2])).length) Slot.unset).toArray = ls at hl ⊢
  have hl : lv_has ls 3 [(0, .ref h0), (1, .int p1), (2, .int p2)] := hl
  refine lv_aload_n hx hb d_BS_init_0 rfl (lv_at hl 0 rfl) ?_
  refine W.objInit hx hb hown (hts _ ml_BS_obj) (hts _ obj_in) (hts _ obj_co) rfl (by rw [hml]; exact hl.1) rfl d_BS_init_1 (Nat.le_of_ble_eq_true rfl) (Nat.le_of_ble_eq_true rfl) ?_
  refine W.eq (g2 := F0 m 4 ls []) rfl ?_
  refine lv_aload_n hx hb d_BS_init_4 rfl (lv_at hl 0 rfl) ?_
  refine lv_bipush (v := 64) hx hb d_BS_init_5 (by decide) ?_
  refine gn_arr (n := 64) (N' := 64) hC hK hP hD hS hA (by decide) (by decide) (by decide) (Nat.le_of_ble_eq_true rfl) (Nat.le_of_ble_eq_true rfl) d_BS_init_7 (fun q1 H hP hD hS => ?_)
  have hP : va_P D gcl [(h0, .inr (2, [.int 0, .null, .null, .int 0, .null, .null, .null])), (q1, .inl (cI, 64, .inl (fun _ => 0)))] H := hP
  have hD : va_D A [(h0, .inr (2, [.int 0, .null, .null, .int 0, .null, .null, .null])), (q1, .inl (cI, 64, .inl (fun _ => 0)))] := hD
  refine W.widen (k := 1) (n := 64) (Nat.le_of_ble_eq_true rfl) (Nat.le_of_ble_eq_true rfl) ?_
  refine va_putF (D := D) (q0 := 0) (k := 1) (v := .ref q1) (ty := .array .int) (C := R_BS) (T := F_BS) (N := 7) hx hb hts in_BS t_BS t_BS_ok n_BS hown hK hP hD hS rfl rfl (by decide) (hts _ fl_BS_9) (fun _ h9 => h9) rfl hin rfl (by decide +kernel) rfl rfl (Nat.le_of_ble_eq_true rfl) d_BS_init_9 (fun H locs hP hD hS => ?_)
  have hP : va_P D gcl [(h0, .inr (2, [.int 0, .ref q1, .null, .int 0, .null, .null, .null])), (q1, .inl (cI, 64, .inl (fun _ => 0)))] H := hP
  have hD : va_D A [(h0, .inr (2, [.int 0, .ref q1, .null, .int 0, .null, .null, .null])), (q1, .inl (cI, 64, .inl (fun _ => 0)))] := hD
  refine lv_aload_n hx hb d_BS_init_12 rfl (lv_at hl 0 rfl) ?_
  refine lv_sipush (v := 200) hx hb d_BS_init_13 (by decide) ?_
  refine gn_arr (n := 200) (N' := 200) hC hK hP hD hS hA (by decide) (by decide) (by decide) (Nat.le_of_ble_eq_true rfl) (Nat.le_of_ble_eq_true rfl) d_BS_init_16 (fun q2 H hP hD hS => ?_)
  have hP : va_P D gcl [(h0, .inr (2, [.int 0, .ref q1, .null, .int 0, .null, .null, .null])), (q1, .inl (cI, 64, .inl (fun _ => 0))), (q2, .inl (cI, 200, .inl (fun _ => 0)))] H := hP
  have hD : va_D A [(h0, .inr (2, [.int 0, .ref q1, .null, .int 0, .null, .null, .null])), (q1, .inl (cI, 64, .inl (fun _ => 0))), (q2, .inl (cI, 200, .inl (fun _ => 0)))] := hD
  refine W.widen (k := 2) (n := 264) (Nat.le_of_ble_eq_true rfl) (Nat.le_of_ble_eq_true rfl) ?_
  refine va_putF (D := D) (q0 := 0) (k := 2) (v := .ref q2) (ty := .array .int) (C := R_BS) (T := F_BS) (N := 7) hx hb hts in_BS t_BS t_BS_ok n_BS hown hK hP hD hS rfl rfl (by decide) (hts _ fl_BS_13) (fun _ h9 => h9) rfl hin rfl (by decide +kernel) rfl rfl (Nat.le_of_ble_eq_true rfl) d_BS_init_18 (fun H locs hP hD hS => ?_)
  have hP : va_P D gcl [(h0, .inr (2, [.int 0, .ref q1, .ref q2, .int 0, .null, .null, .null])), (q1, .inl (cI, 64, .inl (fun _ => 0))), (q2, .inl (cI, 200, .inl (fun _ => 0)))] H := hP
  have hD : va_D A [(h0, .inr (2, [.int 0, .ref q1, .ref q2, .int 0, .null, .null, .null])), (q1, .inl (cI, 64, .inl (fun _ => 0))), (q2, .inl (cI, 200, .inl (fun _ => 0)))] := hD
  refine lv_aload_n hx hb d_BS_init_21 rfl (lv_at hl 0 rfl) ?_
  refine va_new (ci := 0) (fs := [.null, .int 0, .int 0, .int 0, .int 0, .int 0, .int 0, .int 0, .int 0, .int 0, .int 0, .int 0]) (C := R_Ma) (T := F_Ma) (N := 12) hx hb hts in_Ma t_Ma t_Ma_ok hown (hts _ cl_BS_16) (hts _ in2_Ma) (hts _ in1_Ma) hK hP hD hS hA rfl (fun j hj => by rcases (show j = 0 ∨ j = 1 ∨ j = 2 ∨ j = 3 ∨ j = 4 ∨ j = 5 ∨ j = 6 ∨ j = 7 ∨ j = 8 ∨ j = 9 ∨ j = 10 ∨ j = 11 by omega) with rfl | rfl | rfl | rfl | rfl | rfl | rfl | rfl | rfl | rfl | rfl | rfl <;> rfl) (Nat.le_of_ble_eq_true rfl) (Nat.le_of_ble_eq_true rfl) d_BS_init_22 (fun q3 H hP hD hS => ?_)
  have hP : va_P D gcl [(h0, .inr (2, [.int 0, .ref q1, .ref q2, .int 0, .null, .null, .null])), (q1, .inl (cI, 64, .inl (fun _ => 0))), (q2, .inl (cI, 200, .inl (fun _ => 0))), (q3, .inr (0, [.null, .int 0, .int 0, .int 0, .int 0, .int 0, .int 0, .int 0, .int 0, .int 0, .int 0, .int 0]))] H := hP
  have hD : va_D A [(h0, .inr (2, [.int 0, .ref q1, .ref q2, .int 0, .null, .null, .null])), (q1, .inl (cI, 64, .inl (fun _ => 0))), (q2, .inl (cI, 200, .inl (fun _ => 0))), (q3, .inr (0, [.null, .int 0, .int 0, .int 0, .int 0, .int 0, .int 0, .int 0, .int 0, .int 0, .int 0, .int 0]))] := hD
  refine W.widen (k := 3) (n := 276) (Nat.le_of_ble_eq_true rfl) (Nat.le_of_ble_eq_true rfl) ?_
  refine lv_dup hx hb d_BS_init_25 rfl ?_
  have hPc := hP.sub (ws' := [(q3, .inr (0, [.null, .int 0, .int 0, .int 0, .int 0, .int 0, .int 0, .int 0, .int 0, .int 0, .int 0, .int 0]))]) [3] rfl
  have hDc := hD.sub (ws' := [(q3, .inr (0, [.null, .int 0, .int 0, .int 0, .int 0, .int 0, .int 0, .int 0, .int 0, .int 0, .int 0, .int 0]))]) [3] (by decide) rfl
  have hFc := va_free (wc := [(q3, .inr (0, [.null, .int 0, .int 0, .int 0, .int 0, .int 0, .int 0, .int 0, .int 0, .int 0, .int 0, .int 0]))]) hD hS hA [3] rfl
  refine va_callv (va_runIN (As := []) (rest := [.ref q3, .ref h0]) hC (c_Ma_init l D cI cL q3 H.size) (⟨va_cnB 0 hts (g_good wi_Ma) rfl rfl rfl hNw (hts _ in1_Ma) (by decide +kernel) ⟨Nat.le_of_ble_eq_true rfl, Nat.le_of_ble_eq_true rfl⟩, rfl, hts _ ii_Ma⟩) ⟨fun a U g mk q => by obtain ⟨q0, q1, qP, qK, qD⟩ := q; exact ⟨q0, q1, qP, va_K.moved (u := U) (U := U.calling g mk a) (Vm.Alike.refl U.vm) qK, qD⟩, fun U hU hW => ⟨rfl, by rw [hU], by rw [hU]; exact hPc, va_K.moved hW.alike hK, hDc.weaken (fun _ _ _ _ => trivial)⟩⟩ rfl rfl hl.1 rfl (lv_room (Nat.le_of_ble_eq_true rfl)) d_BS_init_26 ⟨Nat.le_of_ble_eq_true rfl, Nat.le_of_ble_eq_true rfl⟩) hS (fun q _ h => hFc q h) hFc (fun u4 t H1 locs ht hvm hw hB hz1 hk1 hS => ?_)
  obtain ⟨hP1, hK1, hD1⟩ := hB
  rw [ht] at hP1
  have hP1 : va_P D gcl [(q3, .inr (0, [.ref (u4), .int 0, .int 0, .int 0, .int 0, .int 0, .int (-1), .int 0, .int 0, .int 0, .int 0, .int 0])), ((u4), .inl (cI, 264, .inl (fun _ => 0)))] H1 := hP1
  obtain ⟨hP, hD⟩ := va_join (wr := [(h0, .inr (2, [.int 0, .ref q1, .ref q2, .int 0, .null, .null, .null])), (q1, .inl (cI, 64, .inl (fun _ => 0))), (q2, .inl (cI, 200, .inl (fun _ => 0)))]) (w1 := [(q3, .inr (0, [.ref (u4), .int 0, .int 0, .int 0, .int 0, .int 0, .int (-1), .int 0, .int 0, .int 0, .int 0, .int 0])), ((u4), .inl (cI, 264, .inl (fun _ => 0)))]) hP hD [3] [0, 1, 2] rfl rfl (by decide) (by decide) hk1 hFc hP1 hD1
  generalize H1 = H at hP hS ⊢
  have hP : va_P D gcl [(h0, .inr (2, [.int 0, .ref q1, .ref q2, .int 0, .null, .null, .null])), (q1, .inl (cI, 64, .inl (fun _ => 0))), (q2, .inl (cI, 200, .inl (fun _ => 0))), (q3, .inr (0, [.ref (u4), .int 0, .int 0, .int 0, .int 0, .int 0, .int (-1), .int 0, .int 0, .int 0, .int 0, .int 0])), ((u4), .inl (cI, 264, .inl (fun _ => 0)))] H := hP
  have hD : va_D A [(h0, .inr (2, [.int 0, .ref q1, .ref q2, .int 0, .null, .null, .null])), (q1, .inl (cI, 64, .inl (fun _ => 0))), (q2, .inl (cI, 200, .inl (fun _ => 0))), (q3, .inr (0, [.ref (u4), .int 0, .int 0, .int 0, .int 0, .int 0, .int (-1), .int 0, .int 0, .int 0, .int 0, .int 0])), ((u4), .inl (cI, 264, .inl (fun _ => 0)))] := hD
  refine W.widen (k := 4) (n := 540) (Nat.le_of_ble_eq_true rfl) (Nat.le_of_ble_eq_true rfl) ?_
  refine va_putF (D := D) (q0 := 0) (k := 4) (v := .ref q3) (ty := .object "BackSteps$Machine") (C := R_BS) (T := F_BS) (N := 7) hx hb hts in_BS t_BS t_BS_ok n_BS hown hK hP hD hS rfl rfl (by decide) (hts _ fl_BS_19) (fun _ h9 => h9) rfl hin rfl (by decide +kernel) rfl rfl (Nat.le_of_ble_eq_true rfl) d_BS_init_29 (fun H locs hP hD hS => ?_)
  have hP : va_P D gcl [(h0, .inr (2, [.int 0, .ref q1, .ref q2, .int 0, .ref q3, .null, .null])), (q1, .inl (cI, 64, .inl (fun _ => 0))), (q2, .inl (cI, 200, .inl (fun _ => 0))), (q3, .inr (0, [.ref (u4), .int 0, .int 0, .int 0, .int 0, .int 0, .int (-1), .int 0, .int 0, .int 0, .int 0, .int 0])), ((u4), .inl (cI, 264, .inl (fun _ => 0)))] H := hP
  have hD : va_D A [(h0, .inr (2, [.int 0, .ref q1, .ref q2, .int 0, .ref q3, .null, .null])), (q1, .inl (cI, 64, .inl (fun _ => 0))), (q2, .inl (cI, 200, .inl (fun _ => 0))), (q3, .inr (0, [.ref (u4), .int 0, .int 0, .int 0, .int 0, .int 0, .int (-1), .int 0, .int 0, .int 0, .int 0, .int 0])), ((u4), .inl (cI, 264, .inl (fun _ => 0)))] := hD
  refine lv_aload_n hx hb d_BS_init_32 rfl (lv_at hl 0 rfl) ?_
  refine va_new (ci := 0) (fs := [.null, .int 0, .int 0, .int 0, .int 0, .int 0, .int 0, .int 0, .int 0, .int 0, .int 0, .int 0]) (C := R_Ma) (T := F_Ma) (N := 12) hx hb hts in_Ma t_Ma t_Ma_ok hown (hts _ cl_BS_16) (hts _ in2_Ma) (hts _ in1_Ma) hK hP hD hS hA rfl (fun j hj => by rcases (show j = 0 ∨ j = 1 ∨ j = 2 ∨ j = 3 ∨ j = 4 ∨ j = 5 ∨ j = 6 ∨ j = 7 ∨ j = 8 ∨ j = 9 ∨ j = 10 ∨ j = 11 by omega) with rfl | rfl | rfl | rfl | rfl | rfl | rfl | rfl | rfl | rfl | rfl | rfl <;> rfl) (Nat.le_of_ble_eq_true rfl) (Nat.le_of_ble_eq_true rfl) d_BS_init_33 (fun q5 H hP hD hS => ?_)
  have hP : va_P D gcl [(h0, .inr (2, [.int 0, .ref q1, .ref q2, .int 0, .ref q3, .null, .null])), (q1, .inl (cI, 64, .inl (fun _ => 0))), (q2, .inl (cI, 200, .inl (fun _ => 0))), (q3, .inr (0, [.ref (u4), .int 0, .int 0, .int 0, .int 0, .int 0, .int (-1), .int 0, .int 0, .int 0, .int 0, .int 0])), ((u4), .inl (cI, 264, .inl (fun _ => 0))), (q5, .inr (0, [.null, .int 0, .int 0, .int 0, .int 0, .int 0, .int 0, .int 0, .int 0, .int 0, .int 0, .int 0]))] H := hP
  have hD : va_D A [(h0, .inr (2, [.int 0, .ref q1, .ref q2, .int 0, .ref q3, .null, .null])), (q1, .inl (cI, 64, .inl (fun _ => 0))), (q2, .inl (cI, 200, .inl (fun _ => 0))), (q3, .inr (0, [.ref (u4), .int 0, .int 0, .int 0, .int 0, .int 0, .int (-1), .int 0, .int 0, .int 0, .int 0, .int 0])), ((u4), .inl (cI, 264, .inl (fun _ => 0))), (q5, .inr (0, [.null, .int 0, .int 0, .int 0, .int 0, .int 0, .int 0, .int 0, .int 0, .int 0, .int 0, .int 0]))] := hD
  refine W.widen (k := 5) (n := 552) (Nat.le_of_ble_eq_true rfl) (Nat.le_of_ble_eq_true rfl) ?_
  refine lv_dup hx hb d_BS_init_36 rfl ?_
  have hPc := hP.sub (ws' := [(q5, .inr (0, [.null, .int 0, .int 0, .int 0, .int 0, .int 0, .int 0, .int 0, .int 0, .int 0, .int 0, .int 0]))]) [5] rfl
  have hDc := hD.sub (ws' := [(q5, .inr (0, [.null, .int 0, .int 0, .int 0, .int 0, .int 0, .int 0, .int 0, .int 0, .int 0, .int 0, .int 0]))]) [5] (by decide) rfl
  have hFc := va_free (wc := [(q5, .inr (0, [.null, .int 0, .int 0, .int 0, .int 0, .int 0, .int 0, .int 0, .int 0, .int 0, .int 0, .int 0]))]) hD hS hA [5] rfl
  refine va_callv (va_runIN (As := []) (rest := [.ref q5, .ref h0]) hC (c_Ma_init l D cI cL q5 H.size) (⟨va_cnB 0 hts (g_good wi_Ma) rfl rfl rfl hNw (hts _ in1_Ma) (by decide +kernel) ⟨Nat.le_of_ble_eq_true rfl, Nat.le_of_ble_eq_true rfl⟩, rfl, hts _ ii_Ma⟩) ⟨fun a U g mk q => by obtain ⟨q0, q1, qP, qK, qD⟩ := q; exact ⟨q0, q1, qP, va_K.moved (u := U) (U := U.calling g mk a) (Vm.Alike.refl U.vm) qK, qD⟩, fun U hU hW => ⟨rfl, by rw [hU], by rw [hU]; exact hPc, va_K.moved hW.alike hK, hDc.weaken (fun _ _ _ _ => trivial)⟩⟩ rfl rfl hl.1 rfl (lv_room (Nat.le_of_ble_eq_true rfl)) d_BS_init_37 ⟨Nat.le_of_ble_eq_true rfl, Nat.le_of_ble_eq_true rfl⟩) hS (fun q _ h => hFc q h) hFc (fun u6 t H1 locs ht hvm hw hB hz1 hk1 hS => ?_)
  obtain ⟨hP1, hK1, hD1⟩ := hB
  rw [ht] at hP1
  have hP1 : va_P D gcl [(q5, .inr (0, [.ref (u6), .int 0, .int 0, .int 0, .int 0, .int 0, .int (-1), .int 0, .int 0, .int 0, .int 0, .int 0])), ((u6), .inl (cI, 264, .inl (fun _ => 0)))] H1 := hP1
  obtain ⟨hP, hD⟩ := va_join (wr := [(h0, .inr (2, [.int 0, .ref q1, .ref q2, .int 0, .ref q3, .null, .null])), (q1, .inl (cI, 64, .inl (fun _ => 0))), (q2, .inl (cI, 200, .inl (fun _ => 0))), (q3, .inr (0, [.ref (u4), .int 0, .int 0, .int 0, .int 0, .int 0, .int (-1), .int 0, .int 0, .int 0, .int 0, .int 0])), ((u4), .inl (cI, 264, .inl (fun _ => 0)))]) (w1 := [(q5, .inr (0, [.ref (u6), .int 0, .int 0, .int 0, .int 0, .int 0, .int (-1), .int 0, .int 0, .int 0, .int 0, .int 0])), ((u6), .inl (cI, 264, .inl (fun _ => 0)))]) hP hD [5] [0, 1, 2, 3, 4] rfl rfl (by decide) (by decide) hk1 hFc hP1 hD1
  generalize H1 = H at hP hS ⊢
  have hP : va_P D gcl [(h0, .inr (2, [.int 0, .ref q1, .ref q2, .int 0, .ref q3, .null, .null])), (q1, .inl (cI, 64, .inl (fun _ => 0))), (q2, .inl (cI, 200, .inl (fun _ => 0))), (q3, .inr (0, [.ref (u4), .int 0, .int 0, .int 0, .int 0, .int 0, .int (-1), .int 0, .int 0, .int 0, .int 0, .int 0])), ((u4), .inl (cI, 264, .inl (fun _ => 0))), (q5, .inr (0, [.ref (u6), .int 0, .int 0, .int 0, .int 0, .int 0, .int (-1), .int 0, .int 0, .int 0, .int 0, .int 0])), ((u6), .inl (cI, 264, .inl (fun _ => 0)))] H := hP
  have hD : va_D A [(h0, .inr (2, [.int 0, .ref q1, .ref q2, .int 0, .ref q3, .null, .null])), (q1, .inl (cI, 64, .inl (fun _ => 0))), (q2, .inl (cI, 200, .inl (fun _ => 0))), (q3, .inr (0, [.ref (u4), .int 0, .int 0, .int 0, .int 0, .int 0, .int (-1), .int 0, .int 0, .int 0, .int 0, .int 0])), ((u4), .inl (cI, 264, .inl (fun _ => 0))), (q5, .inr (0, [.ref (u6), .int 0, .int 0, .int 0, .int 0, .int 0, .int (-1), .int 0, .int 0, .int 0, .int 0, .int 0])), ((u6), .inl (cI, 264, .inl (fun _ => 0)))] := hD
  refine W.widen (k := 6) (n := 816) (Nat.le_of_ble_eq_true rfl) (Nat.le_of_ble_eq_true rfl) ?_
  refine va_putF (D := D) (q0 := 0) (k := 5) (v := .ref q5) (ty := .object "BackSteps$Machine") (C := R_BS) (T := F_BS) (N := 7) hx hb hts in_BS t_BS t_BS_ok n_BS hown hK hP hD hS rfl rfl (by decide) (hts _ fl_BS_23) (fun _ h9 => h9) rfl hin rfl (by decide +kernel) rfl rfl (Nat.le_of_ble_eq_true rfl) d_BS_init_40 (fun H locs hP hD hS => ?_)
  have hP : va_P D gcl [(h0, .inr (2, [.int 0, .ref q1, .ref q2, .int 0, .ref q3, .ref q5, .null])), (q1, .inl (cI, 64, .inl (fun _ => 0))), (q2, .inl (cI, 200, .inl (fun _ => 0))), (q3, .inr (0, [.ref (u4), .int 0, .int 0, .int 0, .int 0, .int 0, .int (-1), .int 0, .int 0, .int 0, .int 0, .int 0])), ((u4), .inl (cI, 264, .inl (fun _ => 0))), (q5, .inr (0, [.ref (u6), .int 0, .int 0, .int 0, .int 0, .int 0, .int (-1), .int 0, .int 0, .int 0, .int 0, .int 0])), ((u6), .inl (cI, 264, .inl (fun _ => 0)))] H := hP
  have hD : va_D A [(h0, .inr (2, [.int 0, .ref q1, .ref q2, .int 0, .ref q3, .ref q5, .null])), (q1, .inl (cI, 64, .inl (fun _ => 0))), (q2, .inl (cI, 200, .inl (fun _ => 0))), (q3, .inr (0, [.ref (u4), .int 0, .int 0, .int 0, .int 0, .int 0, .int (-1), .int 0, .int 0, .int 0, .int 0, .int 0])), ((u4), .inl (cI, 264, .inl (fun _ => 0))), (q5, .inr (0, [.ref (u6), .int 0, .int 0, .int 0, .int 0, .int 0, .int (-1), .int 0, .int 0, .int 0, .int 0, .int 0])), ((u6), .inl (cI, 264, .inl (fun _ => 0)))] := hD
  refine lv_aload_n hx hb d_BS_init_43 rfl (lv_at hl 0 rfl) ?_
  refine va_new (ci := 1) (fs := [.int 0, .int 0, .int 0, .int 0, .int 0, .null, .null, .null, .null, .null, .null, .null, .null]) (C := R_Ro) (T := F_Ro) (N := 13) hx hb hts in_Ro t_Ro t_Ro_ok hown (hts _ cl_BS_26) (hts _ in2_Ro) (hts _ in1_Ro) hK hP hD hS hA rfl (fun j hj => by rcases (show j = 0 ∨ j = 1 ∨ j = 2 ∨ j = 3 ∨ j = 4 ∨ j = 5 ∨ j = 6 ∨ j = 7 ∨ j = 8 ∨ j = 9 ∨ j = 10 ∨ j = 11 ∨ j = 12 by omega) with rfl | rfl | rfl | rfl | rfl | rfl | rfl | rfl | rfl | rfl | rfl | rfl | rfl <;> rfl) (Nat.le_of_ble_eq_true rfl) (Nat.le_of_ble_eq_true rfl) d_BS_init_44 (fun q7 H hP hD hS => ?_)
  have hP : va_P D gcl [(h0, .inr (2, [.int 0, .ref q1, .ref q2, .int 0, .ref q3, .ref q5, .null])), (q1, .inl (cI, 64, .inl (fun _ => 0))), (q2, .inl (cI, 200, .inl (fun _ => 0))), (q3, .inr (0, [.ref (u4), .int 0, .int 0, .int 0, .int 0, .int 0, .int (-1), .int 0, .int 0, .int 0, .int 0, .int 0])), ((u4), .inl (cI, 264, .inl (fun _ => 0))), (q5, .inr (0, [.ref (u6), .int 0, .int 0, .int 0, .int 0, .int 0, .int (-1), .int 0, .int 0, .int 0, .int 0, .int 0])), ((u6), .inl (cI, 264, .inl (fun _ => 0))), (q7, .inr (1, [.int 0, .int 0, .int 0, .int 0, .int 0, .null, .null, .null, .null, .null, .null, .null, .null]))] H := hP
  have hD : va_D A [(h0, .inr (2, [.int 0, .ref q1, .ref q2, .int 0, .ref q3, .ref q5, .null])), (q1, .inl (cI, 64, .inl (fun _ => 0))), (q2, .inl (cI, 200, .inl (fun _ => 0))), (q3, .inr (0, [.ref (u4), .int 0, .int 0, .int 0, .int 0, .int 0, .int (-1), .int 0, .int 0, .int 0, .int 0, .int 0])), ((u4), .inl (cI, 264, .inl (fun _ => 0))), (q5, .inr (0, [.ref (u6), .int 0, .int 0, .int 0, .int 0, .int 0, .int (-1), .int 0, .int 0, .int 0, .int 0, .int 0])), ((u6), .inl (cI, 264, .inl (fun _ => 0))), (q7, .inr (1, [.int 0, .int 0, .int 0, .int 0, .int 0, .null, .null, .null, .null, .null, .null, .null, .null]))] := hD
  refine W.widen (k := 7) (n := 829) (Nat.le_of_ble_eq_true rfl) (Nat.le_of_ble_eq_true rfl) ?_
  refine lv_dup hx hb d_BS_init_47 rfl ?_
  refine lv_iconst (v := 4) hx hb d_BS_init_48 (by decide) ?_
  refine lv_iload_n hx hb d_BS_init_49 rfl (lv_at hl 1 rfl) ?_
  refine lv_sipush (v := 1021) hx hb d_BS_init_50 (by decide) ?_
  refine W.callR (W.runS (As := [.int p1, .int 1021]) (rest := [.int 4, .ref q7, .ref q7, .ref h0]) hC (q_Mt_floorMod l (fun _ _ => 0) p1 1021 ⟨by decide, trivial⟩) (va_cwS 2 hts (g_goodS key_Mt_floorMod sta_Mt_floorMod ml_BS_28) rfl rfl rfl (by decide +kernel) ⟨Nat.le_of_ble_eq_true rfl, Nat.le_of_ble_eq_true rfl⟩) preEq rfl rfl hl.1 rfl (lv_room (Nat.le_of_ble_eq_true rfl)) d_BS_init_53 ⟨Nat.le_of_ble_eq_true rfl, Nat.le_of_ble_eq_true rfl⟩) ?_
  refine W.eq (g2 := F0 m 56 ls (.int (f_Mt_floorMod (fun _ _ => 0) p1 1021) :: [.int 4, .ref q7, .ref q7, .ref h0])) rfl ?_
  refine lv_iadd hx hb d_BS_init_56 ?_
  have hPc := hP.sub (ws' := [(q7, .inr (1, [.int 0, .int 0, .int 0, .int 0, .int 0, .null, .null, .null, .null, .null, .null, .null, .null]))]) [7] rfl
  have hDc := hD.sub (ws' := [(q7, .inr (1, [.int 0, .int 0, .int 0, .int 0, .int 0, .null, .null, .null, .null, .null, .null, .null, .null]))]) [7] (by decide) rfl
  have hFc := va_free (wc := [(q7, .inr (1, [.int 0, .int 0, .int 0, .int 0, .int 0, .null, .null, .null, .null, .null, .null, .null, .null]))]) hD hS hA [7] rfl
  refine va_callv (va_runI (As := [.int ((4 : Int32) + (f_Mt_floorMod (fun _ _ => 0) p1 1021))]) (rest := [.ref q7, .ref h0]) hC (c_Ro_init l D cI cL q7 H.size ((4 : Int32) + (f_Mt_floorMod (fun _ _ => 0) p1 1021))) (cwI 1 hts (g_good wi_Ro) rfl rfl rfl (hts _ in1_Ro) (hts _ mi_BS_34) (hts _ ii_Ro) rfl (by decide +kernel) ⟨Nat.le_of_ble_eq_true rfl, Nat.le_of_ble_eq_true rfl⟩) ⟨fun a U g mk q => by obtain ⟨q0, q1, qP, qK, qD⟩ := q; exact ⟨q0, q1, qP, va_K.moved (u := U) (U := U.calling g mk a) (Vm.Alike.refl U.vm) qK, qD⟩, fun U hU hW => ⟨rfl, by rw [hU], by rw [hU]; exact hPc, va_K.moved hW.alike hK, hDc.weaken (fun _ _ _ _ => trivial)⟩⟩ rfl rfl hl.1 rfl (lv_room (Nat.le_of_ble_eq_true rfl)) d_BS_init_57 ⟨Nat.le_of_ble_eq_true rfl, Nat.le_of_ble_eq_true rfl⟩) hS (fun q _ h => hFc q h) hFc (fun u8 t H1 locs ht hvm hw hB hz1 hk1 hS => ?_)
  obtain ⟨hP1, hK1, hD1⟩ := hB
  rw [ht] at hP1
  have hP1 : va_P D gcl [(q7, .inr (1, [.int ((4 : Int32) + (f_Mt_floorMod (fun _ _ => 0) p1 1021)), .int 0, .int 0, .int 0, .int 0, .ref (u8 0), .ref (u8 1), .ref (u8 2), .ref (u8 3), .ref (u8 4), .ref (u8 5), .ref (u8 6), .ref (u8 7)])), ((u8 0), .inl (cI, 1024, .inl (fun _ => 0))), ((u8 1), .inl (cI, 1024, .inl (fun _ => 0))), ((u8 2), .inl (cI, 1024, .inl (fun _ => 0))), ((u8 3), .inl (cI, 1024, .inl (fun _ => 0))), ((u8 4), .inl (cI, 1024, .inl (fun _ => 0))), ((u8 5), .inl (cI, 1024, .inl (fun _ => 0))), ((u8 6), .inl (cI, 1024, .inl (fun _ => 0))), ((u8 7), .inl (cI, 1024, .inl (fun _ => 0)))] H1 := hP1
  obtain ⟨hP, hD⟩ := va_join (wr := [(h0, .inr (2, [.int 0, .ref q1, .ref q2, .int 0, .ref q3, .ref q5, .null])), (q1, .inl (cI, 64, .inl (fun _ => 0))), (q2, .inl (cI, 200, .inl (fun _ => 0))), (q3, .inr (0, [.ref (u4), .int 0, .int 0, .int 0, .int 0, .int 0, .int (-1), .int 0, .int 0, .int 0, .int 0, .int 0])), ((u4), .inl (cI, 264, .inl (fun _ => 0))), (q5, .inr (0, [.ref (u6), .int 0, .int 0, .int 0, .int 0, .int 0, .int (-1), .int 0, .int 0, .int 0, .int 0, .int 0])), ((u6), .inl (cI, 264, .inl (fun _ => 0)))]) (w1 := [(q7, .inr (1, [.int ((4 : Int32) + (f_Mt_floorMod (fun _ _ => 0) p1 1021)), .int 0, .int 0, .int 0, .int 0, .ref (u8 0), .ref (u8 1), .ref (u8 2), .ref (u8 3), .ref (u8 4), .ref (u8 5), .ref (u8 6), .ref (u8 7)])), ((u8 0), .inl (cI, 1024, .inl (fun _ => 0))), ((u8 1), .inl (cI, 1024, .inl (fun _ => 0))), ((u8 2), .inl (cI, 1024, .inl (fun _ => 0))), ((u8 3), .inl (cI, 1024, .inl (fun _ => 0))), ((u8 4), .inl (cI, 1024, .inl (fun _ => 0))), ((u8 5), .inl (cI, 1024, .inl (fun _ => 0))), ((u8 6), .inl (cI, 1024, .inl (fun _ => 0))), ((u8 7), .inl (cI, 1024, .inl (fun _ => 0)))]) hP hD [7] [0, 1, 2, 3, 4, 5, 6] rfl rfl (by decide) (by decide) hk1 hFc hP1 hD1
  generalize H1 = H at hP hS ⊢
  have hP : va_P D gcl [(h0, .inr (2, [.int 0, .ref q1, .ref q2, .int 0, .ref q3, .ref q5, .null])), (q1, .inl (cI, 64, .inl (fun _ => 0))), (q2, .inl (cI, 200, .inl (fun _ => 0))), (q3, .inr (0, [.ref (u4), .int 0, .int 0, .int 0, .int 0, .int 0, .int (-1), .int 0, .int 0, .int 0, .int 0, .int 0])), ((u4), .inl (cI, 264, .inl (fun _ => 0))), (q5, .inr (0, [.ref (u6), .int 0, .int 0, .int 0, .int 0, .int 0, .int (-1), .int 0, .int 0, .int 0, .int 0, .int 0])), ((u6), .inl (cI, 264, .inl (fun _ => 0))), (q7, .inr (1, [.int ((4 : Int32) + (f_Mt_floorMod (fun _ _ => 0) p1 1021)), .int 0, .int 0, .int 0, .int 0, .ref (u8 0), .ref (u8 1), .ref (u8 2), .ref (u8 3), .ref (u8 4), .ref (u8 5), .ref (u8 6), .ref (u8 7)])), ((u8 0), .inl (cI, 1024, .inl (fun _ => 0))), ((u8 1), .inl (cI, 1024, .inl (fun _ => 0))), ((u8 2), .inl (cI, 1024, .inl (fun _ => 0))), ((u8 3), .inl (cI, 1024, .inl (fun _ => 0))), ((u8 4), .inl (cI, 1024, .inl (fun _ => 0))), ((u8 5), .inl (cI, 1024, .inl (fun _ => 0))), ((u8 6), .inl (cI, 1024, .inl (fun _ => 0))), ((u8 7), .inl (cI, 1024, .inl (fun _ => 0)))] H := hP
  have hD : va_D A [(h0, .inr (2, [.int 0, .ref q1, .ref q2, .int 0, .ref q3, .ref q5, .null])), (q1, .inl (cI, 64, .inl (fun _ => 0))), (q2, .inl (cI, 200, .inl (fun _ => 0))), (q3, .inr (0, [.ref (u4), .int 0, .int 0, .int 0, .int 0, .int 0, .int (-1), .int 0, .int 0, .int 0, .int 0, .int 0])), ((u4), .inl (cI, 264, .inl (fun _ => 0))), (q5, .inr (0, [.ref (u6), .int 0, .int 0, .int 0, .int 0, .int 0, .int (-1), .int 0, .int 0, .int 0, .int 0, .int 0])), ((u6), .inl (cI, 264, .inl (fun _ => 0))), (q7, .inr (1, [.int ((4 : Int32) + (f_Mt_floorMod (fun _ _ => 0) p1 1021)), .int 0, .int 0, .int 0, .int 0, .ref (u8 0), .ref (u8 1), .ref (u8 2), .ref (u8 3), .ref (u8 4), .ref (u8 5), .ref (u8 6), .ref (u8 7)])), ((u8 0), .inl (cI, 1024, .inl (fun _ => 0))), ((u8 1), .inl (cI, 1024, .inl (fun _ => 0))), ((u8 2), .inl (cI, 1024, .inl (fun _ => 0))), ((u8 3), .inl (cI, 1024, .inl (fun _ => 0))), ((u8 4), .inl (cI, 1024, .inl (fun _ => 0))), ((u8 5), .inl (cI, 1024, .inl (fun _ => 0))), ((u8 6), .inl (cI, 1024, .inl (fun _ => 0))), ((u8 7), .inl (cI, 1024, .inl (fun _ => 0)))] := hD
  refine W.widen (k := 15) (n := 9021) (Nat.le_of_ble_eq_true rfl) (Nat.le_of_ble_eq_true rfl) ?_
  refine va_putF (D := D) (q0 := 0) (k := 6) (v := .ref q7) (ty := .object "BackSteps$Rows") (C := R_BS) (T := F_BS) (N := 7) hx hb hts in_BS t_BS t_BS_ok n_BS hown hK hP hD hS rfl rfl (by decide) (hts _ fl_BS_37) (fun _ h9 => h9) rfl hin rfl (by decide +kernel) rfl rfl (Nat.le_of_ble_eq_true rfl) d_BS_init_60 (fun H locs hP hD hS => ?_)
  have hP : va_P D gcl [(h0, .inr (2, [.int 0, .ref q1, .ref q2, .int 0, .ref q3, .ref q5, .ref q7])), (q1, .inl (cI, 64, .inl (fun _ => 0))), (q2, .inl (cI, 200, .inl (fun _ => 0))), (q3, .inr (0, [.ref (u4), .int 0, .int 0, .int 0, .int 0, .int 0, .int (-1), .int 0, .int 0, .int 0, .int 0, .int 0])), ((u4), .inl (cI, 264, .inl (fun _ => 0))), (q5, .inr (0, [.ref (u6), .int 0, .int 0, .int 0, .int 0, .int 0, .int (-1), .int 0, .int 0, .int 0, .int 0, .int 0])), ((u6), .inl (cI, 264, .inl (fun _ => 0))), (q7, .inr (1, [.int ((4 : Int32) + (f_Mt_floorMod (fun _ _ => 0) p1 1021)), .int 0, .int 0, .int 0, .int 0, .ref (u8 0), .ref (u8 1), .ref (u8 2), .ref (u8 3), .ref (u8 4), .ref (u8 5), .ref (u8 6), .ref (u8 7)])), ((u8 0), .inl (cI, 1024, .inl (fun _ => 0))), ((u8 1), .inl (cI, 1024, .inl (fun _ => 0))), ((u8 2), .inl (cI, 1024, .inl (fun _ => 0))), ((u8 3), .inl (cI, 1024, .inl (fun _ => 0))), ((u8 4), .inl (cI, 1024, .inl (fun _ => 0))), ((u8 5), .inl (cI, 1024, .inl (fun _ => 0))), ((u8 6), .inl (cI, 1024, .inl (fun _ => 0))), ((u8 7), .inl (cI, 1024, .inl (fun _ => 0)))] H := hP
  have hD : va_D A [(h0, .inr (2, [.int 0, .ref q1, .ref q2, .int 0, .ref q3, .ref q5, .ref q7])), (q1, .inl (cI, 64, .inl (fun _ => 0))), (q2, .inl (cI, 200, .inl (fun _ => 0))), (q3, .inr (0, [.ref (u4), .int 0, .int 0, .int 0, .int 0, .int 0, .int (-1), .int 0, .int 0, .int 0, .int 0, .int 0])), ((u4), .inl (cI, 264, .inl (fun _ => 0))), (q5, .inr (0, [.ref (u6), .int 0, .int 0, .int 0, .int 0, .int 0, .int (-1), .int 0, .int 0, .int 0, .int 0, .int 0])), ((u6), .inl (cI, 264, .inl (fun _ => 0))), (q7, .inr (1, [.int ((4 : Int32) + (f_Mt_floorMod (fun _ _ => 0) p1 1021)), .int 0, .int 0, .int 0, .int 0, .ref (u8 0), .ref (u8 1), .ref (u8 2), .ref (u8 3), .ref (u8 4), .ref (u8 5), .ref (u8 6), .ref (u8 7)])), ((u8 0), .inl (cI, 1024, .inl (fun _ => 0))), ((u8 1), .inl (cI, 1024, .inl (fun _ => 0))), ((u8 2), .inl (cI, 1024, .inl (fun _ => 0))), ((u8 3), .inl (cI, 1024, .inl (fun _ => 0))), ((u8 4), .inl (cI, 1024, .inl (fun _ => 0))), ((u8 5), .inl (cI, 1024, .inl (fun _ => 0))), ((u8 6), .inl (cI, 1024, .inl (fun _ => 0))), ((u8 7), .inl (cI, 1024, .inl (fun _ => 0)))] := hD
  refine lv_aload_n hx hb d_BS_init_63 rfl (lv_at hl 0 rfl) ?_
  refine lv_iconst (v := 1) hx hb d_BS_init_64 (by decide) ?_
  refine lv_iload_n hx hb d_BS_init_65 rfl (lv_at hl 2 rfl) ?_
  refine lv_bipush (v := 64) hx hb d_BS_init_66 (by decide) ?_
  refine W.callR (W.runS (As := [.int p2, .int 64]) (rest := [.int 1, .ref h0]) hC (q_Mt_floorMod l (fun _ _ => 0) p2 64 ⟨by decide, trivial⟩) (va_cwS 2 hts (g_goodS key_Mt_floorMod sta_Mt_floorMod ml_BS_28) rfl rfl rfl (by decide +kernel) ⟨Nat.le_of_ble_eq_true rfl, Nat.le_of_ble_eq_true rfl⟩) preEq rfl rfl hl.1 rfl (lv_room (Nat.le_of_ble_eq_true rfl)) d_BS_init_68 ⟨Nat.le_of_ble_eq_true rfl, Nat.le_of_ble_eq_true rfl⟩) ?_
  refine W.eq (g2 := F0 m 71 ls (.int (f_Mt_floorMod (fun _ _ => 0) p2 64) :: [.int 1, .ref h0])) rfl ?_
  refine lv_iadd hx hb d_BS_init_71 ?_
  refine va_putF (D := D) (q0 := 0) (k := 0) (v := .int ((1 : Int32) + (f_Mt_floorMod (fun _ _ => 0) p2 64))) (ty := .int) (C := R_BS) (T := F_BS) (N := 7) hx hb hts in_BS t_BS t_BS_ok n_BS hown hK hP hD hS rfl rfl (by decide) (hts _ fl_BS_41) (fun _ h9 => h9) rfl hin rfl (by decide +kernel) rfl rfl (Nat.le_of_ble_eq_true rfl) d_BS_init_72 (fun H locs hP hD hS => ?_)
  have hP : va_P D gcl [(h0, .inr (2, [.int ((1 : Int32) + (f_Mt_floorMod (fun _ _ => 0) p2 64)), .ref q1, .ref q2, .int 0, .ref q3, .ref q5, .ref q7])), (q1, .inl (cI, 64, .inl (fun _ => 0))), (q2, .inl (cI, 200, .inl (fun _ => 0))), (q3, .inr (0, [.ref (u4), .int 0, .int 0, .int 0, .int 0, .int 0, .int (-1), .int 0, .int 0, .int 0, .int 0, .int 0])), ((u4), .inl (cI, 264, .inl (fun _ => 0))), (q5, .inr (0, [.ref (u6), .int 0, .int 0, .int 0, .int 0, .int 0, .int (-1), .int 0, .int 0, .int 0, .int 0, .int 0])), ((u6), .inl (cI, 264, .inl (fun _ => 0))), (q7, .inr (1, [.int ((4 : Int32) + (f_Mt_floorMod (fun _ _ => 0) p1 1021)), .int 0, .int 0, .int 0, .int 0, .ref (u8 0), .ref (u8 1), .ref (u8 2), .ref (u8 3), .ref (u8 4), .ref (u8 5), .ref (u8 6), .ref (u8 7)])), ((u8 0), .inl (cI, 1024, .inl (fun _ => 0))), ((u8 1), .inl (cI, 1024, .inl (fun _ => 0))), ((u8 2), .inl (cI, 1024, .inl (fun _ => 0))), ((u8 3), .inl (cI, 1024, .inl (fun _ => 0))), ((u8 4), .inl (cI, 1024, .inl (fun _ => 0))), ((u8 5), .inl (cI, 1024, .inl (fun _ => 0))), ((u8 6), .inl (cI, 1024, .inl (fun _ => 0))), ((u8 7), .inl (cI, 1024, .inl (fun _ => 0)))] H := hP
  have hD : va_D A [(h0, .inr (2, [.int ((1 : Int32) + (f_Mt_floorMod (fun _ _ => 0) p2 64)), .ref q1, .ref q2, .int 0, .ref q3, .ref q5, .ref q7])), (q1, .inl (cI, 64, .inl (fun _ => 0))), (q2, .inl (cI, 200, .inl (fun _ => 0))), (q3, .inr (0, [.ref (u4), .int 0, .int 0, .int 0, .int 0, .int 0, .int (-1), .int 0, .int 0, .int 0, .int 0, .int 0])), ((u4), .inl (cI, 264, .inl (fun _ => 0))), (q5, .inr (0, [.ref (u6), .int 0, .int 0, .int 0, .int 0, .int 0, .int (-1), .int 0, .int 0, .int 0, .int 0, .int 0])), ((u6), .inl (cI, 264, .inl (fun _ => 0))), (q7, .inr (1, [.int ((4 : Int32) + (f_Mt_floorMod (fun _ _ => 0) p1 1021)), .int 0, .int 0, .int 0, .int 0, .ref (u8 0), .ref (u8 1), .ref (u8 2), .ref (u8 3), .ref (u8 4), .ref (u8 5), .ref (u8 6), .ref (u8 7)])), ((u8 0), .inl (cI, 1024, .inl (fun _ => 0))), ((u8 1), .inl (cI, 1024, .inl (fun _ => 0))), ((u8 2), .inl (cI, 1024, .inl (fun _ => 0))), ((u8 3), .inl (cI, 1024, .inl (fun _ => 0))), ((u8 4), .inl (cI, 1024, .inl (fun _ => 0))), ((u8 5), .inl (cI, 1024, .inl (fun _ => 0))), ((u8 6), .inl (cI, 1024, .inl (fun _ => 0))), ((u8 7), .inl (cI, 1024, .inl (fun _ => 0)))] := hD
  have hP9 := hP.sub (ws' := (gwc (fun k => match k with | 0 => h0 | 1 => q1 | 2 => q2 | 3 => q3 | 4 => (u4) | 5 => q5 | 6 => (u6) | 7 => q7 | 8 => (u8 0) | 9 => (u8 1) | 10 => (u8 2) | 11 => (u8 3) | 12 => (u8 4) | 13 => (u8 5) | 14 => (u8 6) | _ => (u8 7)) cI (G0c p1 p2))) [0, 1, 2, 3, 4, 5, 6, 7, 8, 9, 10, 11, 12, 13, 14, 15] rfl
  have hD9 := hD.sub (ws' := (gwc (fun k => match k with | 0 => h0 | 1 => q1 | 2 => q2 | 3 => q3 | 4 => (u4) | 5 => q5 | 6 => (u6) | 7 => q7 | 8 => (u8 0) | 9 => (u8 1) | 10 => (u8 2) | 11 => (u8 3) | 12 => (u8 4) | 13 => (u8 5) | 14 => (u8 6) | _ => (u8 7)) cI (G0c p1 p2))) [0, 1, 2, 3, 4, 5, 6, 7, 8, 9, 10, 11, 12, 13, 14, 15] (by decide) rfl
  refine W.widen (k := 15) (n := 9021) (Nat.le_of_ble_eq_true rfl) (Nat.le_of_ble_eq_true rfl) ?_
  exact W.vret hx hb hr (fun t ht hW => ⟨⟨(fun k => match k with | 0 => h0 | 1 => q1 | 2 => q2 | 3 => q3 | 4 => (u4) | 5 => q5 | 6 => (u6) | 7 => q7 | 8 => (u8 0) | 9 => (u8 1) | 10 => (u8 2) | 11 => (u8 3) | 12 => (u8 4) | 13 => (u8 5) | 14 => (u8 6) | _ => (u8 7)), rfl, rfl, by rw [ht]; exact hP9, va_K.moved hW.alike hK, hD9⟩, hS.F ht⟩) hS.2.2 d_BS_init_75
set_option maxHeartbeats 8000000 in
set_option maxRecDepth 100000 in
theorem c_Mo_init (l : Launch) (D : va_G) (cI cL : ClassId) (h0 sz : Nat) (p1 : Int32) (p2 : Int32) : Met l y_Mo_init (w_Mo_init :: gtb) { frames := 1, cells := 7, slots := 278577, locals := 24 } (va_Pc [.ref h0, .int p1, .int p2] (fun U => U.heap.size = sz ∧ va_P D gcl [(h0, .inr (3, [.int 0, .int 0, .int 0, .null, .int 0, .null, .null, .null, .null, .null, .null, .int 0, .int 0, .int 0, .int 0]))] U.heap ∧ va_K D gcl (gty cI cL) U ∧ va_D (fun _ => True) [(h0, .inr (3, [.int 0, .int 0, .int 0, .null, .int 0, .null, .null, .null, .null, .null, .null, .int 0, .int 0, .int 0, .int 0]))])) (va_Qv (S := Nat → Nat) (fun u => u 16 = h0) (fun u t => va_P D gcl (gwm u cI (G0m p1 p2)) t.heap ∧ va_K D gcl (gty cI cL) t ∧ va_D (va_A [(h0, .inr (3, [.int 0, .int 0, .int 0, .null, .int 0, .null, .null, .null, .null, .null, .null, .int 0, .int 0, .int 0, .int 0]))] sz) (gwm u cI (G0m p1 p2))) (va_A [(h0, .inr (3, [.int 0, .int 0, .int 0, .null, .int 0, .null, .null, .null, .null, .null, .null, .int 0, .int 0, .int 0, .int 0]))] sz)) 7 278577 (va_A [(h0, .inr (3, [.int 0, .int 0, .int 0, .null, .int 0, .null, .null, .null, .null, .null, .null, .int 0, .int 0, .int 0, .int 0]))] sz) := by
  refine Met.ofW (cc := b_Mo_init) (maxL := 3) (ret := none) (by decide) rfl ?_
  intro p e s m args below meth c s₁ B hml hv
  obtain ⟨rfl, hsz, hP, hK, hD0⟩ := hv
  have hx := B.exec
  have hb := B.bytes
  have hr := B.returns
  have hts : ∀ w ∈ gtb, w.before ([.ref h0, .int p1, .int p2] : List Value).toArray s = true := fun w hw => atoms_spec (ws := w_Mo_init :: gtb) B.pre w (List.mem_cons_of_mem _ hw)
  have hown : s.vm.findClass R_Mo = some m.cls := findClass_of_methodNamed B.named
  have hlocks := B.notSynchronized
  have hin : meth.name = "<init>" := (name_of_methodNamed B.named B.method).1
  have hC : CallFix p m c b_Mo_init 3 s ([.ref h0, .int p1, .int p2] : List Value).toArray gtb R_Mo := ⟨hx, hb, hml, hown, hts⟩
  subst hsz
  have hD := hD0.self (sz := s.heap.size)
  generalize hAe : va_A [(h0, .inr (3, [.int 0, .int 0, .int 0, .null, .int 0, .null, .null, .null, .null, .null, .null, .int 0, .int 0, .int 0, .int 0]))] s.heap.size = A at hD ⊢
  have hA : ∀ q : Nat, s.heap.size ≤ q → A q := fun q h => by rw [← hAe]; exact Or.inr h
  have hS : va_S A s.heap s.heap [] := va_S.rf
  have hP : va_P D gcl [(h0, .inr (3, [.int 0, .int 0, .int 0, .null, .int 0, .null, .null, .null, .null, .null, .null, .int 0, .int 0, .int 0, .int 0]))] s.heap := hP
  have hl := lv_entry ([.ref h0, .int p1, .int p2]) (n := 3) (Nat.le_of_ble_eq_true rfl)
  rw [lg_entry_eq]
  generalize (lg_sl ([.ref h0, .int p1, .int p2]) ++ List.replicate (3 - (lg_sl ([.ref h0, .int p1, .int p2])).length) Slot.unset).toArray = ls at hl ⊢
  have hl : lv_has ls 3 [(0, .ref h0), (1, .int p1), (2, .int p2)] := hl
  refine lv_aload_n hx hb d_Mo_init_0 rfl (lv_at hl 0 rfl) ?_
  refine W.objInit hx hb hown (hts _ ml_Mo_obj) (hts _ obj_in) (hts _ obj_co) rfl (by rw [hml]; exact hl.1) rfl d_Mo_init_1 (Nat.le_of_ble_eq_true rfl) (Nat.le_of_ble_eq_true rfl) ?_
  refine W.eq (g2 := F0 m 4 ls []) rfl ?_
  refine lv_aload_n hx hb d_Mo_init_4 rfl (lv_at hl 0 rfl) ?_
  refine lv_bipush (v := 64) hx hb d_Mo_init_5 (by decide) ?_
  refine gn_arr (n := 64) (N' := 64) hC hK hP hD hS hA (by decide) (by decide) (by decide) (Nat.le_of_ble_eq_true rfl) (Nat.le_of_ble_eq_true rfl) d_Mo_init_7 (fun q1 H hP hD hS => ?_)
  have hP : va_P D gcl [(h0, .inr (3, [.int 0, .int 0, .int 0, .null, .int 0, .null, .null, .null, .null, .null, .null, .int 0, .int 0, .int 0, .int 0])), (q1, .inl (cI, 64, .inl (fun _ => 0)))] H := hP
  have hD : va_D A [(h0, .inr (3, [.int 0, .int 0, .int 0, .null, .int 0, .null, .null, .null, .null, .null, .null, .int 0, .int 0, .int 0, .int 0])), (q1, .inl (cI, 64, .inl (fun _ => 0)))] := hD
  refine W.widen (k := 1) (n := 64) (Nat.le_of_ble_eq_true rfl) (Nat.le_of_ble_eq_true rfl) ?_
  refine va_putF (D := D) (q0 := 0) (k := 3) (v := .ref q1) (ty := .array .int) (C := R_Mo) (T := F_Mo) (N := 15) hx hb hts in_Mo t_Mo t_Mo_ok n_Mo hown hK hP hD hS rfl rfl (by decide) (hts _ fl_Mo_7) (fun _ h9 => h9) rfl hin rfl (by decide +kernel) rfl rfl (Nat.le_of_ble_eq_true rfl) d_Mo_init_9 (fun H locs hP hD hS => ?_)
  have hP : va_P D gcl [(h0, .inr (3, [.int 0, .int 0, .int 0, .ref q1, .int 0, .null, .null, .null, .null, .null, .null, .int 0, .int 0, .int 0, .int 0])), (q1, .inl (cI, 64, .inl (fun _ => 0)))] H := hP
  have hD : va_D A [(h0, .inr (3, [.int 0, .int 0, .int 0, .ref q1, .int 0, .null, .null, .null, .null, .null, .null, .int 0, .int 0, .int 0, .int 0])), (q1, .inl (cI, 64, .inl (fun _ => 0)))] := hD
  refine lv_aload_n hx hb d_Mo_init_12 rfl (lv_at hl 0 rfl) ?_
  refine lv_sipush (v := 200) hx hb d_Mo_init_13 (by decide) ?_
  refine gn_arr (n := 200) (N' := 200) hC hK hP hD hS hA (by decide) (by decide) (by decide) (Nat.le_of_ble_eq_true rfl) (Nat.le_of_ble_eq_true rfl) d_Mo_init_16 (fun q2 H hP hD hS => ?_)
  have hP : va_P D gcl [(h0, .inr (3, [.int 0, .int 0, .int 0, .ref q1, .int 0, .null, .null, .null, .null, .null, .null, .int 0, .int 0, .int 0, .int 0])), (q1, .inl (cI, 64, .inl (fun _ => 0))), (q2, .inl (cI, 200, .inl (fun _ => 0)))] H := hP
  have hD : va_D A [(h0, .inr (3, [.int 0, .int 0, .int 0, .ref q1, .int 0, .null, .null, .null, .null, .null, .null, .int 0, .int 0, .int 0, .int 0])), (q1, .inl (cI, 64, .inl (fun _ => 0))), (q2, .inl (cI, 200, .inl (fun _ => 0)))] := hD
  refine W.widen (k := 2) (n := 264) (Nat.le_of_ble_eq_true rfl) (Nat.le_of_ble_eq_true rfl) ?_
  refine va_putF (D := D) (q0 := 0) (k := 5) (v := .ref q2) (ty := .array .int) (C := R_Mo) (T := F_Mo) (N := 15) hx hb hts in_Mo t_Mo t_Mo_ok n_Mo hown hK hP hD hS rfl rfl (by decide) (hts _ fl_Mo_13) (fun _ h9 => h9) rfl hin rfl (by decide +kernel) rfl rfl (Nat.le_of_ble_eq_true rfl) d_Mo_init_18 (fun H locs hP hD hS => ?_)
  have hP : va_P D gcl [(h0, .inr (3, [.int 0, .int 0, .int 0, .ref q1, .int 0, .ref q2, .null, .null, .null, .null, .null, .int 0, .int 0, .int 0, .int 0])), (q1, .inl (cI, 64, .inl (fun _ => 0))), (q2, .inl (cI, 200, .inl (fun _ => 0)))] H := hP
  have hD : va_D A [(h0, .inr (3, [.int 0, .int 0, .int 0, .ref q1, .int 0, .ref q2, .null, .null, .null, .null, .null, .int 0, .int 0, .int 0, .int 0])), (q1, .inl (cI, 64, .inl (fun _ => 0))), (q2, .inl (cI, 200, .inl (fun _ => 0)))] := hD
  refine lv_aload_n hx hb d_Mo_init_21 rfl (lv_at hl 0 rfl) ?_
  refine lv_sipush (v := 269) hx hb d_Mo_init_22 (by decide) ?_
  refine gn_arr (n := 269) (N' := 269) hC hK hP hD hS hA (by decide) (by decide) (by decide) (Nat.le_of_ble_eq_true rfl) (Nat.le_of_ble_eq_true rfl) d_Mo_init_25 (fun q3 H hP hD hS => ?_)
  have hP : va_P D gcl [(h0, .inr (3, [.int 0, .int 0, .int 0, .ref q1, .int 0, .ref q2, .null, .null, .null, .null, .null, .int 0, .int 0, .int 0, .int 0])), (q1, .inl (cI, 64, .inl (fun _ => 0))), (q2, .inl (cI, 200, .inl (fun _ => 0))), (q3, .inl (cI, 269, .inl (fun _ => 0)))] H := hP
  have hD : va_D A [(h0, .inr (3, [.int 0, .int 0, .int 0, .ref q1, .int 0, .ref q2, .null, .null, .null, .null, .null, .int 0, .int 0, .int 0, .int 0])), (q1, .inl (cI, 64, .inl (fun _ => 0))), (q2, .inl (cI, 200, .inl (fun _ => 0))), (q3, .inl (cI, 269, .inl (fun _ => 0)))] := hD
  refine W.widen (k := 3) (n := 533) (Nat.le_of_ble_eq_true rfl) (Nat.le_of_ble_eq_true rfl) ?_
  refine va_putF (D := D) (q0 := 0) (k := 6) (v := .ref q3) (ty := .array .int) (C := R_Mo) (T := F_Mo) (N := 15) hx hb hts in_Mo t_Mo t_Mo_ok n_Mo hown hK hP hD hS rfl rfl (by decide) (hts _ fl_Mo_16) (fun _ h9 => h9) rfl hin rfl (by decide +kernel) rfl rfl (Nat.le_of_ble_eq_true rfl) d_Mo_init_27 (fun H locs hP hD hS => ?_)
  have hP : va_P D gcl [(h0, .inr (3, [.int 0, .int 0, .int 0, .ref q1, .int 0, .ref q2, .ref q3, .null, .null, .null, .null, .int 0, .int 0, .int 0, .int 0])), (q1, .inl (cI, 64, .inl (fun _ => 0))), (q2, .inl (cI, 200, .inl (fun _ => 0))), (q3, .inl (cI, 269, .inl (fun _ => 0)))] H := hP
  have hD : va_D A [(h0, .inr (3, [.int 0, .int 0, .int 0, .ref q1, .int 0, .ref q2, .ref q3, .null, .null, .null, .null, .int 0, .int 0, .int 0, .int 0])), (q1, .inl (cI, 64, .inl (fun _ => 0))), (q2, .inl (cI, 200, .inl (fun _ => 0))), (q3, .inl (cI, 269, .inl (fun _ => 0)))] := hD
  refine lv_aload_n hx hb d_Mo_init_30 rfl (lv_at hl 0 rfl) ?_
  refine lv_sipush (v := 269) hx hb d_Mo_init_31 (by decide) ?_
  refine gn_arr (n := 269) (N' := 269) hC hK hP hD hS hA (by decide) (by decide) (by decide) (Nat.le_of_ble_eq_true rfl) (Nat.le_of_ble_eq_true rfl) d_Mo_init_34 (fun q4 H hP hD hS => ?_)
  have hP : va_P D gcl [(h0, .inr (3, [.int 0, .int 0, .int 0, .ref q1, .int 0, .ref q2, .ref q3, .null, .null, .null, .null, .int 0, .int 0, .int 0, .int 0])), (q1, .inl (cI, 64, .inl (fun _ => 0))), (q2, .inl (cI, 200, .inl (fun _ => 0))), (q3, .inl (cI, 269, .inl (fun _ => 0))), (q4, .inl (cI, 269, .inl (fun _ => 0)))] H := hP
  have hD : va_D A [(h0, .inr (3, [.int 0, .int 0, .int 0, .ref q1, .int 0, .ref q2, .ref q3, .null, .null, .null, .null, .int 0, .int 0, .int 0, .int 0])), (q1, .inl (cI, 64, .inl (fun _ => 0))), (q2, .inl (cI, 200, .inl (fun _ => 0))), (q3, .inl (cI, 269, .inl (fun _ => 0))), (q4, .inl (cI, 269, .inl (fun _ => 0)))] := hD
  refine W.widen (k := 4) (n := 802) (Nat.le_of_ble_eq_true rfl) (Nat.le_of_ble_eq_true rfl) ?_
  refine va_putF (D := D) (q0 := 0) (k := 7) (v := .ref q4) (ty := .array .int) (C := R_Mo) (T := F_Mo) (N := 15) hx hb hts in_Mo t_Mo t_Mo_ok n_Mo hown hK hP hD hS rfl rfl (by decide) (hts _ fl_Mo_19) (fun _ h9 => h9) rfl hin rfl (by decide +kernel) rfl rfl (Nat.le_of_ble_eq_true rfl) d_Mo_init_36 (fun H locs hP hD hS => ?_)
  have hP : va_P D gcl [(h0, .inr (3, [.int 0, .int 0, .int 0, .ref q1, .int 0, .ref q2, .ref q3, .ref q4, .null, .null, .null, .int 0, .int 0, .int 0, .int 0])), (q1, .inl (cI, 64, .inl (fun _ => 0))), (q2, .inl (cI, 200, .inl (fun _ => 0))), (q3, .inl (cI, 269, .inl (fun _ => 0))), (q4, .inl (cI, 269, .inl (fun _ => 0)))] H := hP
  have hD : va_D A [(h0, .inr (3, [.int 0, .int 0, .int 0, .ref q1, .int 0, .ref q2, .ref q3, .ref q4, .null, .null, .null, .int 0, .int 0, .int 0, .int 0])), (q1, .inl (cI, 64, .inl (fun _ => 0))), (q2, .inl (cI, 200, .inl (fun _ => 0))), (q3, .inl (cI, 269, .inl (fun _ => 0))), (q4, .inl (cI, 269, .inl (fun _ => 0)))] := hD
  refine lv_aload_n hx hb d_Mo_init_39 rfl (lv_at hl 0 rfl) ?_
  refine lv_ldc (v := 275725) hx hb hown (hts _ co_22) d_Mo_init_40 ?_
  refine gn_arr (n := 275725) (N' := 275725) hC hK hP hD hS hA (by decide) (by decide) (by decide) (Nat.le_of_ble_eq_true rfl) (Nat.le_of_ble_eq_true rfl) d_Mo_init_42 (fun q5 H hP hD hS => ?_)
  have hP : va_P D gcl [(h0, .inr (3, [.int 0, .int 0, .int 0, .ref q1, .int 0, .ref q2, .ref q3, .ref q4, .null, .null, .null, .int 0, .int 0, .int 0, .int 0])), (q1, .inl (cI, 64, .inl (fun _ => 0))), (q2, .inl (cI, 200, .inl (fun _ => 0))), (q3, .inl (cI, 269, .inl (fun _ => 0))), (q4, .inl (cI, 269, .inl (fun _ => 0))), (q5, .inl (cI, 275725, .inl (fun _ => 0)))] H := hP
  have hD : va_D A [(h0, .inr (3, [.int 0, .int 0, .int 0, .ref q1, .int 0, .ref q2, .ref q3, .ref q4, .null, .null, .null, .int 0, .int 0, .int 0, .int 0])), (q1, .inl (cI, 64, .inl (fun _ => 0))), (q2, .inl (cI, 200, .inl (fun _ => 0))), (q3, .inl (cI, 269, .inl (fun _ => 0))), (q4, .inl (cI, 269, .inl (fun _ => 0))), (q5, .inl (cI, 275725, .inl (fun _ => 0)))] := hD
  refine W.widen (k := 5) (n := 276527) (Nat.le_of_ble_eq_true rfl) (Nat.le_of_ble_eq_true rfl) ?_
  refine va_putF (D := D) (q0 := 0) (k := 8) (v := .ref q5) (ty := .array .int) (C := R_Mo) (T := F_Mo) (N := 15) hx hb hts in_Mo t_Mo t_Mo_ok n_Mo hown hK hP hD hS rfl rfl (by decide) (hts _ fl_Mo_23) (fun _ h9 => h9) rfl hin rfl (by decide +kernel) rfl rfl (Nat.le_of_ble_eq_true rfl) d_Mo_init_44 (fun H locs hP hD hS => ?_)
  have hP : va_P D gcl [(h0, .inr (3, [.int 0, .int 0, .int 0, .ref q1, .int 0, .ref q2, .ref q3, .ref q4, .ref q5, .null, .null, .int 0, .int 0, .int 0, .int 0])), (q1, .inl (cI, 64, .inl (fun _ => 0))), (q2, .inl (cI, 200, .inl (fun _ => 0))), (q3, .inl (cI, 269, .inl (fun _ => 0))), (q4, .inl (cI, 269, .inl (fun _ => 0))), (q5, .inl (cI, 275725, .inl (fun _ => 0)))] H := hP
  have hD : va_D A [(h0, .inr (3, [.int 0, .int 0, .int 0, .ref q1, .int 0, .ref q2, .ref q3, .ref q4, .ref q5, .null, .null, .int 0, .int 0, .int 0, .int 0])), (q1, .inl (cI, 64, .inl (fun _ => 0))), (q2, .inl (cI, 200, .inl (fun _ => 0))), (q3, .inl (cI, 269, .inl (fun _ => 0))), (q4, .inl (cI, 269, .inl (fun _ => 0))), (q5, .inl (cI, 275725, .inl (fun _ => 0)))] := hD
  refine lv_aload_n hx hb d_Mo_init_47 rfl (lv_at hl 0 rfl) ?_
  refine lv_sipush (v := 1025) hx hb d_Mo_init_48 (by decide) ?_
  refine gn_arr (n := 1025) (N' := 1025) hC hK hP hD hS hA (by decide) (by decide) (by decide) (Nat.le_of_ble_eq_true rfl) (Nat.le_of_ble_eq_true rfl) d_Mo_init_51 (fun q6 H hP hD hS => ?_)
  have hP : va_P D gcl [(h0, .inr (3, [.int 0, .int 0, .int 0, .ref q1, .int 0, .ref q2, .ref q3, .ref q4, .ref q5, .null, .null, .int 0, .int 0, .int 0, .int 0])), (q1, .inl (cI, 64, .inl (fun _ => 0))), (q2, .inl (cI, 200, .inl (fun _ => 0))), (q3, .inl (cI, 269, .inl (fun _ => 0))), (q4, .inl (cI, 269, .inl (fun _ => 0))), (q5, .inl (cI, 275725, .inl (fun _ => 0))), (q6, .inl (cI, 1025, .inl (fun _ => 0)))] H := hP
  have hD : va_D A [(h0, .inr (3, [.int 0, .int 0, .int 0, .ref q1, .int 0, .ref q2, .ref q3, .ref q4, .ref q5, .null, .null, .int 0, .int 0, .int 0, .int 0])), (q1, .inl (cI, 64, .inl (fun _ => 0))), (q2, .inl (cI, 200, .inl (fun _ => 0))), (q3, .inl (cI, 269, .inl (fun _ => 0))), (q4, .inl (cI, 269, .inl (fun _ => 0))), (q5, .inl (cI, 275725, .inl (fun _ => 0))), (q6, .inl (cI, 1025, .inl (fun _ => 0)))] := hD
  refine W.widen (k := 6) (n := 277552) (Nat.le_of_ble_eq_true rfl) (Nat.le_of_ble_eq_true rfl) ?_
  refine va_putF (D := D) (q0 := 0) (k := 9) (v := .ref q6) (ty := .array .int) (C := R_Mo) (T := F_Mo) (N := 15) hx hb hts in_Mo t_Mo t_Mo_ok n_Mo hown hK hP hD hS rfl rfl (by decide) (hts _ fl_Mo_26) (fun _ h9 => h9) rfl hin rfl (by decide +kernel) rfl rfl (Nat.le_of_ble_eq_true rfl) d_Mo_init_53 (fun H locs hP hD hS => ?_)
  have hP : va_P D gcl [(h0, .inr (3, [.int 0, .int 0, .int 0, .ref q1, .int 0, .ref q2, .ref q3, .ref q4, .ref q5, .ref q6, .null, .int 0, .int 0, .int 0, .int 0])), (q1, .inl (cI, 64, .inl (fun _ => 0))), (q2, .inl (cI, 200, .inl (fun _ => 0))), (q3, .inl (cI, 269, .inl (fun _ => 0))), (q4, .inl (cI, 269, .inl (fun _ => 0))), (q5, .inl (cI, 275725, .inl (fun _ => 0))), (q6, .inl (cI, 1025, .inl (fun _ => 0)))] H := hP
  have hD : va_D A [(h0, .inr (3, [.int 0, .int 0, .int 0, .ref q1, .int 0, .ref q2, .ref q3, .ref q4, .ref q5, .ref q6, .null, .int 0, .int 0, .int 0, .int 0])), (q1, .inl (cI, 64, .inl (fun _ => 0))), (q2, .inl (cI, 200, .inl (fun _ => 0))), (q3, .inl (cI, 269, .inl (fun _ => 0))), (q4, .inl (cI, 269, .inl (fun _ => 0))), (q5, .inl (cI, 275725, .inl (fun _ => 0))), (q6, .inl (cI, 1025, .inl (fun _ => 0)))] := hD
  refine lv_aload_n hx hb d_Mo_init_56 rfl (lv_at hl 0 rfl) ?_
  refine lv_sipush (v := 1025) hx hb d_Mo_init_57 (by decide) ?_
  refine gn_arr (n := 1025) (N' := 1025) hC hK hP hD hS hA (by decide) (by decide) (by decide) (Nat.le_of_ble_eq_true rfl) (Nat.le_of_ble_eq_true rfl) d_Mo_init_60 (fun q7 H hP hD hS => ?_)
  have hP : va_P D gcl [(h0, .inr (3, [.int 0, .int 0, .int 0, .ref q1, .int 0, .ref q2, .ref q3, .ref q4, .ref q5, .ref q6, .null, .int 0, .int 0, .int 0, .int 0])), (q1, .inl (cI, 64, .inl (fun _ => 0))), (q2, .inl (cI, 200, .inl (fun _ => 0))), (q3, .inl (cI, 269, .inl (fun _ => 0))), (q4, .inl (cI, 269, .inl (fun _ => 0))), (q5, .inl (cI, 275725, .inl (fun _ => 0))), (q6, .inl (cI, 1025, .inl (fun _ => 0))), (q7, .inl (cI, 1025, .inl (fun _ => 0)))] H := hP
  have hD : va_D A [(h0, .inr (3, [.int 0, .int 0, .int 0, .ref q1, .int 0, .ref q2, .ref q3, .ref q4, .ref q5, .ref q6, .null, .int 0, .int 0, .int 0, .int 0])), (q1, .inl (cI, 64, .inl (fun _ => 0))), (q2, .inl (cI, 200, .inl (fun _ => 0))), (q3, .inl (cI, 269, .inl (fun _ => 0))), (q4, .inl (cI, 269, .inl (fun _ => 0))), (q5, .inl (cI, 275725, .inl (fun _ => 0))), (q6, .inl (cI, 1025, .inl (fun _ => 0))), (q7, .inl (cI, 1025, .inl (fun _ => 0)))] := hD
  refine W.widen (k := 7) (n := 278577) (Nat.le_of_ble_eq_true rfl) (Nat.le_of_ble_eq_true rfl) ?_
  refine va_putF (D := D) (q0 := 0) (k := 10) (v := .ref q7) (ty := .array .int) (C := R_Mo) (T := F_Mo) (N := 15) hx hb hts in_Mo t_Mo t_Mo_ok n_Mo hown hK hP hD hS rfl rfl (by decide) (hts _ fl_Mo_29) (fun _ h9 => h9) rfl hin rfl (by decide +kernel) rfl rfl (Nat.le_of_ble_eq_true rfl) d_Mo_init_62 (fun H locs hP hD hS => ?_)
  have hP : va_P D gcl [(h0, .inr (3, [.int 0, .int 0, .int 0, .ref q1, .int 0, .ref q2, .ref q3, .ref q4, .ref q5, .ref q6, .ref q7, .int 0, .int 0, .int 0, .int 0])), (q1, .inl (cI, 64, .inl (fun _ => 0))), (q2, .inl (cI, 200, .inl (fun _ => 0))), (q3, .inl (cI, 269, .inl (fun _ => 0))), (q4, .inl (cI, 269, .inl (fun _ => 0))), (q5, .inl (cI, 275725, .inl (fun _ => 0))), (q6, .inl (cI, 1025, .inl (fun _ => 0))), (q7, .inl (cI, 1025, .inl (fun _ => 0)))] H := hP
  have hD : va_D A [(h0, .inr (3, [.int 0, .int 0, .int 0, .ref q1, .int 0, .ref q2, .ref q3, .ref q4, .ref q5, .ref q6, .ref q7, .int 0, .int 0, .int 0, .int 0])), (q1, .inl (cI, 64, .inl (fun _ => 0))), (q2, .inl (cI, 200, .inl (fun _ => 0))), (q3, .inl (cI, 269, .inl (fun _ => 0))), (q4, .inl (cI, 269, .inl (fun _ => 0))), (q5, .inl (cI, 275725, .inl (fun _ => 0))), (q6, .inl (cI, 1025, .inl (fun _ => 0))), (q7, .inl (cI, 1025, .inl (fun _ => 0)))] := hD
  refine lv_aload_n hx hb d_Mo_init_65 rfl (lv_at hl 0 rfl) ?_
  refine lv_iconst (v := 4) hx hb d_Mo_init_66 (by decide) ?_
  refine lv_iload_n hx hb d_Mo_init_67 rfl (lv_at hl 1 rfl) ?_
  refine lv_sipush (v := 1021) hx hb d_Mo_init_68 (by decide) ?_
  refine W.callR (W.runS (As := [.int p1, .int 1021]) (rest := [.int 4, .ref h0]) hC (q_Mo_modulo l (fun _ _ => 0) p1 1021 ⟨by decide, by decide, trivial⟩) (va_cwS 2 hts (g_goodS key_Mo_modulo sta_Mo_modulo ml_Mo_32) rfl rfl rfl (by decide +kernel) ⟨Nat.le_of_ble_eq_true rfl, Nat.le_of_ble_eq_true rfl⟩) preEq rfl rfl hl.1 rfl (lv_room (Nat.le_of_ble_eq_true rfl)) d_Mo_init_71 ⟨Nat.le_of_ble_eq_true rfl, Nat.le_of_ble_eq_true rfl⟩) ?_
  refine W.eq (g2 := F0 m 74 ls (.int (f_Mo_modulo (fun _ _ => 0) p1 1021) :: [.int 4, .ref h0])) rfl ?_
  refine lv_iadd hx hb d_Mo_init_74 ?_
  refine va_putF (D := D) (q0 := 0) (k := 1) (v := .int ((4 : Int32) + (f_Mo_modulo (fun _ _ => 0) p1 1021))) (ty := .int) (C := R_Mo) (T := F_Mo) (N := 15) hx hb hts in_Mo t_Mo t_Mo_ok n_Mo hown hK hP hD hS rfl rfl (by decide) (hts _ fl_Mo_36) (fun _ h9 => h9) rfl hin rfl (by decide +kernel) rfl rfl (Nat.le_of_ble_eq_true rfl) d_Mo_init_75 (fun H locs hP hD hS => ?_)
  have hP : va_P D gcl [(h0, .inr (3, [.int 0, .int ((4 : Int32) + (f_Mo_modulo (fun _ _ => 0) p1 1021)), .int 0, .ref q1, .int 0, .ref q2, .ref q3, .ref q4, .ref q5, .ref q6, .ref q7, .int 0, .int 0, .int 0, .int 0])), (q1, .inl (cI, 64, .inl (fun _ => 0))), (q2, .inl (cI, 200, .inl (fun _ => 0))), (q3, .inl (cI, 269, .inl (fun _ => 0))), (q4, .inl (cI, 269, .inl (fun _ => 0))), (q5, .inl (cI, 275725, .inl (fun _ => 0))), (q6, .inl (cI, 1025, .inl (fun _ => 0))), (q7, .inl (cI, 1025, .inl (fun _ => 0)))] H := hP
  have hD : va_D A [(h0, .inr (3, [.int 0, .int ((4 : Int32) + (f_Mo_modulo (fun _ _ => 0) p1 1021)), .int 0, .ref q1, .int 0, .ref q2, .ref q3, .ref q4, .ref q5, .ref q6, .ref q7, .int 0, .int 0, .int 0, .int 0])), (q1, .inl (cI, 64, .inl (fun _ => 0))), (q2, .inl (cI, 200, .inl (fun _ => 0))), (q3, .inl (cI, 269, .inl (fun _ => 0))), (q4, .inl (cI, 269, .inl (fun _ => 0))), (q5, .inl (cI, 275725, .inl (fun _ => 0))), (q6, .inl (cI, 1025, .inl (fun _ => 0))), (q7, .inl (cI, 1025, .inl (fun _ => 0)))] := hD
  refine lv_aload_n hx hb d_Mo_init_78 rfl (lv_at hl 0 rfl) ?_
  refine lv_iconst (v := 1) hx hb d_Mo_init_79 (by decide) ?_
  refine lv_iload_n hx hb d_Mo_init_80 rfl (lv_at hl 2 rfl) ?_
  refine lv_bipush (v := 63) hx hb d_Mo_init_81 (by decide) ?_
  refine lv_iand hx hb d_Mo_init_83 ?_
  refine lv_iadd hx hb d_Mo_init_84 ?_
  refine va_putF (D := D) (q0 := 0) (k := 2) (v := .int ((1 : Int32) + (p2 &&& (63 : Int32)))) (ty := .int) (C := R_Mo) (T := F_Mo) (N := 15) hx hb hts in_Mo t_Mo t_Mo_ok n_Mo hown hK hP hD hS rfl rfl (by decide) (hts _ fl_Mo_40) (fun _ h9 => h9) rfl hin rfl (by decide +kernel) rfl rfl (Nat.le_of_ble_eq_true rfl) d_Mo_init_85 (fun H locs hP hD hS => ?_)
  have hP : va_P D gcl [(h0, .inr (3, [.int 0, .int ((4 : Int32) + (f_Mo_modulo (fun _ _ => 0) p1 1021)), .int ((1 : Int32) + (p2 &&& (63 : Int32))), .ref q1, .int 0, .ref q2, .ref q3, .ref q4, .ref q5, .ref q6, .ref q7, .int 0, .int 0, .int 0, .int 0])), (q1, .inl (cI, 64, .inl (fun _ => 0))), (q2, .inl (cI, 200, .inl (fun _ => 0))), (q3, .inl (cI, 269, .inl (fun _ => 0))), (q4, .inl (cI, 269, .inl (fun _ => 0))), (q5, .inl (cI, 275725, .inl (fun _ => 0))), (q6, .inl (cI, 1025, .inl (fun _ => 0))), (q7, .inl (cI, 1025, .inl (fun _ => 0)))] H := hP
  have hD : va_D A [(h0, .inr (3, [.int 0, .int ((4 : Int32) + (f_Mo_modulo (fun _ _ => 0) p1 1021)), .int ((1 : Int32) + (p2 &&& (63 : Int32))), .ref q1, .int 0, .ref q2, .ref q3, .ref q4, .ref q5, .ref q6, .ref q7, .int 0, .int 0, .int 0, .int 0])), (q1, .inl (cI, 64, .inl (fun _ => 0))), (q2, .inl (cI, 200, .inl (fun _ => 0))), (q3, .inl (cI, 269, .inl (fun _ => 0))), (q4, .inl (cI, 269, .inl (fun _ => 0))), (q5, .inl (cI, 275725, .inl (fun _ => 0))), (q6, .inl (cI, 1025, .inl (fun _ => 0))), (q7, .inl (cI, 1025, .inl (fun _ => 0)))] := hD
  have hP9 := hP.sub (ws' := (gwm (fun k => match k with | 16 => h0 | 17 => q1 | 18 => q2 | 19 => q3 | 20 => q4 | 21 => q5 | 22 => q6 | _ => q7) cI (G0m p1 p2))) [0, 1, 2, 3, 4, 5, 6, 7] rfl
  have hD9 := hD.sub (ws' := (gwm (fun k => match k with | 16 => h0 | 17 => q1 | 18 => q2 | 19 => q3 | 20 => q4 | 21 => q5 | 22 => q6 | _ => q7) cI (G0m p1 p2))) [0, 1, 2, 3, 4, 5, 6, 7] (by decide) rfl
  refine W.widen (k := 7) (n := 278577) (Nat.le_of_ble_eq_true rfl) (Nat.le_of_ble_eq_true rfl) ?_
  exact W.vret hx hb hr (fun t ht hW => ⟨⟨(fun k => match k with | 16 => h0 | 17 => q1 | 18 => q2 | 19 => q3 | 20 => q4 | 21 => q5 | 22 => q6 | _ => q7), rfl, rfl, by rw [ht]; exact hP9, va_K.moved hW.alike hK, hD9⟩, hS.F ht⟩) hS.2.2 d_Mo_init_88
