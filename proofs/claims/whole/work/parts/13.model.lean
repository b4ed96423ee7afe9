theorem z_Mo_within (G : gT) (p0 p1 p2 : Int32) : f_Mo_within G p0 p1 p2 = 0 ∨ f_Mo_within G p0 p1 p2 = 1 := by
  unfold f_Mo_within
  repeat' split
  all_goals first | exact Or.inl rfl | exact Or.inr rfl
abbrev rm_Mo_stateAt : Room := { frames := 1, cells := 0, slots := 0, locals := 14 }
def f_Mo_stateAt (G : gT) (p1 : Int32) (p2 : Int32) : Int32 := (if p1 = (G 16 11) then (G 19 p2.toNatClampNeg) else (G 21 ((((269 : Int32) * (f_Mo_slot G p1)) + p2).toNatClampNeg)))
def ok_Mo_stateAt (G : gT) (p1 : Int32) (p2 : Int32) : Prop := ((p1 = (G 16 11) → (vp_in p2 269 ∧ True)) ∧ (¬ p1 = (G 16 11) → (vp_in (((269 : Int32) * (f_Mo_slot G p1)) + p2) 275725 ∧ True)))
set_option maxHeartbeats 4000000 in
set_option maxRecDepth 100000 in
theorem c_Mo_stateAt (l : Launch) (G : gT) (p1 : Int32) (p2 : Int32) (O : Int64) (hok : ok_Mo_stateAt G p1 p2) : gMet l y_Mo_stateAt w_Mo_stateAt rm_Mo_stateAt (fun ad => [.ref (ad 16), .int p1, .int p2]) G O (.inl (some (.int (f_Mo_stateAt G p1 p2)))) G O := by
  refine g_body (by decide) (gCode_of _ _ _ _) (fun ad => by simp [lg_sl, Value.category]) ?_
  intro p e s0 s m args below meth c D cI cL ad hC hr hlk htb hB ls hl
  have hC : CallFix p m c b_Mo_stateAt 3 s args gtb R_Mo := hC
  have hl : lv_has ls 3 [(0, .ref (ad 16)), (1, .int p1), (2, .int p2)] := hl
  have hx := hC.1
  have hb := hC.2.1
  have hf : f_Mo_stateAt G p1 p2 = (if p1 = (G 16 11) then (G 19 p2.toNatClampNeg) else (G 21 ((((269 : Int32) * (f_Mo_slot G p1)) + p2).toNatClampNeg))) := rfl
  have hok : ((p1 = (G 16 11) → (vp_in p2 269 ∧ True)) ∧ (¬ p1 = (G 16 11) → (vp_in (((269 : Int32) * (f_Mo_slot G p1)) + p2) 275725 ∧ True))) := hok
  refine lv_iload_n hx hb d_Mo_stateAt_0 rfl (lv_at hl 1 rfl) ?_
  refine lv_aload_n hx hb d_Mo_stateAt_1 rfl (lv_at hl 0 rfl) ?_
  refine gg_16_11 (x := (G 16 11)) hC hB rfl fl_Mo_57 d_Mo_stateAt_2 ?_
  refine lv_icmp_ne (tgt := 17) hx hb d_Mo_stateAt_5 (by decide) (fun c1 => ?_) (fun c1 => ?_)
  · replace hf := hf.trans (if_neg c1)
    replace hok := hok.2 c1
    refine lv_aload_n hx hb d_Mo_stateAt_17 rfl (lv_at hl 0 rfl) ?_
    refine gr_16_8 hC hB fl_Mo_23 d_Mo_stateAt_18 ?_
    refine lv_sipush (v := 269) hx hb d_Mo_stateAt_21 (by decide) ?_
    refine lv_iload_n hx hb d_Mo_stateAt_24 rfl (lv_at hl 1 rfl) ?_
    refine g_callSi (As := [.int p1]) (rest := [.int 269, .ref (ad 21)]) hC hB (c_Mo_slot l G p1 O) rfl key_Mo_slot rfl sta_Mo_slot ml_Mo_60 rfl hl.1 ⟨Nat.le_of_ble_eq_true rfl, Nat.le_of_ble_eq_true rfl, Nat.le_of_ble_eq_true rfl, Nat.le_of_ble_eq_true rfl⟩ d_Mo_stateAt_25 (fun H locs hB => ?_)
    refine lv_imul hx hb d_Mo_stateAt_28 ?_
    refine lv_iload_n hx hb d_Mo_stateAt_29 rfl (lv_at hl 2 rfl) ?_
    refine lv_iadd hx hb d_Mo_stateAt_30 ?_
    refine ga_21 (x := (G 21 ((((269 : Int32) * (f_Mo_slot G p1)) + p2).toNatClampNeg))) hC hB hok.1 rfl d_Mo_stateAt_31 ?_
    replace hok := hok.2
    exact g_iret hC hB hr hlk (by decide) (by decide) (by rw [hf]) rfl d_Mo_stateAt_32
  · replace hf := hf.trans (if_pos c1)
    replace hok := hok.1 c1
    refine lv_aload_n hx hb d_Mo_stateAt_8 rfl (lv_at hl 0 rfl) ?_
    refine gr_16_6 hC hB fl_Mo_16 d_Mo_stateAt_9 ?_
    refine lv_iload_n hx hb d_Mo_stateAt_12 rfl (lv_at hl 2 rfl) ?_
    refine ga_19 (x := (G 19 p2.toNatClampNeg)) hC hB hok.1 rfl d_Mo_stateAt_13 ?_
    replace hok := hok.2
    refine lv_goto (tgt := 32) hx hb d_Mo_stateAt_14 (by decide) ?_
    exact g_iret hC hB hr hlk (by decide) (by decide) (by rw [hf]) rfl d_Mo_stateAt_32
abbrev rm_Mo_program : Room := { frames := 1, cells := 0, slots := 0, locals := 14 }
def f_Mo_program (G : gT) (p1 : Int32) (p2 : Int32) : Int32 × gT := (if (f_Mo_within (g_up G 16 0 0) p1 0 63) = 0 then ((f_Mo_fail (g_up G 16 0 0) 1).1, (f_Mo_fail (g_up G 16 0 0) 1).2) else ((G 17 p1.toNatClampNeg), (g_up (g_up G 16 0 0) 17 p1.toNatClampNeg p2)))
def ok_Mo_program (G : gT) (p1 : Int32) (p2 : Int32) : Prop := (((f_Mo_within (g_up G 16 0 0) p1 0 63) = 0 → True) ∧ (¬ (f_Mo_within (g_up G 16 0 0) p1 0 63) = 0 → (vp_in p1 64 ∧ (vp_in p1 64 ∧ True))))
set_option maxHeartbeats 4000000 in
set_option maxRecDepth 100000 in
theorem c_Mo_program (l : Launch) (G : gT) (p1 : Int32) (p2 : Int32) (O : Int64) (hok : ok_Mo_program G p1 p2) : gMet l y_Mo_program w_Mo_program rm_Mo_program (fun ad => [.ref (ad 16), .int p1, .int p2]) G O (.inl (some (.int (f_Mo_program G p1 p2).1))) ((f_Mo_program G p1 p2).2) O := by
  refine g_body (by decide) (gCode_of _ _ _ _) (fun ad => by simp [lg_sl, Value.category]) ?_
  intro p e s0 s m args below meth c D cI cL ad hC hr hlk htb hB ls hl
  have hC : CallFix p m c b_Mo_program 4 s args gtb R_Mo := hC
  have hl : lv_has ls 4 [(0, .ref (ad 16)), (1, .int p1), (2, .int p2)] := hl
  have hx := hC.1
  have hb := hC.2.1
  have hf : f_Mo_program G p1 p2 = (if (f_Mo_within (g_up G 16 0 0) p1 0 63) = 0 then ((f_Mo_fail (g_up G 16 0 0) 1).1, (f_Mo_fail (g_up G 16 0 0) 1).2) else ((G 17 p1.toNatClampNeg), (g_up (g_up G 16 0 0) 17 p1.toNatClampNeg p2))) := rfl
  have hok : (((f_Mo_within (g_up G 16 0 0) p1 0 63) = 0 → True) ∧ (¬ (f_Mo_within (g_up G 16 0 0) p1 0 63) = 0 → (vp_in p1 64 ∧ (vp_in p1 64 ∧ True)))) := hok
  refine lv_aload_n hx hb d_Mo_program_0 rfl (lv_at hl 0 rfl) ?_
  refine lv_iconst (v := 0) hx hb d_Mo_program_1 (by decide) ?_
  refine gp_16_0 hC hB fl_Mo_43 d_Mo_program_2 (fun H locs hB => ?_)
  refine lv_iload_n hx hb d_Mo_program_5 rfl (lv_at hl 1 rfl) ?_
  refine lv_iconst (v := 0) hx hb d_Mo_program_6 (by decide) ?_
  refine lv_bipush (v := 63) hx hb d_Mo_program_7 (by decide) ?_
  refine g_callSi (As := [.int p1, .int 0, .int 63]) (rest := []) hC hB (c_Mo_within l (g_up G 16 0 0) p1 0 63 O) rfl key_Mo_within rfl sta_Mo_within ml_Mo_46 rfl hl.1 ⟨Nat.le_of_ble_eq_true rfl, Nat.le_of_ble_eq_true rfl, Nat.le_of_ble_eq_true rfl, Nat.le_of_ble_eq_true rfl⟩ d_Mo_program_9 (fun H locs hB => ?_)
  refine lv_if_ne (tgt := 21) hx hb d_Mo_program_12 (by decide) (fun c1 => ?_) (fun c1 => ?_)
  · replace hf := hf.trans (if_neg c1)
    replace hok := hok.2 c1
    refine lv_aload_n hx hb d_Mo_program_21 rfl (lv_at hl 0 rfl) ?_
    refine gr_16_3 hC hB fl_Mo_7 d_Mo_program_22 ?_
    refine lv_iload_n hx hb d_Mo_program_25 rfl (lv_at hl 1 rfl) ?_
    refine ga_17 (x := (G 17 p1.toNatClampNeg)) hC hB hok.1 rfl d_Mo_program_26 ?_
    replace hok := hok.2
    refine lv_istore_n (lv' := [(3, .int (G 17 p1.toNatClampNeg)), (0, .ref (ad 16)), (1, .int p1), (2, .int p2)]) hx hb d_Mo_program_27 rfl hl (by decide) rfl (fun ls hl => ?_)
    refine lv_aload_n hx hb d_Mo_program_28 rfl (lv_at hl 1 rfl) ?_
    refine gr_16_3 hC hB fl_Mo_7 d_Mo_program_29 ?_
    refine lv_iload_n hx hb d_Mo_program_32 rfl (lv_at hl 2 rfl) ?_
    refine lv_iload_n hx hb d_Mo_program_33 rfl (lv_at hl 3 rfl) ?_
    refine gs_17 hC hB hok.1 d_Mo_program_34 (fun H locs hB => ?_)
    replace hok := hok.2
    refine lv_iload_n hx hb d_Mo_program_35 rfl (lv_at hl 0 rfl) ?_
    exact g_iret hC hB hr hlk (by decide) (by decide) (by rw [hf]) (by rw [hf]) d_Mo_program_36
  · replace hf := hf.trans (if_pos c1)
    replace hok := hok.1 c1
    refine lv_aload_n hx hb d_Mo_program_15 rfl (lv_at hl 0 rfl) ?_
    refine lv_iconst (v := 1) hx hb d_Mo_program_16 (by decide) ?_
    refine g_callVi (b := ad 16) (As := [.int 1]) (rest := []) hC hB (c_Mo_fail l (g_up G 16 0 0) 1 O) rfl key_Mo_fail rfl ins_Mo_fail sel_Mo_fail ml_Mo_50 (g_rec16 hB) rfl hl.1 ⟨Nat.le_of_ble_eq_true rfl, Nat.le_of_ble_eq_true rfl, Nat.le_of_ble_eq_true rfl, Nat.le_of_ble_eq_true rfl⟩ d_Mo_program_17 (fun H locs hB => ?_)
    exact g_iret hC hB hr hlk (by decide) (by decide) (by rw [hf]) (by rw [hf]) d_Mo_program_20
abbrev rm_Mo_input : Room := { frames := 1, cells := 0, slots := 0, locals := 13 }
def f_Mo_input (G : gT) (p1 : Int32) : Int32 × gT := (if (G 16 4) = 200 then ((f_Mo_fail (g_up G 16 0 0) 1).1, (f_Mo_fail (g_up G 16 0 0) 1).2) else (((G 16 4) + (1 : Int32)) - (G 19 265), (g_up (g_up (g_up G 16 0 0) 18 ((G 16 4).toNatClampNeg) p1) 16 4 ((G 16 4) + (1 : Int32)))))
def ok_Mo_input (G : gT) (p1 : Int32) : Prop := (((G 16 4) = 200 → True) ∧ (¬ (G 16 4) = 200 → (vp_in (G 16 4) 200 ∧ True)))
set_option maxHeartbeats 4000000 in
set_option maxRecDepth 100000 in
theorem c_Mo_input (l : Launch) (G : gT) (p1 : Int32) (O : Int64) (hok : ok_Mo_input G p1) : gMet l y_Mo_input w_Mo_input rm_Mo_input (fun ad => [.ref (ad 16), .int p1]) G O (.inl (some (.int (f_Mo_input G p1).1))) ((f_Mo_input G p1).2) O := by
  refine g_body (by decide) (gCode_of _ _ _ _) (fun ad => by simp [lg_sl, Value.category]) ?_
  intro p e s0 s m args below meth c D cI cL ad hC hr hlk htb hB ls hl
  have hC : CallFix p m c b_Mo_input 2 s args gtb R_Mo := hC
  have hl : lv_has ls 2 [(0, .ref (ad 16)), (1, .int p1)] := hl
  have hx := hC.1
  have hb := hC.2.1
  have hf : f_Mo_input G p1 = (if (G 16 4) = 200 then ((f_Mo_fail (g_up G 16 0 0) 1).1, (f_Mo_fail (g_up G 16 0 0) 1).2) else (((G 16 4) + (1 : Int32)) - (G 19 265), (g_up (g_up (g_up G 16 0 0) 18 ((G 16 4).toNatClampNeg) p1) 16 4 ((G 16 4) + (1 : Int32))))) := rfl
  have hok : (((G 16 4) = 200 → True) ∧ (¬ (G 16 4) = 200 → (vp_in (G 16 4) 200 ∧ True))) := hok
  refine lv_aload_n hx hb d_Mo_input_0 rfl (lv_at hl 0 rfl) ?_
  refine lv_iconst (v := 0) hx hb d_Mo_input_1 (by decide) ?_
  refine gp_16_0 hC hB fl_Mo_43 d_Mo_input_2 (fun H locs hB => ?_)
  refine lv_aload_n hx hb d_Mo_input_5 rfl (lv_at hl 0 rfl) ?_
  refine gg_16_4 (x := (G 16 4)) hC hB rfl fl_Mo_54 d_Mo_input_6 ?_
  refine lv_sipush (v := 200) hx hb d_Mo_input_9 (by decide) ?_
  refine lv_icmp_ne (tgt := 21) hx hb d_Mo_input_12 (by decide) (fun c1 => ?_) (fun c1 => ?_)
  · replace hf := hf.trans (if_neg c1)
    replace hok := hok.2 c1
    refine lv_aload_n hx hb d_Mo_input_21 rfl (lv_at hl 0 rfl) ?_
    refine gr_16_5 hC hB fl_Mo_13 d_Mo_input_22 ?_
    refine lv_aload_n hx hb d_Mo_input_25 rfl (lv_at hl 0 rfl) ?_
    refine gg_16_4 (x := (G 16 4)) hC hB rfl fl_Mo_54 d_Mo_input_26 ?_
    refine lv_iload_n hx hb d_Mo_input_29 rfl (lv_at hl 1 rfl) ?_
    refine gs_18 hC hB hok.1 d_Mo_input_30 (fun H locs hB => ?_)
    replace hok := hok.2
    refine lv_aload_n hx hb d_Mo_input_31 rfl (lv_at hl 0 rfl) ?_
    refine lv_dup hx hb d_Mo_input_32 rfl ?_
    refine gg_16_4 (x := (G 16 4)) hC hB rfl fl_Mo_54 d_Mo_input_33 ?_
    refine lv_iconst (v := 1) hx hb d_Mo_input_36 (by decide) ?_
    refine lv_iadd hx hb d_Mo_input_37 ?_
    refine gp_16_4 hC hB fl_Mo_54 d_Mo_input_38 (fun H locs hB => ?_)
    refine lv_aload_n hx hb d_Mo_input_41 rfl (lv_at hl 0 rfl) ?_
    refine gg_16_4 (x := (G 16 4) + (1 : Int32)) hC hB rfl fl_Mo_54 d_Mo_input_42 ?_
    refine lv_aload_n hx hb d_Mo_input_45 rfl (lv_at hl 0 rfl) ?_
    refine gr_16_6 hC hB fl_Mo_16 d_Mo_input_46 ?_
    refine lv_sipush (v := 265) hx hb d_Mo_input_49 (by decide) ?_
    refine ga_19 (x := (G 19 265)) hC hB (by unfold vp_in; decide) rfl d_Mo_input_52 ?_
    refine lv_isub hx hb d_Mo_input_53 ?_
    exact g_iret hC hB hr hlk (by decide) (by decide) (by rw [hf]) (by rw [hf]) d_Mo_input_54
  · replace hf := hf.trans (if_pos c1)
    replace hok := hok.1 c1
    refine lv_aload_n hx hb d_Mo_input_15 rfl (lv_at hl 0 rfl) ?_
    refine lv_iconst (v := 1) hx hb d_Mo_input_16 (by decide) ?_
    refine g_callVi (b := ad 16) (As := [.int 1]) (rest := []) hC hB (c_Mo_fail l (g_up G 16 0 0) 1 O) rfl key_Mo_fail rfl ins_Mo_fail sel_Mo_fail ml_Mo_50 (g_rec16 hB) rfl hl.1 ⟨Nat.le_of_ble_eq_true rfl, Nat.le_of_ble_eq_true rfl, Nat.le_of_ble_eq_true rfl, Nat.le_of_ble_eq_true rfl⟩ d_Mo_input_17 (fun H locs hB => ?_)
    exact g_iret hC hB hr hlk (by decide) (by decide) (by rw [hf]) (by rw [hf]) d_Mo_input_20
abbrev rm_Mo_poke : Room := { frames := 1, cells := 0, slots := 0, locals := 14 }
def f_Mo_poke (G : gT) (p1 : Int32) (p2 : Int32) : Int32 × gT := (if (f_Mo_within (g_up G 16 0 0) p1 0 263) = 0 then ((f_Mo_fail (g_up G 16 0 0) 1).1, (f_Mo_fail (g_up G 16 0 0) 1).2) else ((G 19 p1.toNatClampNeg), (g_up (g_up (g_up (g_up G 16 0 0) 19 p1.toNatClampNeg p2) 16 13 ((G 16 13) + ((G 16 11) - (G 16 12)))) 16 12 (G 16 11))))
def ok_Mo_poke (G : gT) (p1 : Int32) (p2 : Int32) : Prop := (((f_Mo_within (g_up G 16 0 0) p1 0 263) = 0 → True) ∧ (¬ (f_Mo_within (g_up G 16 0 0) p1 0 263) = 0 → (vp_in p1 269 ∧ (vp_in p1 269 ∧ True))))
set_option maxHeartbeats 4000000 in
set_option maxRecDepth 100000 in
theorem c_Mo_poke (l : Launch) (G : gT) (p1 : Int32) (p2 : Int32) (O : Int64) (hok : ok_Mo_poke G p1 p2) : gMet l y_Mo_poke w_Mo_poke rm_Mo_poke (fun ad => [.ref (ad 16), .int p1, .int p2]) G O (.inl (some (.int (f_Mo_poke G p1 p2).1))) ((f_Mo_poke G p1 p2).2) O := by
  refine g_body (by decide) (gCode_of _ _ _ _) (fun ad => by simp [lg_sl, Value.category]) ?_
  intro p e s0 s m args below meth c D cI cL ad hC hr hlk htb hB ls hl
  have hC : CallFix p m c b_Mo_poke 4 s args gtb R_Mo := hC
  have hl : lv_has ls 4 [(0, .ref (ad 16)), (1, .int p1), (2, .int p2)] := hl
  have hx := hC.1
  have hb := hC.2.1
  have hf : f_Mo_poke G p1 p2 = (if (f_Mo_within (g_up G 16 0 0) p1 0 263) = 0 then ((f_Mo_fail (g_up G 16 0 0) 1).1, (f_Mo_fail (g_up G 16 0 0) 1).2) else ((G 19 p1.toNatClampNeg), (g_up (g_up (g_up (g_up G 16 0 0) 19 p1.toNatClampNeg p2) 16 13 ((G 16 13) + ((G 16 11) - (G 16 12)))) 16 12 (G 16 11)))) := rfl
  have hok : (((f_Mo_within (g_up G 16 0 0) p1 0 263) = 0 → True) ∧ (¬ (f_Mo_within (g_up G 16 0 0) p1 0 263) = 0 → (vp_in p1 269 ∧ (vp_in p1 269 ∧ True)))) := hok
  refine lv_aload_n hx hb d_Mo_poke_0 rfl (lv_at hl 0 rfl) ?_
  refine lv_iconst (v := 0) hx hb d_Mo_poke_1 (by decide) ?_
  refine gp_16_0 hC hB fl_Mo_43 d_Mo_poke_2 (fun H locs hB => ?_)
  refine lv_iload_n hx hb d_Mo_poke_5 rfl (lv_at hl 1 rfl) ?_
  refine lv_iconst (v := 0) hx hb d_Mo_poke_6 (by decide) ?_
  refine lv_sipush (v := 263) hx hb d_Mo_poke_7 (by decide) ?_
  refine g_callSi (As := [.int p1, .int 0, .int 263]) (rest := []) hC hB (c_Mo_within l (g_up G 16 0 0) p1 0 263 O) rfl key_Mo_within rfl sta_Mo_within ml_Mo_46 rfl hl.1 ⟨Nat.le_of_ble_eq_true rfl, Nat.le_of_ble_eq_true rfl, Nat.le_of_ble_eq_true rfl, Nat.le_of_ble_eq_true rfl⟩ d_Mo_poke_10 (fun H locs hB => ?_)
  refine lv_if_ne (tgt := 22) hx hb d_Mo_poke_13 (by decide) (fun c1 => ?_) (fun c1 => ?_)
  · replace hf := hf.trans (if_neg c1)
    replace hok := hok.2 c1
    refine lv_aload_n hx hb d_Mo_poke_22 rfl (lv_at hl 0 rfl) ?_
    refine gr_16_6 hC hB fl_Mo_16 d_Mo_poke_23 ?_
    refine lv_iload_n hx hb d_Mo_poke_26 rfl (lv_at hl 1 rfl) ?_
    refine ga_19 (x := (G 19 p1.toNatClampNeg)) hC hB hok.1 rfl d_Mo_poke_27 ?_
    replace hok := hok.2
    refine lv_istore_n (lv' := [(3, .int (G 19 p1.toNatClampNeg)), (0, .ref (ad 16)), (1, .int p1), (2, .int p2)]) hx hb d_Mo_poke_28 rfl hl (by decide) rfl (fun ls hl => ?_)
    refine lv_aload_n hx hb d_Mo_poke_29 rfl (lv_at hl 1 rfl) ?_
    refine gr_16_6 hC hB fl_Mo_16 d_Mo_poke_30 ?_
    refine lv_iload_n hx hb d_Mo_poke_33 rfl (lv_at hl 2 rfl) ?_
    refine lv_iload_n hx hb d_Mo_poke_34 rfl (lv_at hl 3 rfl) ?_
    refine gs_19 hC hB hok.1 d_Mo_poke_35 (fun H locs hB => ?_)
    replace hok := hok.2
    refine lv_aload_n hx hb d_Mo_poke_36 rfl (lv_at hl 1 rfl) ?_
    refine lv_dup hx hb d_Mo_poke_37 rfl ?_
    refine gg_16_13 (x := (G 16 13)) hC hB rfl fl_Mo_63 d_Mo_poke_38 ?_
    refine lv_aload_n hx hb d_Mo_poke_41 rfl (lv_at hl 1 rfl) ?_
    refine gg_16_11 (x := (G 16 11)) hC hB rfl fl_Mo_57 d_Mo_poke_42 ?_
    refine lv_aload_n hx hb d_Mo_poke_45 rfl (lv_at hl 1 rfl) ?_
    refine gg_16_12 (x := (G 16 12)) hC hB rfl fl_Mo_66 d_Mo_poke_46 ?_
    refine lv_isub hx hb d_Mo_poke_49 ?_
    refine lv_iadd hx hb d_Mo_poke_50 ?_
    refine gp_16_13 hC hB fl_Mo_63 d_Mo_poke_51 (fun H locs hB => ?_)
    refine lv_aload_n hx hb d_Mo_poke_54 rfl (lv_at hl 1 rfl) ?_
    refine lv_aload_n hx hb d_Mo_poke_55 rfl (lv_at hl 1 rfl) ?_
    refine gg_16_11 (x := (G 16 11)) hC hB rfl fl_Mo_57 d_Mo_poke_56 ?_
    refine gp_16_12 hC hB fl_Mo_66 d_Mo_poke_59 (fun H locs hB => ?_)
    refine lv_iload_n hx hb d_Mo_poke_62 rfl (lv_at hl 0 rfl) ?_
    exact g_iret hC hB hr hlk (by decide) (by decide) (by rw [hf]) (by rw [hf]) d_Mo_poke_63
  · replace hf := hf.trans (if_pos c1)
    replace hok := hok.1 c1
    refine lv_aload_n hx hb d_Mo_poke_16 rfl (lv_at hl 0 rfl) ?_
    refine lv_iconst (v := 1) hx hb d_Mo_poke_17 (by decide) ?_
    refine g_callVi (b := ad 16) (As := [.int 1]) (rest := []) hC hB (c_Mo_fail l (g_up G 16 0 0) 1 O) rfl key_Mo_fail rfl ins_Mo_fail sel_Mo_fail ml_Mo_50 (g_rec16 hB) rfl hl.1 ⟨Nat.le_of_ble_eq_true rfl, Nat.le_of_ble_eq_true rfl, Nat.le_of_ble_eq_true rfl, Nat.le_of_ble_eq_true rfl⟩ d_Mo_poke_18 (fun H locs hB => ?_)
    exact g_iret hC hB hr hlk (by decide) (by decide) (by rw [hf]) (by rw [hf]) d_Mo_poke_21
abbrev rm_Mo_result : Room := { frames := 0, cells := 0, slots := 0, locals := 0 }
def f_Mo_result (G : gT) (p0 : Int32) (p1 : Int32) (p2 : Int32) (p3 : Int32) : Int32 := (if p0 = 1 then p3 else (if p0 = 2 then p1 + p2 else (if p0 = 3 then p1 - p2 else (if p0 = 4 then p1 ^^^ p2 else (if p0 = 10 then g_ush p1 (p2 &&& (31 : Int32)) else (if p0 = 11 then p1 * p2 else (if p2 ≤ p1 then 0 else 1)))))))
set_option maxHeartbeats 4000000 in
set_option maxRecDepth 100000 in
theorem c_Mo_result (l : Launch) (G : gT) (p0 : Int32) (p1 : Int32) (p2 : Int32) (p3 : Int32) (O : Int64) : gMet l y_Mo_result w_Mo_result rm_Mo_result (fun ad => [.int p0, .int p1, .int p2, .int p3]) G O (.inl (some (.int (f_Mo_result G p0 p1 p2 p3)))) G O := by
  refine g_body (by decide) (gCode_of _ _ _ _) (fun ad => by simp [lg_sl, Value.category]) ?_
  intro p e s0 s m args below meth c D cI cL ad hC hr hlk htb hB ls hl
  have hC : CallFix p m c b_Mo_result 4 s args gtb R_Mo := hC
  have hl : lv_has ls 4 [(0, .int p0), (1, .int p1), (2, .int p2), (3, .int p3)] := hl
  have hx := hC.1
  have hb := hC.2.1
  have hf : f_Mo_result G p0 p1 p2 p3 = (if p0 = 1 then p3 else (if p0 = 2 then p1 + p2 else (if p0 = 3 then p1 - p2 else (if p0 = 4 then p1 ^^^ p2 else (if p0 = 10 then g_ush p1 (p2 &&& (31 : Int32)) else (if p0 = 11 then p1 * p2 else (if p2 ≤ p1 then 0 else 1))))))) := rfl
  refine lv_iload_n hx hb d_Mo_result_0 rfl (lv_at hl 0 rfl) ?_
  by_cases c2 : p0 = 1
  · replace hf := hf.trans (if_pos c2)
    refine g_switch (tgt := 60) hC d_Mo_result_1 (fun i hi => by show i < 11; omega) (by rw [c2]; decide) ?_
    refine lv_iload_n hx hb d_Mo_result_60 rfl (lv_at hl 3 rfl) ?_
    exact g_iret hC hB hr hlk (by decide) (by decide) (by rw [hf]) rfl d_Mo_result_61
  · replace hf := hf.trans (if_neg c2)
    by_cases c3 : p0 = 2
    · replace hf := hf.trans (if_pos c3)
      refine g_switch (tgt := 62) hC d_Mo_result_1 (fun i hi => by show i < 11; omega) (by rw [c3]; decide) ?_
      refine lv_iload_n hx hb d_Mo_result_62 rfl (lv_at hl 1 rfl) ?_
      refine lv_iload_n hx hb d_Mo_result_63 rfl (lv_at hl 2 rfl) ?_
      refine lv_iadd hx hb d_Mo_result_64 ?_
      exact g_iret hC hB hr hlk (by decide) (by decide) (by rw [hf]) rfl d_Mo_result_65
    · replace hf := hf.trans (if_neg c3)
      by_cases c4 : p0 = 3
      · replace hf := hf.trans (if_pos c4)
        refine g_switch (tgt := 66) hC d_Mo_result_1 (fun i hi => by show i < 11; omega) (by rw [c4]; decide) ?_
        refine lv_iload_n hx hb d_Mo_result_66 rfl (lv_at hl 1 rfl) ?_
        refine lv_iload_n hx hb d_Mo_result_67 rfl (lv_at hl 2 rfl) ?_
        refine lv_isub hx hb d_Mo_result_68 ?_
        exact g_iret hC hB hr hlk (by decide) (by decide) (by rw [hf]) rfl d_Mo_result_69
      · replace hf := hf.trans (if_neg c4)
        by_cases c5 : p0 = 4
        · replace hf := hf.trans (if_pos c5)
          refine g_switch (tgt := 70) hC d_Mo_result_1 (fun i hi => by show i < 11; omega) (by rw [c5]; decide) ?_
          refine lv_iload_n hx hb d_Mo_result_70 rfl (lv_at hl 1 rfl) ?_
          refine lv_iload_n hx hb d_Mo_result_71 rfl (lv_at hl 2 rfl) ?_
          refine lv_ixor hx hb d_Mo_result_72 ?_
          exact g_iret hC hB hr hlk (by decide) (by decide) (by rw [hf]) rfl d_Mo_result_73
        · replace hf := hf.trans (if_neg c5)
          by_cases c6 : p0 = 10
          · replace hf := hf.trans (if_pos c6)
            refine g_switch (tgt := 74) hC d_Mo_result_1 (fun i hi => by show i < 11; omega) (by rw [c6]; decide) ?_
            refine lv_iload_n hx hb d_Mo_result_74 rfl (lv_at hl 1 rfl) ?_
            refine lv_iload_n hx hb d_Mo_result_75 rfl (lv_at hl 2 rfl) ?_
            refine lv_bipush (v := 31) hx hb d_Mo_result_76 (by decide) ?_
            refine lv_iand hx hb d_Mo_result_78 ?_
            refine lv_iushr (v := g_ush p1 (p2 &&& (31 : Int32))) hx hb d_Mo_result_79 rfl ?_
            exact g_iret hC hB hr hlk (by decide) (by decide) (by rw [hf]) rfl d_Mo_result_80
          · replace hf := hf.trans (if_neg c6)
            by_cases c7 : p0 = 11
            · replace hf := hf.trans (if_pos c7)
              refine g_switch (tgt := 81) hC d_Mo_result_1 (fun i hi => by show i < 11; omega) (by rw [c7]; decide) ?_
              refine lv_iload_n hx hb d_Mo_result_81 rfl (lv_at hl 1 rfl) ?_
              refine lv_iload_n hx hb d_Mo_result_82 rfl (lv_at hl 2 rfl) ?_
              refine lv_imul hx hb d_Mo_result_83 ?_
              exact g_iret hC hB hr hlk (by decide) (by decide) (by rw [hf]) rfl d_Mo_result_84
            · replace hf := hf.trans (if_neg c7)
              refine g_switch (tgt := 85) hC d_Mo_result_1 (fun i hi => by show i < 11; omega) ?_ ?_
              · have e0 := g_ne (k := 1) c2 (by decide)
                have e1 := g_ne (k := 2) c3 (by decide)
                have e2 := g_ne (k := 3) c4 (by decide)
                have e3 := g_ne (k := 4) c5 (by decide)
                have e4 := g_ne (k := 10) c6 (by decide)
                have e5 := g_ne (k := 11) c7 (by decide)
                have e : (p0).toInt < 1 ∨ (p0).toInt = 5 ∨ (p0).toInt = 6 ∨ (p0).toInt = 7 ∨ (p0).toInt = 8 ∨ (p0).toInt = 9 ∨ 11 < (p0).toInt := by omega
                generalize (p0).toInt = z at e ⊢
                rcases e with e | e | e | e | e | e | e
                · rw [g_swt, if_pos (by omega)]; decide
                · rw [e]; decide
                · rw [e]; decide
                · rw [e]; decide
                · rw [e]; decide
                · rw [e]; decide
                · rw [g_swt, if_pos (by omega)]; decide
              · refine lv_iload_n hx hb d_Mo_result_85 rfl (lv_at hl 1 rfl) ?_
                refine lv_iload_n hx hb d_Mo_result_86 rfl (lv_at hl 2 rfl) ?_
                refine lv_icmp_ge (tgt := 94) hx hb d_Mo_result_87 (by decide) (fun c1 => ?_) (fun c1 => ?_)
                · replace hf := hf.trans (if_pos c1)
                  refine lv_iconst (v := 0) hx hb d_Mo_result_94 (by decide) ?_
                  exact g_iret hC hB hr hlk (by decide) (by decide) (by rw [hf]) rfl d_Mo_result_95
                · replace hf := hf.trans (if_neg c1)
                  refine lv_iconst (v := 1) hx hb d_Mo_result_90 (by decide) ?_
                  refine lv_goto (tgt := 95) hx hb d_Mo_result_91 (by decide) ?_
                  exact g_iret hC hB hr hlk (by decide) (by decide) (by rw [hf]) rfl d_Mo_result_95
abbrev rm_Mo_advance_19 : Room := { frames := 1, cells := 0, slots := 0, locals := 15 }
def f_Mo_advance_19 (G : gT) (p2 : Int32) : Int32 × gT := (if (f_Mo_kindOf G (G 17 ((G 19 264).toNatClampNeg))) = 8 then (if (G 19 265) < p2 then (if (f_Mo_kindOf G (G 17 ((G 19 264).toNatClampNeg))) = 0 then (if (f_Mo_kindOf G (G 17 ((G 19 264).toNatClampNeg))) = 0 then (1, (g_up (g_up G 16 14 (-1)) 19 268 1)) else (1, (g_up (g_up G 16 14 (-1)) 19 268 2))) else (if (f_Mo_kindOf G (G 17 ((G 19 264).toNatClampNeg))) ≤ 12 then (if (f_Mo_kindOf G (G 17 ((G 19 264).toNatClampNeg))) = 7 then (if (G 19 ((((G 17 ((G 19 264).toNatClampNeg)) >>> ((24 : Int32) &&& 31)) &&& (7 : Int32)).toNatClampNeg)) = 0 then (1, (g_up (g_up G 16 14 (-1)) 19 264 (((G 19 264) + (1 : Int32)) &&& (63 : Int32)))) else (1, (g_up (g_up G 16 14 (-1)) 19 264 (((G 19 264) + (((G 17 ((G 19 264).toNatClampNeg)) <<< ((16 : Int32) &&& 31)) >>> ((16 : Int32) &&& 31))) &&& (63 : Int32))))) else (if (f_Mo_kindOf G (G 17 ((G 19 264).toNatClampNeg))) = 9 then (1, (g_up (g_up (g_up (g_up G 16 14 (-1)) 19 266 ((G 19 266) + (1 : Int32))) 19 267 (((31 : Int32) * (G 19 267)) + ((g_up (g_up G 16 14 (-1)) 19 266 ((G 19 266) + (1 : Int32))) 19 ((((G 17 ((G 19 264).toNatClampNeg)) >>> ((24 : Int32) &&& 31)) &&& (7 : Int32)).toNatClampNeg)))) 19 264 (((G 19 264) + (1 : Int32)) &&& (63 : Int32)))) else (if (f_Mo_kindOf G (G 17 ((G 19 264).toNatClampNeg))) = 6 then (1, (g_up (g_up (g_up (g_up G 16 14 (-1)) 16 14 ((8 : Int32) + (((G 19 ((((G 17 ((G 19 264).toNatClampNeg)) >>> ((20 : Int32) &&& 31)) &&& (7 : Int32)).toNatClampNeg)) + (((G 17 ((G 19 264).toNatClampNeg)) <<< ((16 : Int32) &&& 31)) >>> ((16 : Int32) &&& 31))) &&& (255 : Int32)))) 19 (((8 : Int32) + (((G 19 ((((G 17 ((G 19 264).toNatClampNeg)) >>> ((20 : Int32) &&& 31)) &&& (7 : Int32)).toNatClampNeg)) + (((G 17 ((G 19 264).toNatClampNeg)) <<< ((16 : Int32) &&& 31)) >>> ((16 : Int32) &&& 31))) &&& (255 : Int32))).toNatClampNeg) (G 19 ((((G 17 ((G 19 264).toNatClampNeg)) >>> ((24 : Int32) &&& 31)) &&& (7 : Int32)).toNatClampNeg))) 19 264 (((G 19 264) + (1 : Int32)) &&& (63 : Int32)))) else (if (f_Mo_kindOf G (G 17 ((G 19 264).toNatClampNeg))) = 5 then (if (f_Mo_kindOf G (G 17 ((G 19 264).toNatClampNeg))) = 8 then (1, (g_up (g_up (g_up (g_up (g_up G 16 14 (-1)) 19 265 ((G 19 265) + (1 : Int32))) 19 ((((G 17 ((G 19 264).toNatClampNeg)) >>> ((24 : Int32) &&& 31)) &&& (7 : Int32)).toNatClampNeg) (G 19 (((8 : Int32) + (((G 19 ((((G 17 ((G 19 264).toNatClampNeg)) >>> ((20 : Int32) &&& 31)) &&& (7 : Int32)).toNatClampNeg)) + (((G 17 ((G 19 264).toNatClampNeg)) <<< ((16 : Int32) &&& 31)) >>> ((16 : Int32) &&& 31))) &&& (255 : Int32))).toNatClampNeg))) 16 14 (((G 17 ((G 19 264).toNatClampNeg)) >>> ((24 : Int32) &&& 31)) &&& (7 : Int32))) 19 264 (((G 19 264) + (1 : Int32)) &&& (63 : Int32)))) else (1, (g_up (g_up (g_up (g_up (g_up G 16 14 (-1)) 19 265 ((G 19 265) + (0 : Int32))) 19 ((((G 17 ((G 19 264).toNatClampNeg)) >>> ((24 : Int32) &&& 31)) &&& (7 : Int32)).toNatClampNeg) (G 19 (((8 : Int32) + (((G 19 ((((G 17 ((G 19 264).toNatClampNeg)) >>> ((20 : Int32) &&& 31)) &&& (7 : Int32)).toNatClampNeg)) + (((G 17 ((G 19 264).toNatClampNeg)) <<< ((16 : Int32) &&& 31)) >>> ((16 : Int32) &&& 31))) &&& (255 : Int32))).toNatClampNeg))) 16 14 (((G 17 ((G 19 264).toNatClampNeg)) >>> ((24 : Int32) &&& 31)) &&& (7 : Int32))) 19 264 (((G 19 264) + (1 : Int32)) &&& (63 : Int32))))) else (if (f_Mo_kindOf G (G 17 ((G 19 264).toNatClampNeg))) = 8 then (if (f_Mo_kindOf G (G 17 ((G 19 264).toNatClampNeg))) = 8 then (1, (g_up (g_up (g_up (g_up (g_up G 16 14 (-1)) 19 265 ((G 19 265) + (1 : Int32))) 19 ((((G 17 ((G 19 264).toNatClampNeg)) >>> ((24 : Int32) &&& 31)) &&& (7 : Int32)).toNatClampNeg) (G 18 ((G 19 265).toNatClampNeg))) 16 14 (((G 17 ((G 19 264).toNatClampNeg)) >>> ((24 : Int32) &&& 31)) &&& (7 : Int32))) 19 264 (((G 19 264) + (1 : Int32)) &&& (63 : Int32)))) else (1, (g_up (g_up (g_up (g_up (g_up G 16 14 (-1)) 19 265 ((G 19 265) + (0 : Int32))) 19 ((((G 17 ((G 19 264).toNatClampNeg)) >>> ((24 : Int32) &&& 31)) &&& (7 : Int32)).toNatClampNeg) (G 18 ((G 19 265).toNatClampNeg))) 16 14 (((G 17 ((G 19 264).toNatClampNeg)) >>> ((24 : Int32) &&& 31)) &&& (7 : Int32))) 19 264 (((G 19 264) + (1 : Int32)) &&& (63 : Int32))))) else (if (f_Mo_kindOf G (G 17 ((G 19 264).toNatClampNeg))) = 8 then (1, (g_up (g_up (g_up (g_up (g_up G 16 14 (-1)) 19 265 ((G 19 265) + (1 : Int32))) 19 ((((G 17 ((G 19 264).toNatClampNeg)) >>> ((24 : Int32) &&& 31)) &&& (7 : Int32)).toNatClampNeg) (f_Mo_result (g_up G 16 14 (-1)) (f_Mo_kindOf G (G 17 ((G 19 264).toNatClampNeg))) (G 19 ((((G 17 ((G 19 264).toNatClampNeg)) >>> ((20 : Int32) &&& 31)) &&& (7 : Int32)).toNatClampNeg)) (G 19 ((((G 17 ((G 19 264).toNatClampNeg)) >>> ((16 : Int32) &&& 31)) &&& (7 : Int32)).toNatClampNeg)) (((G 17 ((G 19 264).toNatClampNeg)) <<< ((16 : Int32) &&& 31)) >>> ((16 : Int32) &&& 31)))) 16 14 (((G 17 ((G 19 264).toNatClampNeg)) >>> ((24 : Int32) &&& 31)) &&& (7 : Int32))) 19 264 (((G 19 264) + (1 : Int32)) &&& (63 : Int32)))) else (1, (g_up (g_up (g_up (g_up (g_up G 16 14 (-1)) 19 265 ((G 19 265) + (0 : Int32))) 19 ((((G 17 ((G 19 264).toNatClampNeg)) >>> ((24 : Int32) &&& 31)) &&& (7 : Int32)).toNatClampNeg) (f_Mo_result (g_up G 16 14 (-1)) (f_Mo_kindOf G (G 17 ((G 19 264).toNatClampNeg))) (G 19 ((((G 17 ((G 19 264).toNatClampNeg)) >>> ((20 : Int32) &&& 31)) &&& (7 : Int32)).toNatClampNeg)) (G 19 ((((G 17 ((G 19 264).toNatClampNeg)) >>> ((16 : Int32) &&& 31)) &&& (7 : Int32)).toNatClampNeg)) (((G 17 ((G 19 264).toNatClampNeg)) <<< ((16 : Int32) &&& 31)) >>> ((16 : Int32) &&& 31)))) 16 14 (((G 17 ((G 19 264).toNatClampNeg)) >>> ((24 : Int32) &&& 31)) &&& (7 : Int32))) 19 264 (((G 19 264) + (1 : Int32)) &&& (63 : Int32)))))))))) else (if (f_Mo_kindOf G (G 17 ((G 19 264).toNatClampNeg))) = 0 then (1, (g_up (g_up G 16 14 (-1)) 19 268 1)) else (1, (g_up (g_up G 16 14 (-1)) 19 268 2))))) else (0, (g_up G 16 14 (-1)))) else (if (f_Mo_kindOf G (G 17 ((G 19 264).toNatClampNeg))) = 0 then (if (f_Mo_kindOf G (G 17 ((G 19 264).toNatClampNeg))) = 0 then (1, (g_up (g_up G 16 14 (-1)) 19 268 1)) else (1, (g_up (g_up G 16 14 (-1)) 19 268 2))) else (if (f_Mo_kindOf G (G 17 ((G 19 264).toNatClampNeg))) ≤ 12 then (if (f_Mo_kindOf G (G 17 ((G 19 264).toNatClampNeg))) = 7 then (if (G 19 ((((G 17 ((G 19 264).toNatClampNeg)) >>> ((24 : Int32) &&& 31)) &&& (7 : Int32)).toNatClampNeg)) = 0 then (1, (g_up (g_up G 16 14 (-1)) 19 264 (((G 19 264) + (1 : Int32)) &&& (63 : Int32)))) else (1, (g_up (g_up G 16 14 (-1)) 19 264 (((G 19 264) + (((G 17 ((G 19 264).toNatClampNeg)) <<< ((16 : Int32) &&& 31)) >>> ((16 : Int32) &&& 31))) &&& (63 : Int32))))) else (if (f_Mo_kindOf G (G 17 ((G 19 264).toNatClampNeg))) = 9 then (1, (g_up (g_up (g_up (g_up G 16 14 (-1)) 19 266 ((G 19 266) + (1 : Int32))) 19 267 (((31 : Int32) * (G 19 267)) + ((g_up (g_up G 16 14 (-1)) 19 266 ((G 19 266) + (1 : Int32))) 19 ((((G 17 ((G 19 264).toNatClampNeg)) >>> ((24 : Int32) &&& 31)) &&& (7 : Int32)).toNatClampNeg)))) 19 264 (((G 19 264) + (1 : Int32)) &&& (63 : Int32)))) else (if (f_Mo_kindOf G (G 17 ((G 19 264).toNatClampNeg))) = 6 then (1, (g_up (g_up (g_up (g_up G 16 14 (-1)) 16 14 ((8 : Int32) + (((G 19 ((((G 17 ((G 19 264).toNatClampNeg)) >>> ((20 : Int32) &&& 31)) &&& (7 : Int32)).toNatClampNeg)) + (((G 17 ((G 19 264).toNatClampNeg)) <<< ((16 : Int32) &&& 31)) >>> ((16 : Int32) &&& 31))) &&& (255 : Int32)))) 19 (((8 : Int32) + (((G 19 ((((G 17 ((G 19 264).toNatClampNeg)) >>> ((20 : Int32) &&& 31)) &&& (7 : Int32)).toNatClampNeg)) + (((G 17 ((G 19 264).toNatClampNeg)) <<< ((16 : Int32) &&& 31)) >>> ((16 : Int32) &&& 31))) &&& (255 : Int32))).toNatClampNeg) (G 19 ((((G 17 ((G 19 264).toNatClampNeg)) >>> ((24 : Int32) &&& 31)) &&& (7 : Int32)).toNatClampNeg))) 19 264 (((G 19 264) + (1 : Int32)) &&& (63 : Int32)))) else (if (f_Mo_kindOf G (G 17 ((G 19 264).toNatClampNeg))) = 5 then (if (f_Mo_kindOf G (G 17 ((G 19 264).toNatClampNeg))) = 8 then (1, (g_up (g_up (g_up (g_up (g_up G 16 14 (-1)) 19 265 ((G 19 265) + (1 : Int32))) 19 ((((G 17 ((G 19 264).toNatClampNeg)) >>> ((24 : Int32) &&& 31)) &&& (7 : Int32)).toNatClampNeg) (G 19 (((8 : Int32) + (((G 19 ((((G 17 ((G 19 264).toNatClampNeg)) >>> ((20 : Int32) &&& 31)) &&& (7 : Int32)).toNatClampNeg)) + (((G 17 ((G 19 264).toNatClampNeg)) <<< ((16 : Int32) &&& 31)) >>> ((16 : Int32) &&& 31))) &&& (255 : Int32))).toNatClampNeg))) 16 14 (((G 17 ((G 19 264).toNatClampNeg)) >>> ((24 : Int32) &&& 31)) &&& (7 : Int32))) 19 264 (((G 19 264) + (1 : Int32)) &&& (63 : Int32)))) else (1, (g_up (g_up (g_up (g_up (g_up G 16 14 (-1)) 19 265 ((G 19 265) + (0 : Int32))) 19 ((((G 17 ((G 19 264).toNatClampNeg)) >>> ((24 : Int32) &&& 31)) &&& (7 : Int32)).toNatClampNeg) (G 19 (((8 : Int32) + (((G 19 ((((G 17 ((G 19 264).toNatClampNeg)) >>> ((20 : Int32) &&& 31)) &&& (7 : Int32)).toNatClampNeg)) + (((G 17 ((G 19 264).toNatClampNeg)) <<< ((16 : Int32) &&& 31)) >>> ((16 : Int32) &&& 31))) &&& (255 : Int32))).toNatClampNeg))) 16 14 (((G 17 ((G 19 264).toNatClampNeg)) >>> ((24 : Int32) &&& 31)) &&& (7 : Int32))) 19 264 (((G 19 264) + (1 : Int32)) &&& (63 : Int32))))) else (if (f_Mo_kindOf G (G 17 ((G 19 264).toNatClampNeg))) = 8 then (if (f_Mo_kindOf G (G 17 ((G 19 264).toNatClampNeg))) = 8 then (1, (g_up (g_up (g_up (g_up (g_up G 16 14 (-1)) 19 265 ((G 19 265) + (1 : Int32))) 19 ((((G 17 ((G 19 264).toNatClampNeg)) >>> ((24 : Int32) &&& 31)) &&& (7 : Int32)).toNatClampNeg) (G 18 ((G 19 265).toNatClampNeg))) 16 14 (((G 17 ((G 19 264).toNatClampNeg)) >>> ((24 : Int32) &&& 31)) &&& (7 : Int32))) 19 264 (((G 19 264) + (1 : Int32)) &&& (63 : Int32)))) else (1, (g_up (g_up (g_up (g_up (g_up G 16 14 (-1)) 19 265 ((G 19 265) + (0 : Int32))) 19 ((((G 17 ((G 19 264).toNatClampNeg)) >>> ((24 : Int32) &&& 31)) &&& (7 : Int32)).toNatClampNeg) (G 18 ((G 19 265).toNatClampNeg))) 16 14 (((G 17 ((G 19 264).toNatClampNeg)) >>> ((24 : Int32) &&& 31)) &&& (7 : Int32))) 19 264 (((G 19 264) + (1 : Int32)) &&& (63 : Int32))))) else (if (f_Mo_kindOf G (G 17 ((G 19 264).toNatClampNeg))) = 8 then (1, (g_up (g_up (g_up (g_up (g_up G 16 14 (-1)) 19 265 ((G 19 265) + (1 : Int32))) 19 ((((G 17 ((G 19 264).toNatClampNeg)) >>> ((24 : Int32) &&& 31)) &&& (7 : Int32)).toNatClampNeg) (f_Mo_result (g_up G 16 14 (-1)) (f_Mo_kindOf G (G 17 ((G 19 264).toNatClampNeg))) (G 19 ((((G 17 ((G 19 264).toNatClampNeg)) >>> ((20 : Int32) &&& 31)) &&& (7 : Int32)).toNatClampNeg)) (G 19 ((((G 17 ((G 19 264).toNatClampNeg)) >>> ((16 : Int32) &&& 31)) &&& (7 : Int32)).toNatClampNeg)) (((G 17 ((G 19 264).toNatClampNeg)) <<< ((16 : Int32) &&& 31)) >>> ((16 : Int32) &&& 31)))) 16 14 (((G 17 ((G 19 264).toNatClampNeg)) >>> ((24 : Int32) &&& 31)) &&& (7 : Int32))) 19 264 (((G 19 264) + (1 : Int32)) &&& (63 : Int32)))) else (1, (g_up (g_up (g_up (g_up (g_up G 16 14 (-1)) 19 265 ((G 19 265) + (0 : Int32))) 19 ((((G 17 ((G 19 264).toNatClampNeg)) >>> ((24 : Int32) &&& 31)) &&& (7 : Int32)).toNatClampNeg) (f_Mo_result (g_up G 16 14 (-1)) (f_Mo_kindOf G (G 17 ((G 19 264).toNatClampNeg))) (G 19 ((((G 17 ((G 19 264).toNatClampNeg)) >>> ((20 : Int32) &&& 31)) &&& (7 : Int32)).toNatClampNeg)) (G 19 ((((G 17 ((G 19 264).toNatClampNeg)) >>> ((16 : Int32) &&& 31)) &&& (7 : Int32)).toNatClampNeg)) (((G 17 ((G 19 264).toNatClampNeg)) <<< ((16 : Int32) &&& 31)) >>> ((16 : Int32) &&& 31)))) 16 14 (((G 17 ((G 19 264).toNatClampNeg)) >>> ((24 : Int32) &&& 31)) &&& (7 : Int32))) 19 264 (((G 19 264) + (1 : Int32)) &&& (63 : Int32)))))))))) else (if (f_Mo_kindOf G (G 17 ((G 19 264).toNatClampNeg))) = 0 then (1, (g_up (g_up G 16 14 (-1)) 19 268 1)) else (1, (g_up (g_up G 16 14 (-1)) 19 268 2))))))
def ok_Mo_advance_19 (G : gT) (p2 : Int32) : Prop := (vp_in (G 19 264) 64 ∧ (((f_Mo_kindOf G (G 17 ((G 19 264).toNatClampNeg))) = 8 → (((G 19 265) < p2 → (((f_Mo_kindOf G (G 17 ((G 19 264).toNatClampNeg))) = 0 → True) ∧ (¬ (f_Mo_kindOf G (G 17 ((G 19 264).toNatClampNeg))) = 0 → (((f_Mo_kindOf G (G 17 ((G 19 264).toNatClampNeg))) ≤ 12 → (((f_Mo_kindOf G (G 17 ((G 19 264).toNatClampNeg))) = 7 → (vp_in (((G 17 ((G 19 264).toNatClampNeg)) >>> ((24 : Int32) &&& 31)) &&& (7 : Int32)) 269 ∧ True)) ∧ (¬ (f_Mo_kindOf G (G 17 ((G 19 264).toNatClampNeg))) = 7 → (((f_Mo_kindOf G (G 17 ((G 19 264).toNatClampNeg))) = 9 → (vp_in (((G 17 ((G 19 264).toNatClampNeg)) >>> ((24 : Int32) &&& 31)) &&& (7 : Int32)) 269 ∧ True)) ∧ (¬ (f_Mo_kindOf G (G 17 ((G 19 264).toNatClampNeg))) = 9 → (((f_Mo_kindOf G (G 17 ((G 19 264).toNatClampNeg))) = 6 → (vp_in (((G 17 ((G 19 264).toNatClampNeg)) >>> ((20 : Int32) &&& 31)) &&& (7 : Int32)) 269 ∧ (vp_in (((G 17 ((G 19 264).toNatClampNeg)) >>> ((24 : Int32) &&& 31)) &&& (7 : Int32)) 269 ∧ (vp_in ((8 : Int32) + (((G 19 ((((G 17 ((G 19 264).toNatClampNeg)) >>> ((20 : Int32) &&& 31)) &&& (7 : Int32)).toNatClampNeg)) + (((G 17 ((G 19 264).toNatClampNeg)) <<< ((16 : Int32) &&& 31)) >>> ((16 : Int32) &&& 31))) &&& (255 : Int32))) 269 ∧ True)))) ∧ (¬ (f_Mo_kindOf G (G 17 ((G 19 264).toNatClampNeg))) = 6 → (((f_Mo_kindOf G (G 17 ((G 19 264).toNatClampNeg))) = 5 → (vp_in (((G 17 ((G 19 264).toNatClampNeg)) >>> ((20 : Int32) &&& 31)) &&& (7 : Int32)) 269 ∧ (vp_in ((8 : Int32) + (((G 19 ((((G 17 ((G 19 264).toNatClampNeg)) >>> ((20 : Int32) &&& 31)) &&& (7 : Int32)).toNatClampNeg)) + (((G 17 ((G 19 264).toNatClampNeg)) <<< ((16 : Int32) &&& 31)) >>> ((16 : Int32) &&& 31))) &&& (255 : Int32))) 269 ∧ (((f_Mo_kindOf G (G 17 ((G 19 264).toNatClampNeg))) = 8 → (vp_in (((G 17 ((G 19 264).toNatClampNeg)) >>> ((24 : Int32) &&& 31)) &&& (7 : Int32)) 269 ∧ True)) ∧ (¬ (f_Mo_kindOf G (G 17 ((G 19 264).toNatClampNeg))) = 8 → (vp_in (((G 17 ((G 19 264).toNatClampNeg)) >>> ((24 : Int32) &&& 31)) &&& (7 : Int32)) 269 ∧ True)))))) ∧ (¬ (f_Mo_kindOf G (G 17 ((G 19 264).toNatClampNeg))) = 5 → (((f_Mo_kindOf G (G 17 ((G 19 264).toNatClampNeg))) = 8 → (vp_in (G 19 265) 200 ∧ (((f_Mo_kindOf G (G 17 ((G 19 264).toNatClampNeg))) = 8 → (vp_in (((G 17 ((G 19 264).toNatClampNeg)) >>> ((24 : Int32) &&& 31)) &&& (7 : Int32)) 269 ∧ True)) ∧ (¬ (f_Mo_kindOf G (G 17 ((G 19 264).toNatClampNeg))) = 8 → (vp_in (((G 17 ((G 19 264).toNatClampNeg)) >>> ((24 : Int32) &&& 31)) &&& (7 : Int32)) 269 ∧ True))))) ∧ (¬ (f_Mo_kindOf G (G 17 ((G 19 264).toNatClampNeg))) = 8 → (vp_in (((G 17 ((G 19 264).toNatClampNeg)) >>> ((20 : Int32) &&& 31)) &&& (7 : Int32)) 269 ∧ (vp_in (((G 17 ((G 19 264).toNatClampNeg)) >>> ((16 : Int32) &&& 31)) &&& (7 : Int32)) 269 ∧ (((f_Mo_kindOf G (G 17 ((G 19 264).toNatClampNeg))) = 8 → (vp_in (((G 17 ((G 19 264).toNatClampNeg)) >>> ((24 : Int32) &&& 31)) &&& (7 : Int32)) 269 ∧ True)) ∧ (¬ (f_Mo_kindOf G (G 17 ((G 19 264).toNatClampNeg))) = 8 → (vp_in (((G 17 ((G 19 264).toNatClampNeg)) >>> ((24 : Int32) &&& 31)) &&& (7 : Int32)) 269 ∧ True)))))))))))))))) ∧ (¬ (f_Mo_kindOf G (G 17 ((G 19 264).toNatClampNeg))) ≤ 12 → True))))) ∧ (¬ (G 19 265) < p2 → True))) ∧ (¬ (f_Mo_kindOf G (G 17 ((G 19 264).toNatClampNeg))) = 8 → (((f_Mo_kindOf G (G 17 ((G 19 264).toNatClampNeg))) = 0 → True) ∧ (¬ (f_Mo_kindOf G (G 17 ((G 19 264).toNatClampNeg))) = 0 → (((f_Mo_kindOf G (G 17 ((G 19 264).toNatClampNeg))) ≤ 12 → (((f_Mo_kindOf G (G 17 ((G 19 264).toNatClampNeg))) = 7 → (vp_in (((G 17 ((G 19 264).toNatClampNeg)) >>> ((24 : Int32) &&& 31)) &&& (7 : Int32)) 269 ∧ True)) ∧ (¬ (f_Mo_kindOf G (G 17 ((G 19 264).toNatClampNeg))) = 7 → (((f_Mo_kindOf G (G 17 ((G 19 264).toNatClampNeg))) = 9 → (vp_in (((G 17 ((G 19 264).toNatClampNeg)) >>> ((24 : Int32) &&& 31)) &&& (7 : Int32)) 269 ∧ True)) ∧ (¬ (f_Mo_kindOf G (G 17 ((G 19 264).toNatClampNeg))) = 9 → (((f_Mo_kindOf G (G 17 ((G 19 264).toNatClampNeg))) = 6 → (vp_in (((G 17 ((G 19 264).toNatClampNeg)) >>> ((20 : Int32) &&& 31)) &&& (7 : Int32)) 269 ∧ (vp_in (((G 17 ((G 19 264).toNatClampNeg)) >>> ((24 : Int32) &&& 31)) &&& (7 : Int32)) 269 ∧ (vp_in ((8 : Int32) + (((G 19 ((((G 17 ((G 19 264).toNatClampNeg)) >>> ((20 : Int32) &&& 31)) &&& (7 : Int32)).toNatClampNeg)) + (((G 17 ((G 19 264).toNatClampNeg)) <<< ((16 : Int32) &&& 31)) >>> ((16 : Int32) &&& 31))) &&& (255 : Int32))) 269 ∧ True)))) ∧ (¬ (f_Mo_kindOf G (G 17 ((G 19 264).toNatClampNeg))) = 6 → (((f_Mo_kindOf G (G 17 ((G 19 264).toNatClampNeg))) = 5 → (vp_in (((G 17 ((G 19 264).toNatClampNeg)) >>> ((20 : Int32) &&& 31)) &&& (7 : Int32)) 269 ∧ (vp_in ((8 : Int32) + (((G 19 ((((G 17 ((G 19 264).toNatClampNeg)) >>> ((20 : Int32) &&& 31)) &&& (7 : Int32)).toNatClampNeg)) + (((G 17 ((G 19 264).toNatClampNeg)) <<< ((16 : Int32) &&& 31)) >>> ((16 : Int32) &&& 31))) &&& (255 : Int32))) 269 ∧ (((f_Mo_kindOf G (G 17 ((G 19 264).toNatClampNeg))) = 8 → (vp_in (((G 17 ((G 19 264).toNatClampNeg)) >>> ((24 : Int32) &&& 31)) &&& (7 : Int32)) 269 ∧ True)) ∧ (¬ (f_Mo_kindOf G (G 17 ((G 19 264).toNatClampNeg))) = 8 → (vp_in (((G 17 ((G 19 264).toNatClampNeg)) >>> ((24 : Int32) &&& 31)) &&& (7 : Int32)) 269 ∧ True)))))) ∧ (¬ (f_Mo_kindOf G (G 17 ((G 19 264).toNatClampNeg))) = 5 → (((f_Mo_kindOf G (G 17 ((G 19 264).toNatClampNeg))) = 8 → (vp_in (G 19 265) 200 ∧ (((f_Mo_kindOf G (G 17 ((G 19 264).toNatClampNeg))) = 8 → (vp_in (((G 17 ((G 19 264).toNatClampNeg)) >>> ((24 : Int32) &&& 31)) &&& (7 : Int32)) 269 ∧ True)) ∧ (¬ (f_Mo_kindOf G (G 17 ((G 19 264).toNatClampNeg))) = 8 → (vp_in (((G 17 ((G 19 264).toNatClampNeg)) >>> ((24 : Int32) &&& 31)) &&& (7 : Int32)) 269 ∧ True))))) ∧ (¬ (f_Mo_kindOf G (G 17 ((G 19 264).toNatClampNeg))) = 8 → (vp_in (((G 17 ((G 19 264).toNatClampNeg)) >>> ((20 : Int32) &&& 31)) &&& (7 : Int32)) 269 ∧ (vp_in (((G 17 ((G 19 264).toNatClampNeg)) >>> ((16 : Int32) &&& 31)) &&& (7 : Int32)) 269 ∧ (((f_Mo_kindOf G (G 17 ((G 19 264).toNatClampNeg))) = 8 → (vp_in (((G 17 ((G 19 264).toNatClampNeg)) >>> ((24 : Int32) &&& 31)) &&& (7 : Int32)) 269 ∧ True)) ∧ (¬ (f_Mo_kindOf G (G 17 ((G 19 264).toNatClampNeg))) = 8 → (vp_in (((G 17 ((G 19 264).toNatClampNeg)) >>> ((24 : Int32) &&& 31)) &&& (7 : Int32)) 269 ∧ True)))))))))))))))) ∧ (¬ (f_Mo_kindOf G (G 17 ((G 19 264).toNatClampNeg))) ≤ 12 → True)))))))
set_option maxHeartbeats 4000000 in
set_option maxRecDepth 100000 in
theorem c_Mo_advance_19 (l : Launch) (G : gT) (p2 : Int32) (O : Int64) (hok : ok_Mo_advance_19 G p2) : gMet l y_Mo_advance w_Mo_advance rm_Mo_advance_19 (fun ad => [.ref (ad 16), .ref (ad 19), .int p2]) G O (.inl (some (.int (f_Mo_advance_19 G p2).1))) ((f_Mo_advance_19 G p2).2) O := by
  refine g_body (by decide) (gCode_of _ _ _ _) (fun ad => by simp [lg_sl, Value.category]) ?_
  intro p e s0 s m args below meth c D cI cL ad hC hr hlk htb hB ls hl
  have hC : CallFix p m c b_Mo_advance 11 s args gtb R_Mo := hC
  have hl : lv_has ls 11 [(0, .ref (ad 16)), (1, .ref (ad 19)), (2, .int p2)] := hl
  have hx := hC.1
  have hb := hC.2.1
  have hf : f_Mo_advance_19 G p2 = (if (f_Mo_kindOf G (G 17 ((G 19 264).toNatClampNeg))) = 8 then (if (G 19 265) < p2 then (if (f_Mo_kindOf G (G 17 ((G 19 264).toNatClampNeg))) = 0 then (if (f_Mo_kindOf G (G 17 ((G 19 264).toNatClampNeg))) = 0 then (1, (g_up (g_up G 16 14 (-1)) 19 268 1)) else (1, (g_up (g_up G 16 14 (-1)) 19 268 2))) else (if (f_Mo_kindOf G (G 17 ((G 19 264).toNatClampNeg))) ≤ 12 then (if (f_Mo_kindOf G (G 17 ((G 19 264).toNatClampNeg))) = 7 then (if (G 19 ((((G 17 ((G 19 264).toNatClampNeg)) >>> ((24 : Int32) &&& 31)) &&& (7 : Int32)).toNatClampNeg)) = 0 then (1, (g_up (g_up G 16 14 (-1)) 19 264 (((G 19 264) + (1 : Int32)) &&& (63 : Int32)))) else (1, (g_up (g_up G 16 14 (-1)) 19 264 (((G 19 264) + (((G 17 ((G 19 264).toNatClampNeg)) <<< ((16 : Int32) &&& 31)) >>> ((16 : Int32) &&& 31))) &&& (63 : Int32))))) else (if (f_Mo_kindOf G (G 17 ((G 19 264).toNatClampNeg))) = 9 then (1, (g_up (g_up (g_up (g_up G 16 14 (-1)) 19 266 ((G 19 266) + (1 : Int32))) 19 267 (((31 : Int32) * (G 19 267)) + ((g_up (g_up G 16 14 (-1)) 19 266 ((G 19 266) + (1 : Int32))) 19 ((((G 17 ((G 19 264).toNatClampNeg)) >>> ((24 : Int32) &&& 31)) &&& (7 : Int32)).toNatClampNeg)))) 19 264 (((G 19 264) + (1 : Int32)) &&& (63 : Int32)))) else (if (f_Mo_kindOf G (G 17 ((G 19 264).toNatClampNeg))) = 6 then (1, (g_up (g_up (g_up (g_up G 16 14 (-1)) 16 14 ((8 : Int32) + (((G 19 ((((G 17 ((G 19 264).toNatClampNeg)) >>> ((20 : Int32) &&& 31)) &&& (7 : Int32)).toNatClampNeg)) + (((G 17 ((G 19 264).toNatClampNeg)) <<< ((16 : Int32) &&& 31)) >>> ((16 : Int32) &&& 31))) &&& (255 : Int32)))) 19 (((8 : Int32) + (((G 19 ((((G 17 ((G 19 264).toNatClampNeg)) >>> ((20 : Int32) &&& 31)) &&& (7 : Int32)).toNatClampNeg)) + (((G 17 ((G 19 264).toNatClampNeg)) <<< ((16 : Int32) &&& 31)) >>> ((16 : Int32) &&& 31))) &&& (255 : Int32))).toNatClampNeg) (G 19 ((((G 17 ((G 19 264).toNatClampNeg)) >>> ((24 : Int32) &&& 31)) &&& (7 : Int32)).toNatClampNeg))) 19 264 (((G 19 264) + (1 : Int32)) &&& (63 : Int32)))) else (if (f_Mo_kindOf G (G 17 ((G 19 264).toNatClampNeg))) = 5 then (if (f_Mo_kindOf G (G 17 ((G 19 264).toNatClampNeg))) = 8 then (1, (g_up (g_up (g_up (g_up (g_up G 16 14 (-1)) 19 265 ((G 19 265) + (1 : Int32))) 19 ((((G 17 ((G 19 264).toNatClampNeg)) >>> ((24 : Int32) &&& 31)) &&& (7 : Int32)).toNatClampNeg) (G 19 (((8 : Int32) + (((G 19 ((((G 17 ((G 19 264).toNatClampNeg)) >>> ((20 : Int32) &&& 31)) &&& (7 : Int32)).toNatClampNeg)) + (((G 17 ((G 19 264).toNatClampNeg)) <<< ((16 : Int32) &&& 31)) >>> ((16 : Int32) &&& 31))) &&& (255 : Int32))).toNatClampNeg))) 16 14 (((G 17 ((G 19 264).toNatClampNeg)) >>> ((24 : Int32) &&& 31)) &&& (7 : Int32))) 19 264 (((G 19 264) + (1 : Int32)) &&& (63 : Int32)))) else (1, (g_up (g_up (g_up (g_up (g_up G 16 14 (-1)) 19 265 ((G 19 265) + (0 : Int32))) 19 ((((G 17 ((G 19 264).toNatClampNeg)) >>> ((24 : Int32) &&& 31)) &&& (7 : Int32)).toNatClampNeg) (G 19 (((8 : Int32) + (((G 19 ((((G 17 ((G 19 264).toNatClampNeg)) >>> ((20 : Int32) &&& 31)) &&& (7 : Int32)).toNatClampNeg)) + (((G 17 ((G 19 264).toNatClampNeg)) <<< ((16 : Int32) &&& 31)) >>> ((16 : Int32) &&& 31))) &&& (255 : Int32))).toNatClampNeg))) 16 14 (((G 17 ((G 19 264).toNatClampNeg)) >>> ((24 : Int32) &&& 31)) &&& (7 : Int32))) 19 264 (((G 19 264) + (1 : Int32)) &&& (63 : Int32))))) else (if (f_Mo_kindOf G (G 17 ((G 19 264).toNatClampNeg))) = 8 then (if (f_Mo_kindOf G (G 17 ((G 19 264).toNatClampNeg))) = 8 then (1, (g_up (g_up (g_up (g_up (g_up G 16 14 (-1)) 19 265 ((G 19 265) + (1 : Int32))) 19 ((((G 17 ((G 19 264).toNatClampNeg)) >>> ((24 : Int32) &&& 31)) &&& (7 : Int32)).toNatClampNeg) (G 18 ((G 19 265).toNatClampNeg))) 16 14 (((G 17 ((G 19 264).toNatClampNeg)) >>> ((24 : Int32) &&& 31)) &&& (7 : Int32))) 19 264 (((G 19 264) + (1 : Int32)) &&& (63 : Int32)))) else (1, (g_up (g_up (g_up (g_up (g_up G 16 14 (-1)) 19 265 ((G 19 265) + (0 : Int32))) 19 ((((G 17 ((G 19 264).toNatClampNeg)) >>> ((24 : Int32) &&& 31)) &&& (7 : Int32)).toNatClampNeg) (G 18 ((G 19 265).toNatClampNeg))) 16 14 (((G 17 ((G 19 264).toNatClampNeg)) >>> ((24 : Int32) &&& 31)) &&& (7 : Int32))) 19 264 (((G 19 264) + (1 : Int32)) &&& (63 : Int32))))) else (if (f_Mo_kindOf G (G 17 ((G 19 264).toNatClampNeg))) = 8 then (1, (g_up (g_up (g_up (g_up (g_up G 16 14 (-1)) 19 265 ((G 19 265) + (1 : Int32))) 19 ((((G 17 ((G 19 264).toNatClampNeg)) >>> ((24 : Int32) &&& 31)) &&& (7 : Int32)).toNatClampNeg) (f_Mo_result (g_up G 16 14 (-1)) (f_Mo_kindOf G (G 17 ((G 19 264).toNatClampNeg))) (G 19 ((((G 17 ((G 19 264).toNatClampNeg)) >>> ((20 : Int32) &&& 31)) &&& (7 : Int32)).toNatClampNeg)) (G 19 ((((G 17 ((G 19 264).toNatClampNeg)) >>> ((16 : Int32) &&& 31)) &&& (7 : Int32)).toNatClampNeg)) (((G 17 ((G 19 264).toNatClampNeg)) <<< ((16 : Int32) &&& 31)) >>> ((16 : Int32) &&& 31)))) 16 14 (((G 17 ((G 19 264).toNatClampNeg)) >>> ((24 : Int32) &&& 31)) &&& (7 : Int32))) 19 264 (((G 19 264) + (1 : Int32)) &&& (63 : Int32)))) else (1, (g_up (g_up (g_up (g_up (g_up G 16 14 (-1)) 19 265 ((G 19 265) + (0 : Int32))) 19 ((((G 17 ((G 19 264).toNatClampNeg)) >>> ((24 : Int32) &&& 31)) &&& (7 : Int32)).toNatClampNeg) (f_Mo_result (g_up G 16 14 (-1)) (f_Mo_kindOf G (G 17 ((G 19 264).toNatClampNeg))) (G 19 ((((G 17 ((G 19 264).toNatClampNeg)) >>> ((20 : Int32) &&& 31)) &&& (7 : Int32)).toNatClampNeg)) (G 19 ((((G 17 ((G 19 264).toNatClampNeg)) >>> ((16 : Int32) &&& 31)) &&& (7 : Int32)).toNatClampNeg)) (((G 17 ((G 19 264).toNatClampNeg)) <<< ((16 : Int32) &&& 31)) >>> ((16 : Int32) &&& 31)))) 16 14 (((G 17 ((G 19 264).toNatClampNeg)) >>> ((24 : Int32) &&& 31)) &&& (7 : Int32))) 19 264 (((G 19 264) + (1 : Int32)) &&& (63 : Int32)))))))))) else (if (f_Mo_kindOf G (G 17 ((G 19 264).toNatClampNeg))) = 0 then (1, (g_up (g_up G 16 14 (-1)) 19 268 1)) else (1, (g_up (g_up G 16 14 (-1)) 19 268 2))))) else (0, (g_up G 16 14 (-1)))) else (if (f_Mo_kindOf G (G 17 ((G 19 264).toNatClampNeg))) = 0 then (if (f_Mo_kindOf G (G 17 ((G 19 264).toNatClampNeg))) = 0 then (1, (g_up (g_up G 16 14 (-1)) 19 268 1)) else (1, (g_up (g_up G 16 14 (-1)) 19 268 2))) else (if (f_Mo_kindOf G (G 17 ((G 19 264).toNatClampNeg))) ≤ 12 then (if (f_Mo_kindOf G (G 17 ((G 19 264).toNatClampNeg))) = 7 then (if (G 19 ((((G 17 ((G 19 264).toNatClampNeg)) >>> ((24 : Int32) &&& 31)) &&& (7 : Int32)).toNatClampNeg)) = 0 then (1, (g_up (g_up G 16 14 (-1)) 19 264 (((G 19 264) + (1 : Int32)) &&& (63 : Int32)))) else (1, (g_up (g_up G 16 14 (-1)) 19 264 (((G 19 264) + (((G 17 ((G 19 264).toNatClampNeg)) <<< ((16 : Int32) &&& 31)) >>> ((16 : Int32) &&& 31))) &&& (63 : Int32))))) else (if (f_Mo_kindOf G (G 17 ((G 19 264).toNatClampNeg))) = 9 then (1, (g_up (g_up (g_up (g_up G 16 14 (-1)) 19 266 ((G 19 266) + (1 : Int32))) 19 267 (((31 : Int32) * (G 19 267)) + ((g_up (g_up G 16 14 (-1)) 19 266 ((G 19 266) + (1 : Int32))) 19 ((((G 17 ((G 19 264).toNatClampNeg)) >>> ((24 : Int32) &&& 31)) &&& (7 : Int32)).toNatClampNeg)))) 19 264 (((G 19 264) + (1 : Int32)) &&& (63 : Int32)))) else (if (f_Mo_kindOf G (G 17 ((G 19 264).toNatClampNeg))) = 6 then (1, (g_up (g_up (g_up (g_up G 16 14 (-1)) 16 14 ((8 : Int32) + (((G 19 ((((G 17 ((G 19 264).toNatClampNeg)) >>> ((20 : Int32) &&& 31)) &&& (7 : Int32)).toNatClampNeg)) + (((G 17 ((G 19 264).toNatClampNeg)) <<< ((16 : Int32) &&& 31)) >>> ((16 : Int32) &&& 31))) &&& (255 : Int32)))) 19 (((8 : Int32) + (((G 19 ((((G 17 ((G 19 264).toNatClampNeg)) >>> ((20 : Int32) &&& 31)) &&& (7 : Int32)).toNatClampNeg)) + (((G 17 ((G 19 264).toNatClampNeg)) <<< ((16 : Int32) &&& 31)) >>> ((16 : Int32) &&& 31))) &&& (255 : Int32))).toNatClampNeg) (G 19 ((((G 17 ((G 19 264).toNatClampNeg)) >>> ((24 : Int32) &&& 31)) &&& (7 : Int32)).toNatClampNeg))) 19 264 (((G 19 264) + (1 : Int32)) &&& (63 : Int32)))) else (if (f_Mo_kindOf G (G 17 ((G 19 264).toNatClampNeg))) = 5 then (if (f_Mo_kindOf G (G 17 ((G 19 264).toNatClampNeg))) = 8 then (1, (g_up (g_up (g_up (g_up (g_up G 16 14 (-1)) 19 265 ((G 19 265) + (1 : Int32))) 19 ((((G 17 ((G 19 264).toNatClampNeg)) >>> ((24 : Int32) &&& 31)) &&& (7 : Int32)).toNatClampNeg) (G 19 (((8 : Int32) + (((G 19 ((((G 17 ((G 19 264).toNatClampNeg)) >>> ((20 : Int32) &&& 31)) &&& (7 : Int32)).toNatClampNeg)) + (((G 17 ((G 19 264).toNatClampNeg)) <<< ((16 : Int32) &&& 31)) >>> ((16 : Int32) &&& 31))) &&& (255 : Int32))).toNatClampNeg))) 16 14 (((G 17 ((G 19 264).toNatClampNeg)) >>> ((24 : Int32) &&& 31)) &&& (7 : Int32))) 19 264 (((G 19 264) + (1 : Int32)) &&& (63 : Int32)))) else (1, (g_up (g_up (g_up (g_up (g_up G 16 14 (-1)) 19 265 ((G 19 265) + (0 : Int32))) 19 ((((G 17 ((G 19 264).toNatClampNeg)) >>> ((24 : Int32) &&& 31)) &&& (7 : Int32)).toNatClampNeg) (G 19 (((8 : Int32) + (((G 19 ((((G 17 ((G 19 264).toNatClampNeg)) >>> ((20 : Int32) &&& 31)) &&& (7 : Int32)).toNatClampNeg)) + (((G 17 ((G 19 264).toNatClampNeg)) <<< ((16 : Int32) &&& 31)) >>> ((16 : Int32) &&& 31))) &&& (255 : Int32))).toNatClampNeg))) 16 14 (((G 17 ((G 19 264).toNatClampNeg)) >>> ((24 : Int32) &&& 31)) &&& (7 : Int32))) 19 264 (((G 19 264) + (1 : Int32)) &&& (63 : Int32))))) else (if (f_Mo_kindOf G (G 17 ((G 19 264).toNatClampNeg))) = 8 then (if (f_Mo_kindOf G (G 17 ((G 19 264).toNatClampNeg))) = 8 then (1, (g_up (g_up (g_up (g_up (g_up G 16 14 (-1)) 19 265 ((G 19 265) + (1 : Int32))) 19 ((((G 17 ((G 19 264).toNatClampNeg)) >>> ((24 : Int32) &&& 31)) &&& (7 : Int32)).toNatClampNeg) (G 18 ((G 19 265).toNatClampNeg))) 16 14 (((G 17 ((G 19 264).toNatClampNeg)) >>> ((24 : Int32) &&& 31)) &&& (7 : Int32))) 19 264 (((G 19 264) + (1 : Int32)) &&& (63 : Int32)))) else (1, (g_up (g_up (g_up (g_up (g_up G 16 14 (-1)) 19 265 ((G 19 265) + (0 : Int32))) 19 ((((G 17 ((G 19 264).toNatClampNeg)) >>> ((24 : Int32) &&& 31)) &&& (7 : Int32)).toNatClampNeg) (G 18 ((G 19 265).toNatClampNeg))) 16 14 (((G 17 ((G 19 264).toNatClampNeg)) >>> ((24 : Int32) &&& 31)) &&& (7 : Int32))) 19 264 (((G 19 264) + (1 : Int32)) &&& (63 : Int32))))) else (if (f_Mo_kindOf G (G 17 ((G 19 264).toNatClampNeg))) = 8 then (1, (g_up (g_up (g_up (g_up (g_up G 16 14 (-1)) 19 265 ((G 19 265) + (1 : Int32))) 19 ((((G 17 ((G 19 264).toNatClampNeg)) >>> ((24 : Int32) &&& 31)) &&& (7 : Int32)).toNatClampNeg) (f_Mo_result (g_up G 16 14 (-1)) (f_Mo_kindOf G (G 17 ((G 19 264).toNatClampNeg))) (G 19 ((((G 17 ((G 19 264).toNatClampNeg)) >>> ((20 : Int32) &&& 31)) &&& (7 : Int32)).toNatClampNeg)) (G 19 ((((G 17 ((G 19 264).toNatClampNeg)) >>> ((16 : Int32) &&& 31)) &&& (7 : Int32)).toNatClampNeg)) (((G 17 ((G 19 264).toNatClampNeg)) <<< ((16 : Int32) &&& 31)) >>> ((16 : Int32) &&& 31)))) 16 14 (((G 17 ((G 19 264).toNatClampNeg)) >>> ((24 : Int32) &&& 31)) &&& (7 : Int32))) 19 264 (((G 19 264) + (1 : Int32)) &&& (63 : Int32)))) else (1, (g_up (g_up (g_up (g_up (g_up G 16 14 (-1)) 19 265 ((G 19 265) + (0 : Int32))) 19 ((((G 17 ((G 19 264).toNatClampNeg)) >>> ((24 : Int32) &&& 31)) &&& (7 : Int32)).toNatClampNeg) (f_Mo_result (g_up G 16 14 (-1)) (f_Mo_kindOf G (G 17 ((G 19 264).toNatClampNeg))) (G 19 ((((G 17 ((G 19 264).toNatClampNeg)) >>> ((20 : Int32) &&& 31)) &&& (7 : Int32)).toNatClampNeg)) (G 19 ((((G 17 ((G 19 264).toNatClampNeg)) >>> ((16 : Int32) &&& 31)) &&& (7 : Int32)).toNatClampNeg)) (((G 17 ((G 19 264).toNatClampNeg)) <<< ((16 : Int32) &&& 31)) >>> ((16 : Int32) &&& 31)))) 16 14 (((G 17 ((G 19 264).toNatClampNeg)) >>> ((24 : Int32) &&& 31)) &&& (7 : Int32))) 19 264 (((G 19 264) + (1 : Int32)) &&& (63 : Int32)))))))))) else (if (f_Mo_kindOf G (G 17 ((G 19 264).toNatClampNeg))) = 0 then (1, (g_up (g_up G 16 14 (-1)) 19 268 1)) else (1, (g_up (g_up G 16 14 (-1)) 19 268 2)))))) := rfl
  have hok : (vp_in (G 19 264) 64 ∧ (((f_Mo_kindOf G (G 17 ((G 19 264).toNatClampNeg))) = 8 → (((G 19 265) < p2 → (((f_Mo_kindOf G (G 17 ((G 19 264).toNatClampNeg))) = 0 → True) ∧ (¬ (f_Mo_kindOf G (G 17 ((G 19 264).toNatClampNeg))) = 0 → (((f_Mo_kindOf G (G 17 ((G 19 264).toNatClampNeg))) ≤ 12 → (((f_Mo_kindOf G (G 17 ((G 19 264).toNatClampNeg))) = 7 → (vp_in (((G 17 ((G 19 264).toNatClampNeg)) >>> ((24 : Int32) &&& 31)) &&& (7 : Int32)) 269 ∧ True)) ∧ (¬ (f_Mo_kindOf G (G 17 ((G 19 264).toNatClampNeg))) = 7 → (((f_Mo_kindOf G (G 17 ((G 19 264).toNatClampNeg))) = 9 → (vp_in (((G 17 ((G 19 264).toNatClampNeg)) >>> ((24 : Int32) &&& 31)) &&& (7 : Int32)) 269 ∧ True)) ∧ (¬ (f_Mo_kindOf G (G 17 ((G 19 264).toNatClampNeg))) = 9 → (((f_Mo_kindOf G (G 17 ((G 19 264).toNatClampNeg))) = 6 → (vp_in (((G 17 ((G 19 264).toNatClampNeg)) >>> ((20 : Int32) &&& 31)) &&& (7 : Int32)) 269 ∧ (vp_in (((G 17 ((G 19 264).toNatClampNeg)) >>> ((24 : Int32) &&& 31)) &&& (7 : Int32)) 269 ∧ (vp_in ((8 : Int32) + (((G 19 ((((G 17 ((G 19 264).toNatClampNeg)) >>> ((20 : Int32) &&& 31)) &&& (7 : Int32)).toNatClampNeg)) + (((G 17 ((G 19 264).toNatClampNeg)) <<< ((16 : Int32) &&& 31)) >>> ((16 : Int32) &&& 31))) &&& (255 : Int32))) 269 ∧ True)))) ∧ (¬ (f_Mo_kindOf G (G 17 ((G 19 264).toNatClampNeg))) = 6 → (((f_Mo_kindOf G (G 17 ((G 19 264).toNatClampNeg))) = 5 → (vp_in (((G 17 ((G 19 264).toNatClampNeg)) >>> ((20 : Int32) &&& 31)) &&& (7 : Int32)) 269 ∧ (vp_in ((8 : Int32) + (((G 19 ((((G 17 ((G 19 264).toNatClampNeg)) >>> ((20 : Int32) &&& 31)) &&& (7 : Int32)).toNatClampNeg)) + (((G 17 ((G 19 264).toNatClampNeg)) <<< ((16 : Int32) &&& 31)) >>> ((16 : Int32) &&& 31))) &&& (255 : Int32))) 269 ∧ (((f_Mo_kindOf G (G 17 ((G 19 264).toNatClampNeg))) = 8 → (vp_in (((G 17 ((G 19 264).toNatClampNeg)) >>> ((24 : Int32) &&& 31)) &&& (7 : Int32)) 269 ∧ True)) ∧ (¬ (f_Mo_kindOf G (G 17 ((G 19 264).toNatClampNeg))) = 8 → (vp_in (((G 17 ((G 19 264).toNatClampNeg)) >>> ((24 : Int32) &&& 31)) &&& (7 : Int32)) 269 ∧ True)))))) ∧ (¬ (f_Mo_kindOf G (G 17 ((G 19 264).toNatClampNeg))) = 5 → (((f_Mo_kindOf G (G 17 ((G 19 264).toNatClampNeg))) = 8 → (vp_in (G 19 265) 200 ∧ (((f_Mo_kindOf G (G 17 ((G 19 264).toNatClampNeg))) = 8 → (vp_in (((G 17 ((G 19 264).toNatClampNeg)) >>> ((24 : Int32) &&& 31)) &&& (7 : Int32)) 269 ∧ True)) ∧ (¬ (f_Mo_kindOf G (G 17 ((G 19 264).toNatClampNeg))) = 8 → (vp_in (((G 17 ((G 19 264).toNatClampNeg)) >>> ((24 : Int32) &&& 31)) &&& (7 : Int32)) 269 ∧ True))))) ∧ (¬ (f_Mo_kindOf G (G 17 ((G 19 264).toNatClampNeg))) = 8 → (vp_in (((G 17 ((G 19 264).toNatClampNeg)) >>> ((20 : Int32) &&& 31)) &&& (7 : Int32)) 269 ∧ (vp_in (((G 17 ((G 19 264).toNatClampNeg)) >>> ((16 : Int32) &&& 31)) &&& (7 : Int32)) 269 ∧ (((f_Mo_kindOf G (G 17 ((G 19 264).toNatClampNeg))) = 8 → (vp_in (((G 17 ((G 19 264).toNatClampNeg)) >>> ((24 : Int32) &&& 31)) &&& (7 : Int32)) 269 ∧ True)) ∧ (¬ (f_Mo_kindOf G (G 17 ((G 19 264).toNatClampNeg))) = 8 → (vp_in (((G 17 ((G 19 264).toNatClampNeg)) >>> ((24 : Int32) &&& 31)) &&& (7 : Int32)) 269 ∧ True)))))))))))))))) ∧ (¬ (f_Mo_kindOf G (G 17 ((G 19 264).toNatClampNeg))) ≤ 12 → True))))) ∧ (¬ (G 19 265) < p2 → True))) ∧ (¬ (f_Mo_kindOf G (G 17 ((G 19 264).toNatClampNeg))) = 8 → (((f_Mo_kindOf G (G 17 ((G 19 264).toNatClampNeg))) = 0 → True) ∧ (¬ (f_Mo_kindOf G (G 17 ((G 19 264).toNatClampNeg))) = 0 → (((f_Mo_kindOf G (G 17 ((G 19 264).toNatClampNeg))) ≤ 12 → (((f_Mo_kindOf G (G 17 ((G 19 264).toNatClampNeg))) = 7 → (vp_in (((G 17 ((G 19 264).toNatClampNeg)) >>> ((24 : Int32) &&& 31)) &&& (7 : Int32)) 269 ∧ True)) ∧ (¬ (f_Mo_kindOf G (G 17 ((G 19 264).toNatClampNeg))) = 7 → (((f_Mo_kindOf G (G 17 ((G 19 264).toNatClampNeg))) = 9 → (vp_in (((G 17 ((G 19 264).toNatClampNeg)) >>> ((24 : Int32) &&& 31)) &&& (7 : Int32)) 269 ∧ True)) ∧ (¬ (f_Mo_kindOf G (G 17 ((G 19 264).toNatClampNeg))) = 9 → (((f_Mo_kindOf G (G 17 ((G 19 264).toNatClampNeg))) = 6 → (vp_in (((G 17 ((G 19 264).toNatClampNeg)) >>> ((20 : Int32) &&& 31)) &&& (7 : Int32)) 269 ∧ (vp_in (((G 17 ((G 19 264).toNatClampNeg)) >>> ((24 : Int32) &&& 31)) &&& (7 : Int32)) 269 ∧ (vp_in ((8 : Int32) + (((G 19 ((((G 17 ((G 19 264).toNatClampNeg)) >>> ((20 : Int32) &&& 31)) &&& (7 : Int32)).toNatClampNeg)) + (((G 17 ((G 19 264).toNatClampNeg)) <<< ((16 : Int32) &&& 31)) >>> ((16 : Int32) &&& 31))) &&& (255 : Int32))) 269 ∧ True)))) ∧ (¬ (f_Mo_kindOf G (G 17 ((G 19 264).toNatClampNeg))) = 6 → (((f_Mo_kindOf G (G 17 ((G 19 264).toNatClampNeg))) = 5 → (vp_in (((G 17 ((G 19 264).toNatClampNeg)) >>> ((20 : Int32) &&& 31)) &&& (7 : Int32)) 269 ∧ (vp_in ((8 : Int32) + (((G 19 ((((G 17 ((G 19 264).toNatClampNeg)) >>> ((20 : Int32) &&& 31)) &&& (7 : Int32)).toNatClampNeg)) + (((G 17 ((G 19 264).toNatClampNeg)) <<< ((16 : Int32) &&& 31)) >>> ((16 : Int32) &&& 31))) &&& (255 : Int32))) 269 ∧ (((f_Mo_kindOf G (G 17 ((G 19 264).toNatClampNeg))) = 8 → (vp_in (((G 17 ((G 19 264).toNatClampNeg)) >>> ((24 : Int32) &&& 31)) &&& (7 : Int32)) 269 ∧ True)) ∧ (¬ (f_Mo_kindOf G (G 17 ((G 19 264).toNatClampNeg))) = 8 → (vp_in (((G 17 ((G 19 264).toNatClampNeg)) >>> ((24 : Int32) &&& 31)) &&& (7 : Int32)) 269 ∧ True)))))) ∧ (¬ (f_Mo_kindOf G (G 17 ((G 19 264).toNatClampNeg))) = 5 → (((f_Mo_kindOf G (G 17 ((G 19 264).toNatClampNeg))) = 8 → (vp_in (G 19 265) 200 ∧ (((f_Mo_kindOf G (G 17 ((G 19 264).toNatClampNeg))) = 8 → (vp_in (((G 17 ((G 19 264).toNatClampNeg)) >>> ((24 : Int32) &&& 31)) &&& (7 : Int32)) 269 ∧ True)) ∧ (¬ (f_Mo_kindOf G (G 17 ((G 19 264).toNatClampNeg))) = 8 → (vp_in (((G 17 ((G 19 264).toNatClampNeg)) >>> ((24 : Int32) &&& 31)) &&& (7 : Int32)) 269 ∧ True))))) ∧ (¬ (f_Mo_kindOf G (G 17 ((G 19 264).toNatClampNeg))) = 8 → (vp_in (((G 17 ((G 19 264).toNatClampNeg)) >>> ((20 : Int32) &&& 31)) &&& (7 : Int32)) 269 ∧ (vp_in (((G 17 ((G 19 264).toNatClampNeg)) >>> ((16 : Int32) &&& 31)) &&& (7 : Int32)) 269 ∧ (((f_Mo_kindOf G (G 17 ((G 19 264).toNatClampNeg))) = 8 → (vp_in (((G 17 ((G 19 264).toNatClampNeg)) >>> ((24 : Int32) &&& 31)) &&& (7 : Int32)) 269 ∧ True)) ∧ (¬ (f_Mo_kindOf G (G 17 ((G 19 264).toNatClampNeg))) = 8 → (vp_in (((G 17 ((G 19 264).toNatClampNeg)) >>> ((24 : Int32) &&& 31)) &&& (7 : Int32)) 269 ∧ True)))))))))))))))) ∧ (¬ (f_Mo_kindOf G (G 17 ((G 19 264).toNatClampNeg))) ≤ 12 → True))))))) := hok
  refine lv_aload_n hx hb d_Mo_advance_0 rfl (lv_at hl 0 rfl) ?_
  refine gr_16_3 hC hB fl_Mo_7 d_Mo_advance_1 ?_
  refine lv_aload_n hx hb d_Mo_advance_4 rfl (lv_at hl 1 rfl) ?_
  refine lv_sipush (v := 264) hx hb d_Mo_advance_5 (by decide) ?_
  refine ga_19 (x := (G 19 264)) hC hB (by unfold vp_in; decide) rfl d_Mo_advance_8 ?_
  refine ga_17 (x := (G 17 ((G 19 264).toNatClampNeg))) hC hB hok.1 rfl d_Mo_advance_9 ?_
  replace hok := hok.2
  refine lv_istore_n (lv' := [(3, .int (G 17 ((G 19 264).toNatClampNeg))), (0, .ref (ad 16)), (1, .ref (ad 19)), (2, .int p2)]) hx hb d_Mo_advance_10 rfl hl (by decide) rfl (fun ls hl => ?_)
  refine lv_iload_n hx hb d_Mo_advance_11 rfl (lv_at hl 0 rfl) ?_
  refine g_callSi (As := [.int (G 17 ((G 19 264).toNatClampNeg))]) (rest := []) hC hB (c_Mo_kindOf l G (G 17 ((G 19 264).toNatClampNeg)) O) rfl key_Mo_kindOf rfl sta_Mo_kindOf ml_Mo_69 rfl hl.1 ⟨Nat.le_of_ble_eq_true rfl, Nat.le_of_ble_eq_true rfl, Nat.le_of_ble_eq_true rfl, Nat.le_of_ble_eq_true rfl⟩ d_Mo_advance_12 (fun H locs hB => ?_)
  refine lv_istore (lv' := [(4, .int (f_Mo_kindOf G (G 17 ((G 19 264).toNatClampNeg)))), (3, .int (G 17 ((G 19 264).toNatClampNeg))), (0, .ref (ad 16)), (1, .ref (ad 19)), (2, .int p2)]) hx hb d_Mo_advance_15 hl (by decide) rfl (fun ls hl => ?_)
  refine lv_iload_n hx hb d_Mo_advance_17 rfl (lv_at hl 1 rfl) ?_
  refine lv_bipush (v := 24) hx hb d_Mo_advance_18 (by decide) ?_
  refine lv_ishr hx hb d_Mo_advance_20 ?_
  refine lv_bipush (v := 7) hx hb d_Mo_advance_21 (by decide) ?_
  refine lv_iand hx hb d_Mo_advance_23 ?_
  refine lv_istore (lv' := [(5, .int (((G 17 ((G 19 264).toNatClampNeg)) >>> ((24 : Int32) &&& 31)) &&& (7 : Int32))), (4, .int (f_Mo_kindOf G (G 17 ((G 19 264).toNatClampNeg)))), (3, .int (G 17 ((G 19 264).toNatClampNeg))), (0, .ref (ad 16)), (1, .ref (ad 19)), (2, .int p2)]) hx hb d_Mo_advance_24 hl (by decide) rfl (fun ls hl => ?_)
  refine lv_iload_n hx hb d_Mo_advance_26 rfl (lv_at hl 2 rfl) ?_
  refine lv_bipush (v := 20) hx hb d_Mo_advance_27 (by decide) ?_
  refine lv_ishr hx hb d_Mo_advance_29 ?_
  refine lv_bipush (v := 7) hx hb d_Mo_advance_30 (by decide) ?_
  refine lv_iand hx hb d_Mo_advance_32 ?_
  refine lv_istore (lv' := [(6, .int (((G 17 ((G 19 264).toNatClampNeg)) >>> ((20 : Int32) &&& 31)) &&& (7 : Int32))), (5, .int (((G 17 ((G 19 264).toNatClampNeg)) >>> ((24 : Int32) &&& 31)) &&& (7 : Int32))), (4, .int (f_Mo_kindOf G (G 17 ((G 19 264).toNatClampNeg)))), (3, .int (G 17 ((G 19 264).toNatClampNeg))), (0, .ref (ad 16)), (1, .ref (ad 19)), (2, .int p2)]) hx hb d_Mo_advance_33 hl (by decide) rfl (fun ls hl => ?_)
  refine lv_iload_n hx hb d_Mo_advance_35 rfl (lv_at hl 3 rfl) ?_
  refine lv_bipush (v := 16) hx hb d_Mo_advance_36 (by decide) ?_
  refine lv_ishr hx hb d_Mo_advance_38 ?_
  refine lv_bipush (v := 7) hx hb d_Mo_advance_39 (by decide) ?_
  refine lv_iand hx hb d_Mo_advance_41 ?_
  refine lv_istore (lv' := [(7, .int (((G 17 ((G 19 264).toNatClampNeg)) >>> ((16 : Int32) &&& 31)) &&& (7 : Int32))), (6, .int (((G 17 ((G 19 264).toNatClampNeg)) >>> ((20 : Int32) &&& 31)) &&& (7 : Int32))), (5, .int (((G 17 ((G 19 264).toNatClampNeg)) >>> ((24 : Int32) &&& 31)) &&& (7 : Int32))), (4, .int (f_Mo_kindOf G (G 17 ((G 19 264).toNatClampNeg)))), (3, .int (G 17 ((G 19 264).toNatClampNeg))), (0, .ref (ad 16)), (1, .ref (ad 19)), (2, .int p2)]) hx hb d_Mo_advance_42 hl (by decide) rfl (fun ls hl => ?_)
  refine lv_iload_n hx hb d_Mo_advance_44 rfl (lv_at hl 4 rfl) ?_
  refine lv_bipush (v := 16) hx hb d_Mo_advance_45 (by decide) ?_
  refine lv_ishl hx hb d_Mo_advance_47 ?_
  refine lv_bipush (v := 16) hx hb d_Mo_advance_48 (by decide) ?_
  refine lv_ishr hx hb d_Mo_advance_50 ?_
  refine lv_istore (lv' := [(8, .int (((G 17 ((G 19 264).toNatClampNeg)) <<< ((16 : Int32) &&& 31)) >>> ((16 : Int32) &&& 31))), (7, .int (((G 17 ((G 19 264).toNatClampNeg)) >>> ((16 : Int32) &&& 31)) &&& (7 : Int32))), (6, .int (((G 17 ((G 19 264).toNatClampNeg)) >>> ((20 : Int32) &&& 31)) &&& (7 : Int32))), (5, .int (((G 17 ((G 19 264).toNatClampNeg)) >>> ((24 : Int32) &&& 31)) &&& (7 : Int32))), (4, .int (f_Mo_kindOf G (G 17 ((G 19 264).toNatClampNeg)))), (3, .int (G 17 ((G 19 264).toNatClampNeg))), (0, .ref (ad 16)), (1, .ref (ad 19)), (2, .int p2)]) hx hb d_Mo_advance_51 hl (by decide) rfl (fun ls hl => ?_)
  refine lv_aload_n hx hb d_Mo_advance_53 rfl (lv_at hl 6 rfl) ?_
  refine lv_iconst (v := (-1)) hx hb d_Mo_advance_54 (by decide) ?_
  refine gp_16_14 hC hB fl_Mo_72 d_Mo_advance_55 (fun H locs hB => ?_)
  refine lv_iload hx hb d_Mo_advance_58 (lv_at hl 4 rfl) ?_
  refine lv_bipush (v := 8) hx hb d_Mo_advance_60 (by decide) ?_
  refine lv_icmp_ne (tgt := 76) hx hb d_Mo_advance_62 (by decide) (fun c1 => ?_) (fun c1 => ?_)
  · replace hf := hf.trans (if_neg c1)
    replace hok := hok.2 c1
    refine lv_iload hx hb d_Mo_advance_76 (lv_at hl 4 rfl) ?_
    refine lv_if_eq (tgt := 88) hx hb d_Mo_advance_78 (by decide) (fun c2 => ?_) (fun c2 => ?_)
    · replace hf := hf.trans (if_pos c2)
      replace hok := hok.1 c2
      refine lv_aload_n hx hb d_Mo_advance_88 rfl (lv_at hl 7 rfl) ?_
      refine lv_sipush (v := 268) hx hb d_Mo_advance_89 (by decide) ?_
      refine lv_iload hx hb d_Mo_advance_92 (lv_at hl 4 rfl) ?_
      refine lv_if_ne (tgt := 101) hx hb d_Mo_advance_94 (by decide) (fun c3 => ?_) (fun c3 => ?_)
      · replace hf := hf.trans (if_neg c3)
        refine lv_iconst (v := 2) hx hb d_Mo_advance_101 (by decide) ?_
        refine gs_19 hC hB (by unfold vp_in; decide) d_Mo_advance_102 (fun H locs hB => ?_)
        replace hB : gB s0 s D cI cL ad (g_up (g_up G 16 14 (-1)) 19 268 2) O H locs := hB
        refine lv_iconst (v := 1) hx hb d_Mo_advance_103 (by decide) ?_
        exact g_zret hC hB hr hlk (by decide) (by decide) (by decide) (by rw [hf]) (by rw [hf]) d_Mo_advance_104
      · replace hf := hf.trans (if_pos c3)
        refine lv_iconst (v := 1) hx hb d_Mo_advance_97 (by decide) ?_
        refine lv_goto (tgt := 102) hx hb d_Mo_advance_98 (by decide) ?_
        refine gs_19 hC hB (by unfold vp_in; decide) d_Mo_advance_102 (fun H locs hB => ?_)
        replace hB : gB s0 s D cI cL ad (g_up (g_up G 16 14 (-1)) 19 268 1) O H locs := hB
        refine lv_iconst (v := 1) hx hb d_Mo_advance_103 (by decide) ?_
        exact g_zret hC hB hr hlk (by decide) (by decide) (by decide) (by rw [hf]) (by rw [hf]) d_Mo_advance_104
    · replace hf := hf.trans (if_neg c2)
      replace hok := hok.2 c2
      refine lv_iload hx hb d_Mo_advance_81 (lv_at hl 4 rfl) ?_
      refine lv_bipush (v := 12) hx hb d_Mo_advance_83 (by decide) ?_
      refine lv_icmp_le (tgt := 105) hx hb d_Mo_advance_85 (by decide) (fun c4 => ?_) (fun c4 => ?_)
      · replace hf := hf.trans (if_pos c4)
        replace hok := hok.1 c4
        refine lv_aload_n hx hb d_Mo_advance_105 rfl (lv_at hl 7 rfl) ?_
        refine lv_sipush (v := 264) hx hb d_Mo_advance_106 (by decide) ?_
        refine ga_19 (x := (G 19 264)) hC hB (by unfold vp_in; decide) rfl d_Mo_advance_109 ?_
        refine lv_iconst (v := 1) hx hb d_Mo_advance_110 (by decide) ?_
        refine lv_iadd hx hb d_Mo_advance_111 ?_
        refine lv_bipush (v := 63) hx hb d_Mo_advance_112 (by decide) ?_
        refine lv_iand hx hb d_Mo_advance_114 ?_
        refine lv_istore (lv' := [(9, .int (((G 19 264) + (1 : Int32)) &&& (63 : Int32))), (8, .int (((G 17 ((G 19 264).toNatClampNeg)) <<< ((16 : Int32) &&& 31)) >>> ((16 : Int32) &&& 31))), (7, .int (((G 17 ((G 19 264).toNatClampNeg)) >>> ((16 : Int32) &&& 31)) &&& (7 : Int32))), (6, .int (((G 17 ((G 19 264).toNatClampNeg)) >>> ((20 : Int32) &&& 31)) &&& (7 : Int32))), (5, .int (((G 17 ((G 19 264).toNatClampNeg)) >>> ((24 : Int32) &&& 31)) &&& (7 : Int32))), (4, .int (f_Mo_kindOf G (G 17 ((G 19 264).toNatClampNeg)))), (3, .int (G 17 ((G 19 264).toNatClampNeg))), (0, .ref (ad 16)), (1, .ref (ad 19)), (2, .int p2)]) hx hb d_Mo_advance_115 hl (by decide) rfl (fun ls hl => ?_)
        refine lv_iload hx hb d_Mo_advance_117 (lv_at hl 5 rfl) ?_
        refine lv_bipush (v := 7) hx hb d_Mo_advance_119 (by decide) ?_
        refine lv_icmp_ne (tgt := 152) hx hb d_Mo_advance_121 (by decide) (fun c5 => ?_) (fun c5 => ?_)
        · replace hf := hf.trans (if_neg c5)
          replace hok := hok.2 c5
          refine lv_iload hx hb d_Mo_advance_152 (lv_at hl 5 rfl) ?_
          refine lv_bipush (v := 9) hx hb d_Mo_advance_154 (by decide) ?_
          refine lv_icmp_ne (tgt := 189) hx hb d_Mo_advance_156 (by decide) (fun c6 => ?_) (fun c6 => ?_)
          · replace hf := hf.trans (if_neg c6)
            replace hok := hok.2 c6
            refine lv_iload hx hb d_Mo_advance_189 (lv_at hl 5 rfl) ?_
            refine lv_bipush (v := 6) hx hb d_Mo_advance_191 (by decide) ?_
            refine lv_icmp_ne (tgt := 227) hx hb d_Mo_advance_193 (by decide) (fun c7 => ?_) (fun c7 => ?_)
            · replace hf := hf.trans (if_neg c7)
              replace hok := hok.2 c7
              refine lv_iload hx hb d_Mo_advance_227 (lv_at hl 5 rfl) ?_
              refine lv_iconst (v := 5) hx hb d_Mo_advance_229 (by decide) ?_
              refine lv_icmp_ne (tgt := 252) hx hb d_Mo_advance_230 (by decide) (fun c8 => ?_) (fun c8 => ?_)
              · replace hf := hf.trans (if_neg c8)
                replace hok := hok.2 c8
                refine lv_iload hx hb d_Mo_advance_252 (lv_at hl 5 rfl) ?_
                refine lv_bipush (v := 8) hx hb d_Mo_advance_254 (by decide) ?_
                refine lv_icmp_ne (tgt := 272) hx hb d_Mo_advance_256 (by decide) (fun c9 => ?_) (fun c9 => ?_)
                · replace hf := hf.trans (if_neg c9)
                  replace hok := hok.2 c9
                  refine lv_iload hx hb d_Mo_advance_272 (lv_at hl 5 rfl) ?_
                  refine lv_aload_n hx hb d_Mo_advance_274 rfl (lv_at hl 8 rfl) ?_
                  refine lv_iload hx hb d_Mo_advance_275 (lv_at hl 3 rfl) ?_
                  refine ga_19 (x := (G 19 ((((G 17 ((G 19 264).toNatClampNeg)) >>> ((20 : Int32) &&& 31)) &&& (7 : Int32)).toNatClampNeg))) hC hB hok.1 rfl d_Mo_advance_277 ?_
                  replace hok := hok.2
                  refine lv_aload_n hx hb d_Mo_advance_278 rfl (lv_at hl 8 rfl) ?_
                  refine lv_iload hx hb d_Mo_advance_279 (lv_at hl 2 rfl) ?_
                  refine ga_19 (x := (G 19 ((((G 17 ((G 19 264).toNatClampNeg)) >>> ((16 : Int32) &&& 31)) &&& (7 : Int32)).toNatClampNeg))) hC hB hok.1 rfl d_Mo_advance_281 ?_
                  replace hok := hok.2
                  refine lv_iload hx hb d_Mo_advance_282 (lv_at hl 1 rfl) ?_
                  refine g_callSi (As := [.int (f_Mo_kindOf G (G 17 ((G 19 264).toNatClampNeg))), .int (G 19 ((((G 17 ((G 19 264).toNatClampNeg)) >>> ((20 : Int32) &&& 31)) &&& (7 : Int32)).toNatClampNeg)), .int (G 19 ((((G 17 ((G 19 264).toNatClampNeg)) >>> ((16 : Int32) &&& 31)) &&& (7 : Int32)).toNatClampNeg)), .int (((G 17 ((G 19 264).toNatClampNeg)) <<< ((16 : Int32) &&& 31)) >>> ((16 : Int32) &&& 31))]) (rest := []) hC hB (c_Mo_result l (g_up G 16 14 (-1)) (f_Mo_kindOf G (G 17 ((G 19 264).toNatClampNeg))) (G 19 ((((G 17 ((G 19 264).toNatClampNeg)) >>> ((20 : Int32) &&& 31)) &&& (7 : Int32)).toNatClampNeg)) (G 19 ((((G 17 ((G 19 264).toNatClampNeg)) >>> ((16 : Int32) &&& 31)) &&& (7 : Int32)).toNatClampNeg)) (((G 17 ((G 19 264).toNatClampNeg)) <<< ((16 : Int32) &&& 31)) >>> ((16 : Int32) &&& 31)) O) rfl key_Mo_result rfl sta_Mo_result ml_Mo_75 rfl hl.1 ⟨Nat.le_of_ble_eq_true rfl, Nat.le_of_ble_eq_true rfl, Nat.le_of_ble_eq_true rfl, Nat.le_of_ble_eq_true rfl⟩ d_Mo_advance_284 (fun H locs hB => ?_)
                  refine lv_istore (lv' := [(10, .int (f_Mo_result (g_up G 16 14 (-1)) (f_Mo_kindOf G (G 17 ((G 19 264).toNatClampNeg))) (G 19 ((((G 17 ((G 19 264).toNatClampNeg)) >>> ((20 : Int32) &&& 31)) &&& (7 : Int32)).toNatClampNeg)) (G 19 ((((G 17 ((G 19 264).toNatClampNeg)) >>> ((16 : Int32) &&& 31)) &&& (7 : Int32)).toNatClampNeg)) (((G 17 ((G 19 264).toNatClampNeg)) <<< ((16 : Int32) &&& 31)) >>> ((16 : Int32) &&& 31)))), (9, .int (((G 19 264) + (1 : Int32)) &&& (63 : Int32))), (8, .int (((G 17 ((G 19 264).toNatClampNeg)) <<< ((16 : Int32) &&& 31)) >>> ((16 : Int32) &&& 31))), (7, .int (((G 17 ((G 19 264).toNatClampNeg)) >>> ((16 : Int32) &&& 31)) &&& (7 : Int32))), (6, .int (((G 17 ((G 19 264).toNatClampNeg)) >>> ((20 : Int32) &&& 31)) &&& (7 : Int32))), (5, .int (((G 17 ((G 19 264).toNatClampNeg)) >>> ((24 : Int32) &&& 31)) &&& (7 : Int32))), (4, .int (f_Mo_kindOf G (G 17 ((G 19 264).toNatClampNeg)))), (3, .int (G 17 ((G 19 264).toNatClampNeg))), (0, .ref (ad 16)), (1, .ref (ad 19)), (2, .int p2)]) hx hb d_Mo_advance_287 hl (by decide) rfl (fun ls hl => ?_)
                  refine lv_aload_n hx hb d_Mo_advance_289 rfl (lv_at hl 9 rfl) ?_
                  refine lv_sipush (v := 265) hx hb d_Mo_advance_290 (by decide) ?_
                  refine lv_dup2_11 hx hb d_Mo_advance_293 rfl rfl ?_
                  refine ga_19 (x := (G 19 265)) hC hB (by unfold vp_in; decide) rfl d_Mo_advance_294 ?_
                  refine lv_iload hx hb d_Mo_advance_295 (lv_at hl 6 rfl) ?_
                  refine lv_bipush (v := 8) hx hb d_Mo_advance_297 (by decide) ?_
                  refine lv_icmp_ne (tgt := 306) hx hb d_Mo_advance_299 (by decide) (fun c10 => ?_) (fun c10 => ?_)
                  · replace hf := hf.trans (if_neg c10)
                    replace hok := hok.2 c10
                    refine lv_iconst (v := 0) hx hb d_Mo_advance_306 (by decide) ?_
                    refine lv_iadd hx hb d_Mo_advance_307 ?_
                    refine gs_19 hC hB (by unfold vp_in; decide) d_Mo_advance_308 (fun H locs hB => ?_)
                    replace hB : gB s0 s D cI cL ad (g_up (g_up G 16 14 (-1)) 19 265 ((G 19 265) + (0 : Int32))) O H locs := hB
                    refine lv_aload_n hx hb d_Mo_advance_309 rfl (lv_at hl 9 rfl) ?_
                    refine lv_iload hx hb d_Mo_advance_310 (lv_at hl 5 rfl) ?_
                    refine lv_iload hx hb d_Mo_advance_312 (lv_at hl 0 rfl) ?_
                    refine gs_19 hC hB hok.1 d_Mo_advance_314 (fun H locs hB => ?_)
                    replace hok := hok.2
                    refine lv_aload_n hx hb d_Mo_advance_315 rfl (lv_at hl 8 rfl) ?_
                    refine lv_iload hx hb d_Mo_advance_316 (lv_at hl 5 rfl) ?_
                    refine gp_16_14 hC hB fl_Mo_72 d_Mo_advance_318 (fun H locs hB => ?_)
                    refine lv_aload_n hx hb d_Mo_advance_321 rfl (lv_at hl 9 rfl) ?_
                    refine lv_sipush (v := 264) hx hb d_Mo_advance_322 (by decide) ?_
                    refine lv_iload hx hb d_Mo_advance_325 (lv_at hl 1 rfl) ?_
                    refine gs_19 hC hB (by unfold vp_in; decide) d_Mo_advance_327 (fun H locs hB => ?_)
                    replace hB : gB s0 s D cI cL ad (g_up (g_up (g_up (g_up (g_up G 16 14 (-1)) 19 265 ((G 19 265) + (0 : Int32))) 19 ((((G 17 ((G 19 264).toNatClampNeg)) >>> ((24 : Int32) &&& 31)) &&& (7 : Int32)).toNatClampNeg) (f_Mo_result (g_up G 16 14 (-1)) (f_Mo_kindOf G (G 17 ((G 19 264).toNatClampNeg))) (G 19 ((((G 17 ((G 19 264).toNatClampNeg)) >>> ((20 : Int32) &&& 31)) &&& (7 : Int32)).toNatClampNeg)) (G 19 ((((G 17 ((G 19 264).toNatClampNeg)) >>> ((16 : Int32) &&& 31)) &&& (7 : Int32)).toNatClampNeg)) (((G 17 ((G 19 264).toNatClampNeg)) <<< ((16 : Int32) &&& 31)) >>> ((16 : Int32) &&& 31)))) 16 14 (((G 17 ((G 19 264).toNatClampNeg)) >>> ((24 : Int32) &&& 31)) &&& (7 : Int32))) 19 264 (((G 19 264) + (1 : Int32)) &&& (63 : Int32))) O H locs := hB
                    refine lv_iconst (v := 1) hx hb d_Mo_advance_328 (by decide) ?_
                    exact g_zret hC hB hr hlk (by decide) (by decide) (by decide) (by rw [hf]) (by rw [hf]) d_Mo_advance_329
                  · replace hf := hf.trans (if_pos c10)
                    replace hok := hok.1 c10
                    refine lv_iconst (v := 1) hx hb d_Mo_advance_302 (by decide) ?_
                    refine lv_goto (tgt := 307) hx hb d_Mo_advance_303 (by decide) ?_
                    refine lv_iadd hx hb d_Mo_advance_307 ?_
                    refine gs_19 hC hB (by unfold vp_in; decide) d_Mo_advance_308 (fun H locs hB => ?_)
                    replace hB : gB s0 s D cI cL ad (g_up (g_up G 16 14 (-1)) 19 265 ((G 19 265) + (1 : Int32))) O H locs := hB
                    refine lv_aload_n hx hb d_Mo_advance_309 rfl (lv_at hl 9 rfl) ?_
                    refine lv_iload hx hb d_Mo_advance_310 (lv_at hl 5 rfl) ?_
                    refine lv_iload hx hb d_Mo_advance_312 (lv_at hl 0 rfl) ?_
                    refine gs_19 hC hB hok.1 d_Mo_advance_314 (fun H locs hB => ?_)
                    replace hok := hok.2
                    refine lv_aload_n hx hb d_Mo_advance_315 rfl (lv_at hl 8 rfl) ?_
                    refine lv_iload hx hb d_Mo_advance_316 (lv_at hl 5 rfl) ?_
                    refine gp_16_14 hC hB fl_Mo_72 d_Mo_advance_318 (fun H locs hB => ?_)
                    refine lv_aload_n hx hb d_Mo_advance_321 rfl (lv_at hl 9 rfl) ?_
                    refine lv_sipush (v := 264) hx hb d_Mo_advance_322 (by decide) ?_
                    refine lv_iload hx hb d_Mo_advance_325 (lv_at hl 1 rfl) ?_
                    refine gs_19 hC hB (by unfold vp_in; decide) d_Mo_advance_327 (fun H locs hB => ?_)
                    replace hB : gB s0 s D cI cL ad (g_up (g_up (g_up (g_up (g_up G 16 14 (-1)) 19 265 ((G 19 265) + (1 : Int32))) 19 ((((G 17 ((G 19 264).toNatClampNeg)) >>> ((24 : Int32) &&& 31)) &&& (7 : Int32)).toNatClampNeg) (f_Mo_result (g_up G 16 14 (-1)) (f_Mo_kindOf G (G 17 ((G 19 264).toNatClampNeg))) (G 19 ((((G 17 ((G 19 264).toNatClampNeg)) >>> ((20 : Int32) &&& 31)) &&& (7 : Int32)).toNatClampNeg)) (G 19 ((((G 17 ((G 19 264).toNatClampNeg)) >>> ((16 : Int32) &&& 31)) &&& (7 : Int32)).toNatClampNeg)) (((G 17 ((G 19 264).toNatClampNeg)) <<< ((16 : Int32) &&& 31)) >>> ((16 : Int32) &&& 31)))) 16 14 (((G 17 ((G 19 264).toNatClampNeg)) >>> ((24 : Int32) &&& 31)) &&& (7 : Int32))) 19 264 (((G 19 264) + (1 : Int32)) &&& (63 : Int32))) O H locs := hB
                    refine lv_iconst (v := 1) hx hb d_Mo_advance_328 (by decide) ?_
                    exact g_zret hC hB hr hlk (by decide) (by decide) (by decide) (by rw [hf]) (by rw [hf]) d_Mo_advance_329
                · replace hf := hf.trans (if_pos c9)
                  replace hok := hok.1 c9
                  refine lv_aload_n hx hb d_Mo_advance_259 rfl (lv_at hl 7 rfl) ?_
                  refine gr_16_5 hC hB fl_Mo_13 d_Mo_advance_260 ?_
                  refine lv_aload_n hx hb d_Mo_advance_263 rfl (lv_at hl 8 rfl) ?_
                  refine lv_sipush (v := 265) hx hb d_Mo_advance_264 (by decide) ?_
                  refine ga_19 (x := (G 19 265)) hC hB (by unfold vp_in; decide) rfl d_Mo_advance_267 ?_
                  refine ga_18 (x := (G 18 ((G 19 265).toNatClampNeg))) hC hB hok.1 rfl d_Mo_advance_268 ?_
                  replace hok := hok.2
                  refine lv_goto (tgt := 287) hx hb d_Mo_advance_269 (by decide) ?_
                  refine lv_istore (lv' := [(10, .int (G 18 ((G 19 265).toNatClampNeg))), (9, .int (((G 19 264) + (1 : Int32)) &&& (63 : Int32))), (8, .int (((G 17 ((G 19 264).toNatClampNeg)) <<< ((16 : Int32) &&& 31)) >>> ((16 : Int32) &&& 31))), (7, .int (((G 17 ((G 19 264).toNatClampNeg)) >>> ((16 : Int32) &&& 31)) &&& (7 : Int32))), (6, .int (((G 17 ((G 19 264).toNatClampNeg)) >>> ((20 : Int32) &&& 31)) &&& (7 : Int32))), (5, .int (((G 17 ((G 19 264).toNatClampNeg)) >>> ((24 : Int32) &&& 31)) &&& (7 : Int32))), (4, .int (f_Mo_kindOf G (G 17 ((G 19 264).toNatClampNeg)))), (3, .int (G 17 ((G 19 264).toNatClampNeg))), (0, .ref (ad 16)), (1, .ref (ad 19)), (2, .int p2)]) hx hb d_Mo_advance_287 hl (by decide) rfl (fun ls hl => ?_)
                  refine lv_aload_n hx hb d_Mo_advance_289 rfl (lv_at hl 9 rfl) ?_
                  refine lv_sipush (v := 265) hx hb d_Mo_advance_290 (by decide) ?_
                  refine lv_dup2_11 hx hb d_Mo_advance_293 rfl rfl ?_
                  refine ga_19 (x := (G 19 265)) hC hB (by unfold vp_in; decide) rfl d_Mo_advance_294 ?_
                  refine lv_iload hx hb d_Mo_advance_295 (lv_at hl 6 rfl) ?_
                  refine lv_bipush (v := 8) hx hb d_Mo_advance_297 (by decide) ?_
                  refine lv_icmp_ne (tgt := 306) hx hb d_Mo_advance_299 (by decide) (fun c11 => ?_) (fun c11 => ?_)
                  · replace hf := hf.trans (if_neg c11)
                    replace hok := hok.2 c11
                    refine lv_iconst (v := 0) hx hb d_Mo_advance_306 (by decide) ?_
                    refine lv_iadd hx hb d_Mo_advance_307 ?_
                    refine gs_19 hC hB (by unfold vp_in; decide) d_Mo_advance_308 (fun H locs hB => ?_)
                    replace hB : gB s0 s D cI cL ad (g_up (g_up G 16 14 (-1)) 19 265 ((G 19 265) + (0 : Int32))) O H locs := hB
                    refine lv_aload_n hx hb d_Mo_advance_309 rfl (lv_at hl 9 rfl) ?_
                    refine lv_iload hx hb d_Mo_advance_310 (lv_at hl 5 rfl) ?_
                    refine lv_iload hx hb d_Mo_advance_312 (lv_at hl 0 rfl) ?_
                    refine gs_19 hC hB hok.1 d_Mo_advance_314 (fun H locs hB => ?_)
                    replace hok := hok.2
                    refine lv_aload_n hx hb d_Mo_advance_315 rfl (lv_at hl 8 rfl) ?_
                    refine lv_iload hx hb d_Mo_advance_316 (lv_at hl 5 rfl) ?_
                    refine gp_16_14 hC hB fl_Mo_72 d_Mo_advance_318 (fun H locs hB => ?_)
                    refine lv_aload_n hx hb d_Mo_advance_321 rfl (lv_at hl 9 rfl) ?_
                    refine lv_sipush (v := 264) hx hb d_Mo_advance_322 (by decide) ?_
                    refine lv_iload hx hb d_Mo_advance_325 (lv_at hl 1 rfl) ?_
                    refine gs_19 hC hB (by unfold vp_in; decide) d_Mo_advance_327 (fun H locs hB => ?_)
                    replace hB : gB s0 s D cI cL ad (g_up (g_up (g_up (g_up (g_up G 16 14 (-1)) 19 265 ((G 19 265) + (0 : Int32))) 19 ((((G 17 ((G 19 264).toNatClampNeg)) >>> ((24 : Int32) &&& 31)) &&& (7 : Int32)).toNatClampNeg) (G 18 ((G 19 265).toNatClampNeg))) 16 14 (((G 17 ((G 19 264).toNatClampNeg)) >>> ((24 : Int32) &&& 31)) &&& (7 : Int32))) 19 264 (((G 19 264) + (1 : Int32)) &&& (63 : Int32))) O H locs := hB
                    refine lv_iconst (v := 1) hx hb d_Mo_advance_328 (by decide) ?_
                    exact g_zret hC hB hr hlk (by decide) (by decide) (by decide) (by rw [hf]) (by rw [hf]) d_Mo_advance_329
                  · replace hf := hf.trans (if_pos c11)
                    replace hok := hok.1 c11
                    refine lv_iconst (v := 1) hx hb d_Mo_advance_302 (by decide) ?_
                    refine lv_goto (tgt := 307) hx hb d_Mo_advance_303 (by decide) ?_
                    refine lv_iadd hx hb d_Mo_advance_307 ?_
                    refine gs_19 hC hB (by unfold vp_in; decide) d_Mo_advance_308 (fun H locs hB => ?_)
                    replace hB : gB s0 s D cI cL ad (g_up (g_up G 16 14 (-1)) 19 265 ((G 19 265) + (1 : Int32))) O H locs := hB
                    refine lv_aload_n hx hb d_Mo_advance_309 rfl (lv_at hl 9 rfl) ?_
                    refine lv_iload hx hb d_Mo_advance_310 (lv_at hl 5 rfl) ?_
                    refine lv_iload hx hb d_Mo_advance_312 (lv_at hl 0 rfl) ?_
                    refine gs_19 hC hB hok.1 d_Mo_advance_314 (fun H locs hB => ?_)
                    replace hok := hok.2
                    refine lv_aload_n hx hb d_Mo_advance_315 rfl (lv_at hl 8 rfl) ?_
                    refine lv_iload hx hb d_Mo_advance_316 (lv_at hl 5 rfl) ?_
                    refine gp_16_14 hC hB fl_Mo_72 d_Mo_advance_318 (fun H locs hB => ?_)
                    refine lv_aload_n hx hb d_Mo_advance_321 rfl (lv_at hl 9 rfl) ?_
                    refine lv_sipush (v := 264) hx hb d_Mo_advance_322 (by decide) ?_
                    refine lv_iload hx hb d_Mo_advance_325 (lv_at hl 1 rfl) ?_
                    refine gs_19 hC hB (by unfold vp_in; decide) d_Mo_advance_327 (fun H locs hB => ?_)
                    replace hB : gB s0 s D cI cL ad (g_up (g_up (g_up (g_up (g_up G 16 14 (-1)) 19 265 ((G 19 265) + (1 : Int32))) 19 ((((G 17 ((G 19 264).toNatClampNeg)) >>> ((24 : Int32) &&& 31)) &&& (7 : Int32)).toNatClampNeg) (G 18 ((G 19 265).toNatClampNeg))) 16 14 (((G 17 ((G 19 264).toNatClampNeg)) >>> ((24 : Int32) &&& 31)) &&& (7 : Int32))) 19 264 (((G 19 264) + (1 : Int32)) &&& (63 : Int32))) O H locs := hB
                    refine lv_iconst (v := 1) hx hb d_Mo_advance_328 (by decide) ?_
                    exact g_zret hC hB hr hlk (by decide) (by decide) (by decide) (by rw [hf]) (by rw [hf]) d_Mo_advance_329
              · replace hf := hf.trans (if_pos c8)
                replace hok := hok.1 c8
                refine lv_aload_n hx hb d_Mo_advance_233 rfl (lv_at hl 8 rfl) ?_
                refine lv_bipush (v := 8) hx hb d_Mo_advance_234 (by decide) ?_
                refine lv_aload_n hx hb d_Mo_advance_236 rfl (lv_at hl 8 rfl) ?_
                refine lv_iload hx hb d_Mo_advance_237 (lv_at hl 3 rfl) ?_
                refine ga_19 (x := (G 19 ((((G 17 ((G 19 264).toNatClampNeg)) >>> ((20 : Int32) &&& 31)) &&& (7 : Int32)).toNatClampNeg))) hC hB hok.1 rfl d_Mo_advance_239 ?_
                replace hok := hok.2
                refine lv_iload hx hb d_Mo_advance_240 (lv_at hl 1 rfl) ?_
                refine lv_iadd hx hb d_Mo_advance_242 ?_
                refine lv_sipush (v := 255) hx hb d_Mo_advance_243 (by decide) ?_
                refine lv_iand hx hb d_Mo_advance_246 ?_
                refine lv_iadd hx hb d_Mo_advance_247 ?_
                refine ga_19 (x := (G 19 (((8 : Int32) + (((G 19 ((((G 17 ((G 19 264).toNatClampNeg)) >>> ((20 : Int32) &&& 31)) &&& (7 : Int32)).toNatClampNeg)) + (((G 17 ((G 19 264).toNatClampNeg)) <<< ((16 : Int32) &&& 31)) >>> ((16 : Int32) &&& 31))) &&& (255 : Int32))).toNatClampNeg))) hC hB hok.1 rfl d_Mo_advance_248 ?_
                replace hok := hok.2
                refine lv_goto (tgt := 287) hx hb d_Mo_advance_249 (by decide) ?_
                refine lv_istore (lv' := [(10, .int (G 19 (((8 : Int32) + (((G 19 ((((G 17 ((G 19 264).toNatClampNeg)) >>> ((20 : Int32) &&& 31)) &&& (7 : Int32)).toNatClampNeg)) + (((G 17 ((G 19 264).toNatClampNeg)) <<< ((16 : Int32) &&& 31)) >>> ((16 : Int32) &&& 31))) &&& (255 : Int32))).toNatClampNeg))), (9, .int (((G 19 264) + (1 : Int32)) &&& (63 : Int32))), (8, .int (((G 17 ((G 19 264).toNatClampNeg)) <<< ((16 : Int32) &&& 31)) >>> ((16 : Int32) &&& 31))), (7, .int (((G 17 ((G 19 264).toNatClampNeg)) >>> ((16 : Int32) &&& 31)) &&& (7 : Int32))), (6, .int (((G 17 ((G 19 264).toNatClampNeg)) >>> ((20 : Int32) &&& 31)) &&& (7 : Int32))), (5, .int (((G 17 ((G 19 264).toNatClampNeg)) >>> ((24 : Int32) &&& 31)) &&& (7 : Int32))), (4, .int (f_Mo_kindOf G (G 17 ((G 19 264).toNatClampNeg)))), (3, .int (G 17 ((G 19 264).toNatClampNeg))), (0, .ref (ad 16)), (1, .ref (ad 19)), (2, .int p2)]) hx hb d_Mo_advance_287 hl (by decide) rfl (fun ls hl => ?_)
                refine lv_aload_n hx hb d_Mo_advance_289 rfl (lv_at hl 9 rfl) ?_
                refine lv_sipush (v := 265) hx hb d_Mo_advance_290 (by decide) ?_
                refine lv_dup2_11 hx hb d_Mo_advance_293 rfl rfl ?_
                refine ga_19 (x := (G 19 265)) hC hB (by unfold vp_in; decide) rfl d_Mo_advance_294 ?_
                refine lv_iload hx hb d_Mo_advance_295 (lv_at hl 6 rfl) ?_
                refine lv_bipush (v := 8) hx hb d_Mo_advance_297 (by decide) ?_
                refine lv_icmp_ne (tgt := 306) hx hb d_Mo_advance_299 (by decide) (fun c12 => ?_) (fun c12 => ?_)
                · replace hf := hf.trans (if_neg c12)
                  replace hok := hok.2 c12
                  refine lv_iconst (v := 0) hx hb d_Mo_advance_306 (by decide) ?_
                  refine lv_iadd hx hb d_Mo_advance_307 ?_
                  refine gs_19 hC hB (by unfold vp_in; decide) d_Mo_advance_308 (fun H locs hB => ?_)
                  replace hB : gB s0 s D cI cL ad (g_up (g_up G 16 14 (-1)) 19 265 ((G 19 265) + (0 : Int32))) O H locs := hB
                  refine lv_aload_n hx hb d_Mo_advance_309 rfl (lv_at hl 9 rfl) ?_
                  refine lv_iload hx hb d_Mo_advance_310 (lv_at hl 5 rfl) ?_
                  refine lv_iload hx hb d_Mo_advance_312 (lv_at hl 0 rfl) ?_
                  refine gs_19 hC hB hok.1 d_Mo_advance_314 (fun H locs hB => ?_)
                  replace hok := hok.2
                  refine lv_aload_n hx hb d_Mo_advance_315 rfl (lv_at hl 8 rfl) ?_
                  refine lv_iload hx hb d_Mo_advance_316 (lv_at hl 5 rfl) ?_
                  refine gp_16_14 hC hB fl_Mo_72 d_Mo_advance_318 (fun H locs hB => ?_)
                  refine lv_aload_n hx hb d_Mo_advance_321 rfl (lv_at hl 9 rfl) ?_
                  refine lv_sipush (v := 264) hx hb d_Mo_advance_322 (by decide) ?_
                  refine lv_iload hx hb d_Mo_advance_325 (lv_at hl 1 rfl) ?_
                  refine gs_19 hC hB (by unfold vp_in; decide) d_Mo_advance_327 (fun H locs hB => ?_)
                  replace hB : gB s0 s D cI cL ad (g_up (g_up (g_up (g_up (g_up G 16 14 (-1)) 19 265 ((G 19 265) + (0 : Int32))) 19 ((((G 17 ((G 19 264).toNatClampNeg)) >>> ((24 : Int32) &&& 31)) &&& (7 : Int32)).toNatClampNeg) (G 19 (((8 : Int32) + (((G 19 ((((G 17 ((G 19 264).toNatClampNeg)) >>> ((20 : Int32) &&& 31)) &&& (7 : Int32)).toNatClampNeg)) + (((G 17 ((G 19 264).toNatClampNeg)) <<< ((16 : Int32) &&& 31)) >>> ((16 : Int32) &&& 31))) &&& (255 : Int32))).toNatClampNeg))) 16 14 (((G 17 ((G 19 264).toNatClampNeg)) >>> ((24 : Int32) &&& 31)) &&& (7 : Int32))) 19 264 (((G 19 264) + (1 : Int32)) &&& (63 : Int32))) O H locs := hB
                  refine lv_iconst (v := 1) hx hb d_Mo_advance_328 (by decide) ?_
                  exact g_zret hC hB hr hlk (by decide) (by decide) (by decide) (by rw [hf]) (by rw [hf]) d_Mo_advance_329
                · replace hf := hf.trans (if_pos c12)
                  replace hok := hok.1 c12
                  refine lv_iconst (v := 1) hx hb d_Mo_advance_302 (by decide) ?_
                  refine lv_goto (tgt := 307) hx hb d_Mo_advance_303 (by decide) ?_
                  refine lv_iadd hx hb d_Mo_advance_307 ?_
                  refine gs_19 hC hB (by unfold vp_in; decide) d_Mo_advance_308 (fun H locs hB => ?_)
                  replace hB : gB s0 s D cI cL ad (g_up (g_up G 16 14 (-1)) 19 265 ((G 19 265) + (1 : Int32))) O H locs := hB
                  refine lv_aload_n hx hb d_Mo_advance_309 rfl (lv_at hl 9 rfl) ?_
                  refine lv_iload hx hb d_Mo_advance_310 (lv_at hl 5 rfl) ?_
                  refine lv_iload hx hb d_Mo_advance_312 (lv_at hl 0 rfl) ?_
                  refine gs_19 hC hB hok.1 d_Mo_advance_314 (fun H locs hB => ?_)
                  replace hok := hok.2
                  refine lv_aload_n hx hb d_Mo_advance_315 rfl (lv_at hl 8 rfl) ?_
                  refine lv_iload hx hb d_Mo_advance_316 (lv_at hl 5 rfl) ?_
                  refine gp_16_14 hC hB fl_Mo_72 d_Mo_advance_318 (fun H locs hB => ?_)
                  refine lv_aload_n hx hb d_Mo_advance_321 rfl (lv_at hl 9 rfl) ?_
                  refine lv_sipush (v := 264) hx hb d_Mo_advance_322 (by decide) ?_
                  refine lv_iload hx hb d_Mo_advance_325 (lv_at hl 1 rfl) ?_
                  refine gs_19 hC hB (by unfold vp_in; decide) d_Mo_advance_327 (fun H locs hB => ?_)
                  replace hB : gB s0 s D cI cL ad (g_up (g_up (g_up (g_up (g_up G 16 14 (-1)) 19 265 ((G 19 265) + (1 : Int32))) 19 ((((G 17 ((G 19 264).toNatClampNeg)) >>> ((24 : Int32) &&& 31)) &&& (7 : Int32)).toNatClampNeg) (G 19 (((8 : Int32) + (((G 19 ((((G 17 ((G 19 264).toNatClampNeg)) >>> ((20 : Int32) &&& 31)) &&& (7 : Int32)).toNatClampNeg)) + (((G 17 ((G 19 264).toNatClampNeg)) <<< ((16 : Int32) &&& 31)) >>> ((16 : Int32) &&& 31))) &&& (255 : Int32))).toNatClampNeg))) 16 14 (((G 17 ((G 19 264).toNatClampNeg)) >>> ((24 : Int32) &&& 31)) &&& (7 : Int32))) 19 264 (((G 19 264) + (1 : Int32)) &&& (63 : Int32))) O H locs := hB
                  refine lv_iconst (v := 1) hx hb d_Mo_advance_328 (by decide) ?_
                  exact g_zret hC hB hr hlk (by decide) (by decide) (by decide) (by rw [hf]) (by rw [hf]) d_Mo_advance_329
            · replace hf := hf.trans (if_pos c7)
              replace hok := hok.1 c7
              refine lv_aload_n hx hb d_Mo_advance_196 rfl (lv_at hl 7 rfl) ?_
              refine lv_bipush (v := 8) hx hb d_Mo_advance_197 (by decide) ?_
              refine lv_aload_n hx hb d_Mo_advance_199 rfl (lv_at hl 8 rfl) ?_
              refine lv_iload hx hb d_Mo_advance_200 (lv_at hl 3 rfl) ?_
              refine ga_19 (x := (G 19 ((((G 17 ((G 19 264).toNatClampNeg)) >>> ((20 : Int32) &&& 31)) &&& (7 : Int32)).toNatClampNeg))) hC hB hok.1 rfl d_Mo_advance_202 ?_
              replace hok := hok.2
              refine lv_iload hx hb d_Mo_advance_203 (lv_at hl 1 rfl) ?_
              refine lv_iadd hx hb d_Mo_advance_205 ?_
              refine lv_sipush (v := 255) hx hb d_Mo_advance_206 (by decide) ?_
              refine lv_iand hx hb d_Mo_advance_209 ?_
              refine lv_iadd hx hb d_Mo_advance_210 ?_
              refine gp_16_14 hC hB fl_Mo_72 d_Mo_advance_211 (fun H locs hB => ?_)
              refine lv_aload_n hx hb d_Mo_advance_214 rfl (lv_at hl 8 rfl) ?_
              refine lv_aload_n hx hb d_Mo_advance_215 rfl (lv_at hl 7 rfl) ?_
              refine gg_16_14 (x := (8 : Int32) + (((G 19 ((((G 17 ((G 19 264).toNatClampNeg)) >>> ((20 : Int32) &&& 31)) &&& (7 : Int32)).toNatClampNeg)) + (((G 17 ((G 19 264).toNatClampNeg)) <<< ((16 : Int32) &&& 31)) >>> ((16 : Int32) &&& 31))) &&& (255 : Int32))) hC hB rfl fl_Mo_72 d_Mo_advance_216 ?_
              refine lv_aload_n hx hb d_Mo_advance_219 rfl (lv_at hl 8 rfl) ?_
              refine lv_iload hx hb d_Mo_advance_220 (lv_at hl 4 rfl) ?_
              refine ga_19 (x := (G 19 ((((G 17 ((G 19 264).toNatClampNeg)) >>> ((24 : Int32) &&& 31)) &&& (7 : Int32)).toNatClampNeg))) hC hB hok.1 rfl d_Mo_advance_222 ?_
              replace hok := hok.2
              refine gs_19 hC hB hok.1 d_Mo_advance_223 (fun H locs hB => ?_)
              replace hok := hok.2
              refine lv_goto (tgt := 321) hx hb d_Mo_advance_224 (by decide) ?_
              refine lv_aload_n hx hb d_Mo_advance_321 rfl (lv_at hl 8 rfl) ?_
              refine lv_sipush (v := 264) hx hb d_Mo_advance_322 (by decide) ?_
              refine lv_iload hx hb d_Mo_advance_325 (lv_at hl 0 rfl) ?_
              refine gs_19 hC hB (by unfold vp_in; decide) d_Mo_advance_327 (fun H locs hB => ?_)
              replace hB : gB s0 s D cI cL ad (g_up (g_up (g_up (g_up G 16 14 (-1)) 16 14 ((8 : Int32) + (((G 19 ((((G 17 ((G 19 264).toNatClampNeg)) >>> ((20 : Int32) &&& 31)) &&& (7 : Int32)).toNatClampNeg)) + (((G 17 ((G 19 264).toNatClampNeg)) <<< ((16 : Int32) &&& 31)) >>> ((16 : Int32) &&& 31))) &&& (255 : Int32)))) 19 (((8 : Int32) + (((G 19 ((((G 17 ((G 19 264).toNatClampNeg)) >>> ((20 : Int32) &&& 31)) &&& (7 : Int32)).toNatClampNeg)) + (((G 17 ((G 19 264).toNatClampNeg)) <<< ((16 : Int32) &&& 31)) >>> ((16 : Int32) &&& 31))) &&& (255 : Int32))).toNatClampNeg) (G 19 ((((G 17 ((G 19 264).toNatClampNeg)) >>> ((24 : Int32) &&& 31)) &&& (7 : Int32)).toNatClampNeg))) 19 264 (((G 19 264) + (1 : Int32)) &&& (63 : Int32))) O H locs := hB
              refine lv_iconst (v := 1) hx hb d_Mo_advance_328 (by decide) ?_
              exact g_zret hC hB hr hlk (by decide) (by decide) (by decide) (by rw [hf]) (by rw [hf]) d_Mo_advance_329
          · replace hf := hf.trans (if_pos c6)
            replace hok := hok.1 c6
            refine lv_aload_n hx hb d_Mo_advance_159 rfl (lv_at hl 8 rfl) ?_
            refine lv_sipush (v := 266) hx hb d_Mo_advance_160 (by decide) ?_
            refine lv_dup2_11 hx hb d_Mo_advance_163 rfl rfl ?_
            refine ga_19 (x := (G 19 266)) hC hB (by unfold vp_in; decide) rfl d_Mo_advance_164 ?_
            refine lv_iconst (v := 1) hx hb d_Mo_advance_165 (by decide) ?_
            refine lv_iadd hx hb d_Mo_advance_166 ?_
            refine gs_19 hC hB (by unfold vp_in; decide) d_Mo_advance_167 (fun H locs hB => ?_)
            replace hB : gB s0 s D cI cL ad (g_up (g_up G 16 14 (-1)) 19 266 ((G 19 266) + (1 : Int32))) O H locs := hB
            refine lv_aload_n hx hb d_Mo_advance_168 rfl (lv_at hl 8 rfl) ?_
            refine lv_sipush (v := 267) hx hb d_Mo_advance_169 (by decide) ?_
            refine lv_bipush (v := 31) hx hb d_Mo_advance_172 (by decide) ?_
            refine lv_aload_n hx hb d_Mo_advance_174 rfl (lv_at hl 8 rfl) ?_
            refine lv_sipush (v := 267) hx hb d_Mo_advance_175 (by decide) ?_
            refine ga_19 (x := (G 19 267)) hC hB (by unfold vp_in; decide) rfl d_Mo_advance_178 ?_
            refine lv_imul hx hb d_Mo_advance_179 ?_
            refine lv_aload_n hx hb d_Mo_advance_180 rfl (lv_at hl 8 rfl) ?_
            refine lv_iload hx hb d_Mo_advance_181 (lv_at hl 4 rfl) ?_
            refine ga_19 (x := ((g_up (g_up G 16 14 (-1)) 19 266 ((G 19 266) + (1 : Int32))) 19 ((((G 17 ((G 19 264).toNatClampNeg)) >>> ((24 : Int32) &&& 31)) &&& (7 : Int32)).toNatClampNeg))) hC hB hok.1 rfl d_Mo_advance_183 ?_
            replace hok := hok.2
            refine lv_iadd hx hb d_Mo_advance_184 ?_
            refine gs_19 hC hB (by unfold vp_in; decide) d_Mo_advance_185 (fun H locs hB => ?_)
            replace hB : gB s0 s D cI cL ad (g_up (g_up (g_up G 16 14 (-1)) 19 266 ((G 19 266) + (1 : Int32))) 19 267 (((31 : Int32) * (G 19 267)) + ((g_up (g_up G 16 14 (-1)) 19 266 ((G 19 266) + (1 : Int32))) 19 ((((G 17 ((G 19 264).toNatClampNeg)) >>> ((24 : Int32) &&& 31)) &&& (7 : Int32)).toNatClampNeg)))) O H locs := hB
            refine lv_goto (tgt := 321) hx hb d_Mo_advance_186 (by decide) ?_
            refine lv_aload_n hx hb d_Mo_advance_321 rfl (lv_at hl 8 rfl) ?_
            refine lv_sipush (v := 264) hx hb d_Mo_advance_322 (by decide) ?_
            refine lv_iload hx hb d_Mo_advance_325 (lv_at hl 0 rfl) ?_
            refine gs_19 hC hB (by unfold vp_in; decide) d_Mo_advance_327 (fun H locs hB => ?_)
            replace hB : gB s0 s D cI cL ad (g_up (g_up (g_up (g_up G 16 14 (-1)) 19 266 ((G 19 266) + (1 : Int32))) 19 267 (((31 : Int32) * (G 19 267)) + ((g_up (g_up G 16 14 (-1)) 19 266 ((G 19 266) + (1 : Int32))) 19 ((((G 17 ((G 19 264).toNatClampNeg)) >>> ((24 : Int32) &&& 31)) &&& (7 : Int32)).toNatClampNeg)))) 19 264 (((G 19 264) + (1 : Int32)) &&& (63 : Int32))) O H locs := hB
            refine lv_iconst (v := 1) hx hb d_Mo_advance_328 (by decide) ?_
            exact g_zret hC hB hr hlk (by decide) (by decide) (by decide) (by rw [hf]) (by rw [hf]) d_Mo_advance_329
        · replace hf := hf.trans (if_pos c5)
          replace hok := hok.1 c5
          refine lv_aload_n hx hb d_Mo_advance_124 rfl (lv_at hl 8 rfl) ?_
          refine lv_iload hx hb d_Mo_advance_125 (lv_at hl 4 rfl) ?_
          refine ga_19 (x := (G 19 ((((G 17 ((G 19 264).toNatClampNeg)) >>> ((24 : Int32) &&& 31)) &&& (7 : Int32)).toNatClampNeg))) hC hB hok.1 rfl d_Mo_advance_127 ?_
          replace hok := hok.2
          refine lv_if_eq (tgt := 145) hx hb d_Mo_advance_128 (by decide) (fun c13 => ?_) (fun c13 => ?_)
          · replace hf := hf.trans (if_pos c13)
            refine lv_iload hx hb d_Mo_advance_145 (lv_at hl 0 rfl) ?_
            refine lv_istore (lv' := [(9, .int (((G 19 264) + (1 : Int32)) &&& (63 : Int32))), (8, .int (((G 17 ((G 19 264).toNatClampNeg)) <<< ((16 : Int32) &&& 31)) >>> ((16 : Int32) &&& 31))), (7, .int (((G 17 ((G 19 264).toNatClampNeg)) >>> ((16 : Int32) &&& 31)) &&& (7 : Int32))), (6, .int (((G 17 ((G 19 264).toNatClampNeg)) >>> ((20 : Int32) &&& 31)) &&& (7 : Int32))), (5, .int (((G 17 ((G 19 264).toNatClampNeg)) >>> ((24 : Int32) &&& 31)) &&& (7 : Int32))), (4, .int (f_Mo_kindOf G (G 17 ((G 19 264).toNatClampNeg)))), (3, .int (G 17 ((G 19 264).toNatClampNeg))), (0, .ref (ad 16)), (1, .ref (ad 19)), (2, .int p2)]) hx hb d_Mo_advance_147 hl (by decide) rfl (fun ls hl => ?_)
            refine lv_goto (tgt := 321) hx hb d_Mo_advance_149 (by decide) ?_
            refine lv_aload_n hx hb d_Mo_advance_321 rfl (lv_at hl 8 rfl) ?_
            refine lv_sipush (v := 264) hx hb d_Mo_advance_322 (by decide) ?_
            refine lv_iload hx hb d_Mo_advance_325 (lv_at hl 0 rfl) ?_
            refine gs_19 hC hB (by unfold vp_in; decide) d_Mo_advance_327 (fun H locs hB => ?_)
            replace hB : gB s0 s D cI cL ad (g_up (g_up G 16 14 (-1)) 19 264 (((G 19 264) + (1 : Int32)) &&& (63 : Int32))) O H locs := hB
            refine lv_iconst (v := 1) hx hb d_Mo_advance_328 (by decide) ?_
            exact g_zret hC hB hr hlk (by decide) (by decide) (by decide) (by rw [hf]) (by rw [hf]) d_Mo_advance_329
          · replace hf := hf.trans (if_neg c13)
            refine lv_aload_n hx hb d_Mo_advance_131 rfl (lv_at hl 8 rfl) ?_
            refine lv_sipush (v := 264) hx hb d_Mo_advance_132 (by decide) ?_
            refine ga_19 (x := (G 19 264)) hC hB (by unfold vp_in; decide) rfl d_Mo_advance_135 ?_
            refine lv_iload hx hb d_Mo_advance_136 (lv_at hl 1 rfl) ?_
            refine lv_iadd hx hb d_Mo_advance_138 ?_
            refine lv_bipush (v := 63) hx hb d_Mo_advance_139 (by decide) ?_
            refine lv_iand hx hb d_Mo_advance_141 ?_
            refine lv_goto (tgt := 147) hx hb d_Mo_advance_142 (by decide) ?_
            refine lv_istore (lv' := [(9, .int (((G 19 264) + (((G 17 ((G 19 264).toNatClampNeg)) <<< ((16 : Int32) &&& 31)) >>> ((16 : Int32) &&& 31))) &&& (63 : Int32))), (8, .int (((G 17 ((G 19 264).toNatClampNeg)) <<< ((16 : Int32) &&& 31)) >>> ((16 : Int32) &&& 31))), (7, .int (((G 17 ((G 19 264).toNatClampNeg)) >>> ((16 : Int32) &&& 31)) &&& (7 : Int32))), (6, .int (((G 17 ((G 19 264).toNatClampNeg)) >>> ((20 : Int32) &&& 31)) &&& (7 : Int32))), (5, .int (((G 17 ((G 19 264).toNatClampNeg)) >>> ((24 : Int32) &&& 31)) &&& (7 : Int32))), (4, .int (f_Mo_kindOf G (G 17 ((G 19 264).toNatClampNeg)))), (3, .int (G 17 ((G 19 264).toNatClampNeg))), (0, .ref (ad 16)), (1, .ref (ad 19)), (2, .int p2)]) hx hb d_Mo_advance_147 hl (by decide) rfl (fun ls hl => ?_)
            refine lv_goto (tgt := 321) hx hb d_Mo_advance_149 (by decide) ?_
            refine lv_aload_n hx hb d_Mo_advance_321 rfl (lv_at hl 8 rfl) ?_
            refine lv_sipush (v := 264) hx hb d_Mo_advance_322 (by decide) ?_
            refine lv_iload hx hb d_Mo_advance_325 (lv_at hl 0 rfl) ?_
            refine gs_19 hC hB (by unfold vp_in; decide) d_Mo_advance_327 (fun H locs hB => ?_)
            replace hB : gB s0 s D cI cL ad (g_up (g_up G 16 14 (-1)) 19 264 (((G 19 264) + (((G 17 ((G 19 264).toNatClampNeg)) <<< ((16 : Int32) &&& 31)) >>> ((16 : Int32) &&& 31))) &&& (63 : Int32))) O H locs := hB
            refine lv_iconst (v := 1) hx hb d_Mo_advance_328 (by decide) ?_
            exact g_zret hC hB hr hlk (by decide) (by decide) (by decide) (by rw [hf]) (by rw [hf]) d_Mo_advance_329
      · replace hf := hf.trans (if_neg c4)
        replace hok := hok.2 c4
        refine lv_aload_n hx hb d_Mo_advance_88 rfl (lv_at hl 7 rfl) ?_
        refine lv_sipush (v := 268) hx hb d_Mo_advance_89 (by decide) ?_
        refine lv_iload hx hb d_Mo_advance_92 (lv_at hl 4 rfl) ?_
        refine lv_if_ne (tgt := 101) hx hb d_Mo_advance_94 (by decide) (fun c14 => ?_) (fun c14 => ?_)
        · replace hf := hf.trans (if_neg c14)
          refine lv_iconst (v := 2) hx hb d_Mo_advance_101 (by decide) ?_
          refine gs_19 hC hB (by unfold vp_in; decide) d_Mo_advance_102 (fun H locs hB => ?_)
          replace hB : gB s0 s D cI cL ad (g_up (g_up G 16 14 (-1)) 19 268 2) O H locs := hB
          refine lv_iconst (v := 1) hx hb d_Mo_advance_103 (by decide) ?_
          exact g_zret hC hB hr hlk (by decide) (by decide) (by decide) (by rw [hf]) (by rw [hf]) d_Mo_advance_104
        · replace hf := hf.trans (if_pos c14)
          refine lv_iconst (v := 1) hx hb d_Mo_advance_97 (by decide) ?_
          refine lv_goto (tgt := 102) hx hb d_Mo_advance_98 (by decide) ?_
          refine gs_19 hC hB (by unfold vp_in; decide) d_Mo_advance_102 (fun H locs hB => ?_)
          replace hB : gB s0 s D cI cL ad (g_up (g_up G 16 14 (-1)) 19 268 1) O H locs := hB
          refine lv_iconst (v := 1) hx hb d_Mo_advance_103 (by decide) ?_
          exact g_zret hC hB hr hlk (by decide) (by decide) (by decide) (by rw [hf]) (by rw [hf]) d_Mo_advance_104
  · replace hf := hf.trans (if_pos c1)
    replace hok := hok.1 c1
    refine lv_aload_n hx hb d_Mo_advance_65 rfl (lv_at hl 7 rfl) ?_
    refine lv_sipush (v := 265) hx hb d_Mo_advance_66 (by decide) ?_
    refine ga_19 (x := (G 19 265)) hC hB (by unfold vp_in; decide) rfl d_Mo_advance_69 ?_
    refine lv_iload_n hx hb d_Mo_advance_70 rfl (lv_at hl 8 rfl) ?_
    refine lv_icmp_lt (tgt := 76) hx hb d_Mo_advance_71 (by decide) (fun c15 => ?_) (fun c15 => ?_)
    · replace hf := hf.trans (if_pos c15)
      replace hok := hok.1 c15
      refine lv_iload hx hb d_Mo_advance_76 (lv_at hl 4 rfl) ?_
      refine lv_if_eq (tgt := 88) hx hb d_Mo_advance_78 (by decide) (fun c16 => ?_) (fun c16 => ?_)
      · replace hf := hf.trans (if_pos c16)
        replace hok := hok.1 c16
        refine lv_aload_n hx hb d_Mo_advance_88 rfl (lv_at hl 7 rfl) ?_
        refine lv_sipush (v := 268) hx hb d_Mo_advance_89 (by decide) ?_
        refine lv_iload hx hb d_Mo_advance_92 (lv_at hl 4 rfl) ?_
        refine lv_if_ne (tgt := 101) hx hb d_Mo_advance_94 (by decide) (fun c17 => ?_) (fun c17 => ?_)
        · replace hf := hf.trans (if_neg c17)
          refine lv_iconst (v := 2) hx hb d_Mo_advance_101 (by decide) ?_
          refine gs_19 hC hB (by unfold vp_in; decide) d_Mo_advance_102 (fun H locs hB => ?_)
          replace hB : gB s0 s D cI cL ad (g_up (g_up G 16 14 (-1)) 19 268 2) O H locs := hB
          refine lv_iconst (v := 1) hx hb d_Mo_advance_103 (by decide) ?_
          exact g_zret hC hB hr hlk (by decide) (by decide) (by decide) (by rw [hf]) (by rw [hf]) d_Mo_advance_104
        · replace hf := hf.trans (if_pos c17)
          refine lv_iconst (v := 1) hx hb d_Mo_advance_97 (by decide) ?_
          refine lv_goto (tgt := 102) hx hb d_Mo_advance_98 (by decide) ?_
          refine gs_19 hC hB (by unfold vp_in; decide) d_Mo_advance_102 (fun H locs hB => ?_)
          replace hB : gB s0 s D cI cL ad (g_up (g_up G 16 14 (-1)) 19 268 1) O H locs := hB
          refine lv_iconst (v := 1) hx hb d_Mo_advance_103 (by decide) ?_
          exact g_zret hC hB hr hlk (by decide) (by decide) (by decide) (by rw [hf]) (by rw [hf]) d_Mo_advance_104
      · replace hf := hf.trans (if_neg c16)
        replace hok := hok.2 c16
        refine lv_iload hx hb d_Mo_advance_81 (lv_at hl 4 rfl) ?_
        refine lv_bipush (v := 12) hx hb d_Mo_advance_83 (by decide) ?_
        refine lv_icmp_le (tgt := 105) hx hb d_Mo_advance_85 (by decide) (fun c18 => ?_) (fun c18 => ?_)
        · replace hf := hf.trans (if_pos c18)
          replace hok := hok.1 c18
          refine lv_aload_n hx hb d_Mo_advance_105 rfl (lv_at hl 7 rfl) ?_
          refine lv_sipush (v := 264) hx hb d_Mo_advance_106 (by decide) ?_
          refine ga_19 (x := (G 19 264)) hC hB (by unfold vp_in; decide) rfl d_Mo_advance_109 ?_
          refine lv_iconst (v := 1) hx hb d_Mo_advance_110 (by decide) ?_
          refine lv_iadd hx hb d_Mo_advance_111 ?_
          refine lv_bipush (v := 63) hx hb d_Mo_advance_112 (by decide) ?_
          refine lv_iand hx hb d_Mo_advance_114 ?_
          refine lv_istore (lv' := [(9, .int (((G 19 264) + (1 : Int32)) &&& (63 : Int32))), (8, .int (((G 17 ((G 19 264).toNatClampNeg)) <<< ((16 : Int32) &&& 31)) >>> ((16 : Int32) &&& 31))), (7, .int (((G 17 ((G 19 264).toNatClampNeg)) >>> ((16 : Int32) &&& 31)) &&& (7 : Int32))), (6, .int (((G 17 ((G 19 264).toNatClampNeg)) >>> ((20 : Int32) &&& 31)) &&& (7 : Int32))), (5, .int (((G 17 ((G 19 264).toNatClampNeg)) >>> ((24 : Int32) &&& 31)) &&& (7 : Int32))), (4, .int (f_Mo_kindOf G (G 17 ((G 19 264).toNatClampNeg)))), (3, .int (G 17 ((G 19 264).toNatClampNeg))), (0, .ref (ad 16)), (1, .ref (ad 19)), (2, .int p2)]) hx hb d_Mo_advance_115 hl (by decide) rfl (fun ls hl => ?_)
          refine lv_iload hx hb d_Mo_advance_117 (lv_at hl 5 rfl) ?_
          refine lv_bipush (v := 7) hx hb d_Mo_advance_119 (by decide) ?_
          refine lv_icmp_ne (tgt := 152) hx hb d_Mo_advance_121 (by decide) (fun c19 => ?_) (fun c19 => ?_)
          · replace hf := hf.trans (if_neg c19)
            replace hok := hok.2 c19
            refine lv_iload hx hb d_Mo_advance_152 (lv_at hl 5 rfl) ?_
            refine lv_bipush (v := 9) hx hb d_Mo_advance_154 (by decide) ?_
            refine lv_icmp_ne (tgt := 189) hx hb d_Mo_advance_156 (by decide) (fun c20 => ?_) (fun c20 => ?_)
            · replace hf := hf.trans (if_neg c20)
              replace hok := hok.2 c20
              refine lv_iload hx hb d_Mo_advance_189 (lv_at hl 5 rfl) ?_
              refine lv_bipush (v := 6) hx hb d_Mo_advance_191 (by decide) ?_
              refine lv_icmp_ne (tgt := 227) hx hb d_Mo_advance_193 (by decide) (fun c21 => ?_) (fun c21 => ?_)
              · replace hf := hf.trans (if_neg c21)
                replace hok := hok.2 c21
                refine lv_iload hx hb d_Mo_advance_227 (lv_at hl 5 rfl) ?_
                refine lv_iconst (v := 5) hx hb d_Mo_advance_229 (by decide) ?_
                refine lv_icmp_ne (tgt := 252) hx hb d_Mo_advance_230 (by decide) (fun c22 => ?_) (fun c22 => ?_)
                · replace hf := hf.trans (if_neg c22)
                  replace hok := hok.2 c22
                  refine lv_iload hx hb d_Mo_advance_252 (lv_at hl 5 rfl) ?_
                  refine lv_bipush (v := 8) hx hb d_Mo_advance_254 (by decide) ?_
                  refine lv_icmp_ne (tgt := 272) hx hb d_Mo_advance_256 (by decide) (fun c23 => ?_) (fun c23 => ?_)
                  · replace hf := hf.trans (if_neg c23)
                    replace hok := hok.2 c23
                    refine lv_iload hx hb d_Mo_advance_272 (lv_at hl 5 rfl) ?_
                    refine lv_aload_n hx hb d_Mo_advance_274 rfl (lv_at hl 8 rfl) ?_
                    refine lv_iload hx hb d_Mo_advance_275 (lv_at hl 3 rfl) ?_
                    refine ga_19 (x := (G 19 ((((G 17 ((G 19 264).toNatClampNeg)) >>> ((20 : Int32) &&& 31)) &&& (7 : Int32)).toNatClampNeg))) hC hB hok.1 rfl d_Mo_advance_277 ?_
                    replace hok := hok.2
                    refine lv_aload_n hx hb d_Mo_advance_278 rfl (lv_at hl 8 rfl) ?_
                    refine lv_iload hx hb d_Mo_advance_279 (lv_at hl 2 rfl) ?_
                    refine ga_19 (x := (G 19 ((((G 17 ((G 19 264).toNatClampNeg)) >>> ((16 : Int32) &&& 31)) &&& (7 : Int32)).toNatClampNeg))) hC hB hok.1 rfl d_Mo_advance_281 ?_
                    replace hok := hok.2
                    refine lv_iload hx hb d_Mo_advance_282 (lv_at hl 1 rfl) ?_
                    refine g_callSi (As := [.int (f_Mo_kindOf G (G 17 ((G 19 264).toNatClampNeg))), .int (G 19 ((((G 17 ((G 19 264).toNatClampNeg)) >>> ((20 : Int32) &&& 31)) &&& (7 : Int32)).toNatClampNeg)), .int (G 19 ((((G 17 ((G 19 264).toNatClampNeg)) >>> ((16 : Int32) &&& 31)) &&& (7 : Int32)).toNatClampNeg)), .int (((G 17 ((G 19 264).toNatClampNeg)) <<< ((16 : Int32) &&& 31)) >>> ((16 : Int32) &&& 31))]) (rest := []) hC hB (c_Mo_result l (g_up G 16 14 (-1)) (f_Mo_kindOf G (G 17 ((G 19 264).toNatClampNeg))) (G 19 ((((G 17 ((G 19 264).toNatClampNeg)) >>> ((20 : Int32) &&& 31)) &&& (7 : Int32)).toNatClampNeg)) (G 19 ((((G 17 ((G 19 264).toNatClampNeg)) >>> ((16 : Int32) &&& 31)) &&& (7 : Int32)).toNatClampNeg)) (((G 17 ((G 19 264).toNatClampNeg)) <<< ((16 : Int32) &&& 31)) >>> ((16 : Int32) &&& 31)) O) rfl key_Mo_result rfl sta_Mo_result ml_Mo_75 rfl hl.1 ⟨Nat.le_of_ble_eq_true rfl, Nat.le_of_ble_eq_true rfl, Nat.le_of_ble_eq_true rfl, Nat.le_of_ble_eq_true rfl⟩ d_Mo_advance_284 (fun H locs hB => ?_)
                    refine lv_istore (lv' := [(10, .int (f_Mo_result (g_up G 16 14 (-1)) (f_Mo_kindOf G (G 17 ((G 19 264).toNatClampNeg))) (G 19 ((((G 17 ((G 19 264).toNatClampNeg)) >>> ((20 : Int32) &&& 31)) &&& (7 : Int32)).toNatClampNeg)) (G 19 ((((G 17 ((G 19 264).toNatClampNeg)) >>> ((16 : Int32) &&& 31)) &&& (7 : Int32)).toNatClampNeg)) (((G 17 ((G 19 264).toNatClampNeg)) <<< ((16 : Int32) &&& 31)) >>> ((16 : Int32) &&& 31)))), (9, .int (((G 19 264) + (1 : Int32)) &&& (63 : Int32))), (8, .int (((G 17 ((G 19 264).toNatClampNeg)) <<< ((16 : Int32) &&& 31)) >>> ((16 : Int32) &&& 31))), (7, .int (((G 17 ((G 19 264).toNatClampNeg)) >>> ((16 : Int32) &&& 31)) &&& (7 : Int32))), (6, .int (((G 17 ((G 19 264).toNatClampNeg)) >>> ((20 : Int32) &&& 31)) &&& (7 : Int32))), (5, .int (((G 17 ((G 19 264).toNatClampNeg)) >>> ((24 : Int32) &&& 31)) &&& (7 : Int32))), (4, .int (f_Mo_kindOf G (G 17 ((G 19 264).toNatClampNeg)))), (3, .int (G 17 ((G 19 264).toNatClampNeg))), (0, .ref (ad 16)), (1, .ref (ad 19)), (2, .int p2)]) hx hb d_Mo_advance_287 hl (by decide) rfl (fun ls hl => ?_)
                    refine lv_aload_n hx hb d_Mo_advance_289 rfl (lv_at hl 9 rfl) ?_
                    refine lv_sipush (v := 265) hx hb d_Mo_advance_290 (by decide) ?_
                    refine lv_dup2_11 hx hb d_Mo_advance_293 rfl rfl ?_
                    refine ga_19 (x := (G 19 265)) hC hB (by unfold vp_in; decide) rfl d_Mo_advance_294 ?_
                    refine lv_iload hx hb d_Mo_advance_295 (lv_at hl 6 rfl) ?_
                    refine lv_bipush (v := 8) hx hb d_Mo_advance_297 (by decide) ?_
                    refine lv_icmp_ne (tgt := 306) hx hb d_Mo_advance_299 (by decide) (fun c24 => ?_) (fun c24 => ?_)
                    · replace hf := hf.trans (if_neg c24)
                      replace hok := hok.2 c24
                      refine lv_iconst (v := 0) hx hb d_Mo_advance_306 (by decide) ?_
                      refine lv_iadd hx hb d_Mo_advance_307 ?_
                      refine gs_19 hC hB (by unfold vp_in; decide) d_Mo_advance_308 (fun H locs hB => ?_)
                      replace hB : gB s0 s D cI cL ad (g_up (g_up G 16 14 (-1)) 19 265 ((G 19 265) + (0 : Int32))) O H locs := hB
                      refine lv_aload_n hx hb d_Mo_advance_309 rfl (lv_at hl 9 rfl) ?_
                      refine lv_iload hx hb d_Mo_advance_310 (lv_at hl 5 rfl) ?_
                      refine lv_iload hx hb d_Mo_advance_312 (lv_at hl 0 rfl) ?_
                      refine gs_19 hC hB hok.1 d_Mo_advance_314 (fun H locs hB => ?_)
                      replace hok := hok.2
                      refine lv_aload_n hx hb d_Mo_advance_315 rfl (lv_at hl 8 rfl) ?_
                      refine lv_iload hx hb d_Mo_advance_316 (lv_at hl 5 rfl) ?_
                      refine gp_16_14 hC hB fl_Mo_72 d_Mo_advance_318 (fun H locs hB => ?_)
                      refine lv_aload_n hx hb d_Mo_advance_321 rfl (lv_at hl 9 rfl) ?_
                      refine lv_sipush (v := 264) hx hb d_Mo_advance_322 (by decide) ?_
                      refine lv_iload hx hb d_Mo_advance_325 (lv_at hl 1 rfl) ?_
                      refine gs_19 hC hB (by unfold vp_in; decide) d_Mo_advance_327 (fun H locs hB => ?_)
                      replace hB : gB s0 s D cI cL ad (g_up (g_up (g_up (g_up (g_up G 16 14 (-1)) 19 265 ((G 19 265) + (0 : Int32))) 19 ((((G 17 ((G 19 264).toNatClampNeg)) >>> ((24 : Int32) &&& 31)) &&& (7 : Int32)).toNatClampNeg) (f_Mo_result (g_up G 16 14 (-1)) (f_Mo_kindOf G (G 17 ((G 19 264).toNatClampNeg))) (G 19 ((((G 17 ((G 19 264).toNatClampNeg)) >>> ((20 : Int32) &&& 31)) &&& (7 : Int32)).toNatClampNeg)) (G 19 ((((G 17 ((G 19 264).toNatClampNeg)) >>> ((16 : Int32) &&& 31)) &&& (7 : Int32)).toNatClampNeg)) (((G 17 ((G 19 264).toNatClampNeg)) <<< ((16 : Int32) &&& 31)) >>> ((16 : Int32) &&& 31)))) 16 14 (((G 17 ((G 19 264).toNatClampNeg)) >>> ((24 : Int32) &&& 31)) &&& (7 : Int32))) 19 264 (((G 19 264) + (1 : Int32)) &&& (63 : Int32))) O H locs := hB
                      refine lv_iconst (v := 1) hx hb d_Mo_advance_328 (by decide) ?_
                      exact g_zret hC hB hr hlk (by decide) (by decide) (by decide) (by rw [hf]) (by rw [hf]) d_Mo_advance_329
                    · replace hf := hf.trans (if_pos c24)
                      replace hok := hok.1 c24
                      refine lv_iconst (v := 1) hx hb d_Mo_advance_302 (by decide) ?_
                      refine lv_goto (tgt := 307) hx hb d_Mo_advance_303 (by decide) ?_
                      refine lv_iadd hx hb d_Mo_advance_307 ?_
                      refine gs_19 hC hB (by unfold vp_in; decide) d_Mo_advance_308 (fun H locs hB => ?_)
                      replace hB : gB s0 s D cI cL ad (g_up (g_up G 16 14 (-1)) 19 265 ((G 19 265) + (1 : Int32))) O H locs := hB
                      refine lv_aload_n hx hb d_Mo_advance_309 rfl (lv_at hl 9 rfl) ?_
                      refine lv_iload hx hb d_Mo_advance_310 (lv_at hl 5 rfl) ?_
                      refine lv_iload hx hb d_Mo_advance_312 (lv_at hl 0 rfl) ?_
                      refine gs_19 hC hB hok.1 d_Mo_advance_314 (fun H locs hB => ?_)
                      replace hok := hok.2
                      refine lv_aload_n hx hb d_Mo_advance_315 rfl (lv_at hl 8 rfl) ?_
                      refine lv_iload hx hb d_Mo_advance_316 (lv_at hl 5 rfl) ?_
                      refine gp_16_14 hC hB fl_Mo_72 d_Mo_advance_318 (fun H locs hB => ?_)
                      refine lv_aload_n hx hb d_Mo_advance_321 rfl (lv_at hl 9 rfl) ?_
                      refine lv_sipush (v := 264) hx hb d_Mo_advance_322 (by decide) ?_
                      refine lv_iload hx hb d_Mo_advance_325 (lv_at hl 1 rfl) ?_
                      refine gs_19 hC hB (by unfold vp_in; decide) d_Mo_advance_327 (fun H locs hB => ?_)
                      replace hB : gB s0 s D cI cL ad (g_up (g_up (g_up (g_up (g_up G 16 14 (-1)) 19 265 ((G 19 265) + (1 : Int32))) 19 ((((G 17 ((G 19 264).toNatClampNeg)) >>> ((24 : Int32) &&& 31)) &&& (7 : Int32)).toNatClampNeg) (f_Mo_result (g_up G 16 14 (-1)) (f_Mo_kindOf G (G 17 ((G 19 264).toNatClampNeg))) (G 19 ((((G 17 ((G 19 264).toNatClampNeg)) >>> ((20 : Int32) &&& 31)) &&& (7 : Int32)).toNatClampNeg)) (G 19 ((((G 17 ((G 19 264).toNatClampNeg)) >>> ((16 : Int32) &&& 31)) &&& (7 : Int32)).toNatClampNeg)) (((G 17 ((G 19 264).toNatClampNeg)) <<< ((16 : Int32) &&& 31)) >>> ((16 : Int32) &&& 31)))) 16 14 (((G 17 ((G 19 264).toNatClampNeg)) >>> ((24 : Int32) &&& 31)) &&& (7 : Int32))) 19 264 (((G 19 264) + (1 : Int32)) &&& (63 : Int32))) O H locs := hB
                      refine lv_iconst (v := 1) hx hb d_Mo_advance_328 (by decide) ?_
                      exact g_zret hC hB hr hlk (by decide) (by decide) (by decide) (by rw [hf]) (by rw [hf]) d_Mo_advance_329
                  · replace hf := hf.trans (if_pos c23)
                    replace hok := hok.1 c23
                    refine lv_aload_n hx hb d_Mo_advance_259 rfl (lv_at hl 7 rfl) ?_
                    refine gr_16_5 hC hB fl_Mo_13 d_Mo_advance_260 ?_
                    refine lv_aload_n hx hb d_Mo_advance_263 rfl (lv_at hl 8 rfl) ?_
                    refine lv_sipush (v := 265) hx hb d_Mo_advance_264 (by decide) ?_
                    refine ga_19 (x := (G 19 265)) hC hB (by unfold vp_in; decide) rfl d_Mo_advance_267 ?_
                    refine ga_18 (x := (G 18 ((G 19 265).toNatClampNeg))) hC hB hok.1 rfl d_Mo_advance_268 ?_
                    replace hok := hok.2
                    refine lv_goto (tgt := 287) hx hb d_Mo_advance_269 (by decide) ?_
                    refine lv_istore (lv' := [(10, .int (G 18 ((G 19 265).toNatClampNeg))), (9, .int (((G 19 264) + (1 : Int32)) &&& (63 : Int32))), (8, .int (((G 17 ((G 19 264).toNatClampNeg)) <<< ((16 : Int32) &&& 31)) >>> ((16 : Int32) &&& 31))), (7, .int (((G 17 ((G 19 264).toNatClampNeg)) >>> ((16 : Int32) &&& 31)) &&& (7 : Int32))), (6, .int (((G 17 ((G 19 264).toNatClampNeg)) >>> ((20 : Int32) &&& 31)) &&& (7 : Int32))), (5, .int (((G 17 ((G 19 264).toNatClampNeg)) >>> ((24 : Int32) &&& 31)) &&& (7 : Int32))), (4, .int (f_Mo_kindOf G (G 17 ((G 19 264).toNatClampNeg)))), (3, .int (G 17 ((G 19 264).toNatClampNeg))), (0, .ref (ad 16)), (1, .ref (ad 19)), (2, .int p2)]) hx hb d_Mo_advance_287 hl (by decide) rfl (fun ls hl => ?_)
                    refine lv_aload_n hx hb d_Mo_advance_289 rfl (lv_at hl 9 rfl) ?_
                    refine lv_sipush (v := 265) hx hb d_Mo_advance_290 (by decide) ?_
                    refine lv_dup2_11 hx hb d_Mo_advance_293 rfl rfl ?_
                    refine ga_19 (x := (G 19 265)) hC hB (by unfold vp_in; decide) rfl d_Mo_advance_294 ?_
                    refine lv_iload hx hb d_Mo_advance_295 (lv_at hl 6 rfl) ?_
                    refine lv_bipush (v := 8) hx hb d_Mo_advance_297 (by decide) ?_
                    refine lv_icmp_ne (tgt := 306) hx hb d_Mo_advance_299 (by decide) (fun c25 => ?_) (fun c25 => ?_)
                    · replace hf := hf.trans (if_neg c25)
                      replace hok := hok.2 c25
                      refine lv_iconst (v := 0) hx hb d_Mo_advance_306 (by decide) ?_
                      refine lv_iadd hx hb d_Mo_advance_307 ?_
                      refine gs_19 hC hB (by unfold vp_in; decide) d_Mo_advance_308 (fun H locs hB => ?_)
                      replace hB : gB s0 s D cI cL ad (g_up (g_up G 16 14 (-1)) 19 265 ((G 19 265) + (0 : Int32))) O H locs := hB
                      refine lv_aload_n hx hb d_Mo_advance_309 rfl (lv_at hl 9 rfl) ?_
                      refine lv_iload hx hb d_Mo_advance_310 (lv_at hl 5 rfl) ?_
                      refine lv_iload hx hb d_Mo_advance_312 (lv_at hl 0 rfl) ?_
                      refine gs_19 hC hB hok.1 d_Mo_advance_314 (fun H locs hB => ?_)
                      replace hok := hok.2
                      refine lv_aload_n hx hb d_Mo_advance_315 rfl (lv_at hl 8 rfl) ?_
                      refine lv_iload hx hb d_Mo_advance_316 (lv_at hl 5 rfl) ?_
                      refine gp_16_14 hC hB fl_Mo_72 d_Mo_advance_318 (fun H locs hB => ?_)
                      refine lv_aload_n hx hb d_Mo_advance_321 rfl (lv_at hl 9 rfl) ?_
                      refine lv_sipush (v := 264) hx hb d_Mo_advance_322 (by decide) ?_
                      refine lv_iload hx hb d_Mo_advance_325 (lv_at hl 1 rfl) ?_
                      refine gs_19 hC hB (by unfold vp_in; decide) d_Mo_advance_327 (fun H locs hB => ?_)
                      replace hB : gB s0 s D cI cL ad (g_up (g_up (g_up (g_up (g_up G 16 14 (-1)) 19 265 ((G 19 265) + (0 : Int32))) 19 ((((G 17 ((G 19 264).toNatClampNeg)) >>> ((24 : Int32) &&& 31)) &&& (7 : Int32)).toNatClampNeg) (G 18 ((G 19 265).toNatClampNeg))) 16 14 (((G 17 ((G 19 264).toNatClampNeg)) >>> ((24 : Int32) &&& 31)) &&& (7 : Int32))) 19 264 (((G 19 264) + (1 : Int32)) &&& (63 : Int32))) O H locs := hB
                      refine lv_iconst (v := 1) hx hb d_Mo_advance_328 (by decide) ?_
                      exact g_zret hC hB hr hlk (by decide) (by decide) (by decide) (by rw [hf]) (by rw [hf]) d_Mo_advance_329
                    · replace hf := hf.trans (if_pos c25)
                      replace hok := hok.1 c25
                      refine lv_iconst (v := 1) hx hb d_Mo_advance_302 (by decide) ?_
                      refine lv_goto (tgt := 307) hx hb d_Mo_advance_303 (by decide) ?_
                      refine lv_iadd hx hb d_Mo_advance_307 ?_
                      refine gs_19 hC hB (by unfold vp_in; decide) d_Mo_advance_308 (fun H locs hB => ?_)
                      replace hB : gB s0 s D cI cL ad (g_up (g_up G 16 14 (-1)) 19 265 ((G 19 265) + (1 : Int32))) O H locs := hB
                      refine lv_aload_n hx hb d_Mo_advance_309 rfl (lv_at hl 9 rfl) ?_
                      refine lv_iload hx hb d_Mo_advance_310 (lv_at hl 5 rfl) ?_
                      refine lv_iload hx hb d_Mo_advance_312 (lv_at hl 0 rfl) ?_
                      refine gs_19 hC hB hok.1 d_Mo_advance_314 (fun H locs hB => ?_)
                      replace hok := hok.2
                      refine lv_aload_n hx hb d_Mo_advance_315 rfl (lv_at hl 8 rfl) ?_
                      refine lv_iload hx hb d_Mo_advance_316 (lv_at hl 5 rfl) ?_
                      refine gp_16_14 hC hB fl_Mo_72 d_Mo_advance_318 (fun H locs hB => ?_)
                      refine lv_aload_n hx hb d_Mo_advance_321 rfl (lv_at hl 9 rfl) ?_
                      refine lv_sipush (v := 264) hx hb d_Mo_advance_322 (by decide) ?_
                      refine lv_iload hx hb d_Mo_advance_325 (lv_at hl 1 rfl) ?_
                      refine gs_19 hC hB (by unfold vp_in; decide) d_Mo_advance_327 (fun H locs hB => ?_)
                      replace hB : gB s0 s D cI cL ad (g_up (g_up (g_up (g_up (g_up G 16 14 (-1)) 19 265 ((G 19 265) + (1 : Int32))) 19 ((((G 17 ((G 19 264).toNatClampNeg)) >>> ((24 : Int32) &&& 31)) &&& (7 : Int32)).toNatClampNeg) (G 18 ((G 19 265).toNatClampNeg))) 16 14 (((G 17 ((G 19 264).toNatClampNeg)) >>> ((24 : Int32) &&& 31)) &&& (7 : Int32))) 19 264 (((G 19 264) + (1 : Int32)) &&& (63 : Int32))) O H locs := hB
                      refine lv_iconst (v := 1) hx hb d_Mo_advance_328 (by decide) ?_
                      exact g_zret hC hB hr hlk (by decide) (by decide) (by decide) (by rw [hf]) (by rw [hf]) d_Mo_advance_329
                · replace hf := hf.trans (if_pos c22)
                  replace hok := hok.1 c22
                  refine lv_aload_n hx hb d_Mo_advance_233 rfl (lv_at hl 8 rfl) ?_
                  refine lv_bipush (v := 8) hx hb d_Mo_advance_234 (by decide) ?_
                  refine lv_aload_n hx hb d_Mo_advance_236 rfl (lv_at hl 8 rfl) ?_
                  refine lv_iload hx hb d_Mo_advance_237 (lv_at hl 3 rfl) ?_
                  refine ga_19 (x := (G 19 ((((G 17 ((G 19 264).toNatClampNeg)) >>> ((20 : Int32) &&& 31)) &&& (7 : Int32)).toNatClampNeg))) hC hB hok.1 rfl d_Mo_advance_239 ?_
                  replace hok := hok.2
                  refine lv_iload hx hb d_Mo_advance_240 (lv_at hl 1 rfl) ?_
                  refine lv_iadd hx hb d_Mo_advance_242 ?_
                  refine lv_sipush (v := 255) hx hb d_Mo_advance_243 (by decide) ?_
                  refine lv_iand hx hb d_Mo_advance_246 ?_
                  refine lv_iadd hx hb d_Mo_advance_247 ?_
                  refine ga_19 (x := (G 19 (((8 : Int32) + (((G 19 ((((G 17 ((G 19 264).toNatClampNeg)) >>> ((20 : Int32) &&& 31)) &&& (7 : Int32)).toNatClampNeg)) + (((G 17 ((G 19 264).toNatClampNeg)) <<< ((16 : Int32) &&& 31)) >>> ((16 : Int32) &&& 31))) &&& (255 : Int32))).toNatClampNeg))) hC hB hok.1 rfl d_Mo_advance_248 ?_
                  replace hok := hok.2
                  refine lv_goto (tgt := 287) hx hb d_Mo_advance_249 (by decide) ?_
                  refine lv_istore (lv' := [(10, .int (G 19 (((8 : Int32) + (((G 19 ((((G 17 ((G 19 264).toNatClampNeg)) >>> ((20 : Int32) &&& 31)) &&& (7 : Int32)).toNatClampNeg)) + (((G 17 ((G 19 264).toNatClampNeg)) <<< ((16 : Int32) &&& 31)) >>> ((16 : Int32) &&& 31))) &&& (255 : Int32))).toNatClampNeg))), (9, .int (((G 19 264) + (1 : Int32)) &&& (63 : Int32))), (8, .int (((G 17 ((G 19 264).toNatClampNeg)) <<< ((16 : Int32) &&& 31)) >>> ((16 : Int32) &&& 31))), (7, .int (((G 17 ((G 19 264).toNatClampNeg)) >>> ((16 : Int32) &&& 31)) &&& (7 : Int32))), (6, .int (((G 17 ((G 19 264).toNatClampNeg)) >>> ((20 : Int32) &&& 31)) &&& (7 : Int32))), (5, .int (((G 17 ((G 19 264).toNatClampNeg)) >>> ((24 : Int32) &&& 31)) &&& (7 : Int32))), (4, .int (f_Mo_kindOf G (G 17 ((G 19 264).toNatClampNeg)))), (3, .int (G 17 ((G 19 264).toNatClampNeg))), (0, .ref (ad 16)), (1, .ref (ad 19)), (2, .int p2)]) hx hb d_Mo_advance_287 hl (by decide) rfl (fun ls hl => ?_)
                  refine lv_aload_n hx hb d_Mo_advance_289 rfl (lv_at hl 9 rfl) ?_
                  refine lv_sipush (v := 265) hx hb d_Mo_advance_290 (by decide) ?_
                  refine lv_dup2_11 hx hb d_Mo_advance_293 rfl rfl ?_
                  refine ga_19 (x := (G 19 265)) hC hB (by unfold vp_in; decide) rfl d_Mo_advance_294 ?_
                  refine lv_iload hx hb d_Mo_advance_295 (lv_at hl 6 rfl) ?_
                  refine lv_bipush (v := 8) hx hb d_Mo_advance_297 (by decide) ?_
                  refine lv_icmp_ne (tgt := 306) hx hb d_Mo_advance_299 (by decide) (fun c26 => ?_) (fun c26 => ?_)
                  · replace hf := hf.trans (if_neg c26)
                    replace hok := hok.2 c26
                    refine lv_iconst (v := 0) hx hb d_Mo_advance_306 (by decide) ?_
                    refine lv_iadd hx hb d_Mo_advance_307 ?_
                    refine gs_19 hC hB (by unfold vp_in; decide) d_Mo_advance_308 (fun H locs hB => ?_)
                    replace hB : gB s0 s D cI cL ad (g_up (g_up G 16 14 (-1)) 19 265 ((G 19 265) + (0 : Int32))) O H locs := hB
                    refine lv_aload_n hx hb d_Mo_advance_309 rfl (lv_at hl 9 rfl) ?_
                    refine lv_iload hx hb d_Mo_advance_310 (lv_at hl 5 rfl) ?_
                    refine lv_iload hx hb d_Mo_advance_312 (lv_at hl 0 rfl) ?_
                    refine gs_19 hC hB hok.1 d_Mo_advance_314 (fun H locs hB => ?_)
                    replace hok := hok.2
                    refine lv_aload_n hx hb d_Mo_advance_315 rfl (lv_at hl 8 rfl) ?_
                    refine lv_iload hx hb d_Mo_advance_316 (lv_at hl 5 rfl) ?_
                    refine gp_16_14 hC hB fl_Mo_72 d_Mo_advance_318 (fun H locs hB => ?_)
                    refine lv_aload_n hx hb d_Mo_advance_321 rfl (lv_at hl 9 rfl) ?_
                    refine lv_sipush (v := 264) hx hb d_Mo_advance_322 (by decide) ?_
                    refine lv_iload hx hb d_Mo_advance_325 (lv_at hl 1 rfl) ?_
                    refine gs_19 hC hB (by unfold vp_in; decide) d_Mo_advance_327 (fun H locs hB => ?_)
                    replace hB : gB s0 s D cI cL ad (g_up (g_up (g_up (g_up (g_up G 16 14 (-1)) 19 265 ((G 19 265) + (0 : Int32))) 19 ((((G 17 ((G 19 264).toNatClampNeg)) >>> ((24 : Int32) &&& 31)) &&& (7 : Int32)).toNatClampNeg) (G 19 (((8 : Int32) + (((G 19 ((((G 17 ((G 19 264).toNatClampNeg)) >>> ((20 : Int32) &&& 31)) &&& (7 : Int32)).toNatClampNeg)) + (((G 17 ((G 19 264).toNatClampNeg)) <<< ((16 : Int32) &&& 31)) >>> ((16 : Int32) &&& 31))) &&& (255 : Int32))).toNatClampNeg))) 16 14 (((G 17 ((G 19 264).toNatClampNeg)) >>> ((24 : Int32) &&& 31)) &&& (7 : Int32))) 19 264 (((G 19 264) + (1 : Int32)) &&& (63 : Int32))) O H locs := hB
                    refine lv_iconst (v := 1) hx hb d_Mo_advance_328 (by decide) ?_
                    exact g_zret hC hB hr hlk (by decide) (by decide) (by decide) (by rw [hf]) (by rw [hf]) d_Mo_advance_329
                  · replace hf := hf.trans (if_pos c26)
                    replace hok := hok.1 c26
                    refine lv_iconst (v := 1) hx hb d_Mo_advance_302 (by decide) ?_
                    refine lv_goto (tgt := 307) hx hb d_Mo_advance_303 (by decide) ?_
                    refine lv_iadd hx hb d_Mo_advance_307 ?_
                    refine gs_19 hC hB (by unfold vp_in; decide) d_Mo_advance_308 (fun H locs hB => ?_)
                    replace hB : gB s0 s D cI cL ad (g_up (g_up G 16 14 (-1)) 19 265 ((G 19 265) + (1 : Int32))) O H locs := hB
                    refine lv_aload_n hx hb d_Mo_advance_309 rfl (lv_at hl 9 rfl) ?_
                    refine lv_iload hx hb d_Mo_advance_310 (lv_at hl 5 rfl) ?_
                    refine lv_iload hx hb d_Mo_advance_312 (lv_at hl 0 rfl) ?_
                    refine gs_19 hC hB hok.1 d_Mo_advance_314 (fun H locs hB => ?_)
                    replace hok := hok.2
                    refine lv_aload_n hx hb d_Mo_advance_315 rfl (lv_at hl 8 rfl) ?_
                    refine lv_iload hx hb d_Mo_advance_316 (lv_at hl 5 rfl) ?_
                    refine gp_16_14 hC hB fl_Mo_72 d_Mo_advance_318 (fun H locs hB => ?_)
                    refine lv_aload_n hx hb d_Mo_advance_321 rfl (lv_at hl 9 rfl) ?_
                    refine lv_sipush (v := 264) hx hb d_Mo_advance_322 (by decide) ?_
                    refine lv_iload hx hb d_Mo_advance_325 (lv_at hl 1 rfl) ?_
                    refine gs_19 hC hB (by unfold vp_in; decide) d_Mo_advance_327 (fun H locs hB => ?_)
                    replace hB : gB s0 s D cI cL ad (g_up (g_up (g_up (g_up (g_up G 16 14 (-1)) 19 265 ((G 19 265) + (1 : Int32))) 19 ((((G 17 ((G 19 264).toNatClampNeg)) >>> ((24 : Int32) &&& 31)) &&& (7 : Int32)).toNatClampNeg) (G 19 (((8 : Int32) + (((G 19 ((((G 17 ((G 19 264).toNatClampNeg)) >>> ((20 : Int32) &&& 31)) &&& (7 : Int32)).toNatClampNeg)) + (((G 17 ((G 19 264).toNatClampNeg)) <<< ((16 : Int32) &&& 31)) >>> ((16 : Int32) &&& 31))) &&& (255 : Int32))).toNatClampNeg))) 16 14 (((G 17 ((G 19 264).toNatClampNeg)) >>> ((24 : Int32) &&& 31)) &&& (7 : Int32))) 19 264 (((G 19 264) + (1 : Int32)) &&& (63 : Int32))) O H locs := hB
                    refine lv_iconst (v := 1) hx hb d_Mo_advance_328 (by decide) ?_
                    exact g_zret hC hB hr hlk (by decide) (by decide) (by decide) (by rw [hf]) (by rw [hf]) d_Mo_advance_329
              · replace hf := hf.trans (if_pos c21)
                replace hok := hok.1 c21
                refine lv_aload_n hx hb d_Mo_advance_196 rfl (lv_at hl 7 rfl) ?_
                refine lv_bipush (v := 8) hx hb d_Mo_advance_197 (by decide) ?_
                refine lv_aload_n hx hb d_Mo_advance_199 rfl (lv_at hl 8 rfl) ?_
                refine lv_iload hx hb d_Mo_advance_200 (lv_at hl 3 rfl) ?_
                refine ga_19 (x := (G 19 ((((G 17 ((G 19 264).toNatClampNeg)) >>> ((20 : Int32) &&& 31)) &&& (7 : Int32)).toNatClampNeg))) hC hB hok.1 rfl d_Mo_advance_202 ?_
                replace hok := hok.2
                refine lv_iload hx hb d_Mo_advance_203 (lv_at hl 1 rfl) ?_
                refine lv_iadd hx hb d_Mo_advance_205 ?_
                refine lv_sipush (v := 255) hx hb d_Mo_advance_206 (by decide) ?_
                refine lv_iand hx hb d_Mo_advance_209 ?_
                refine lv_iadd hx hb d_Mo_advance_210 ?_
                refine gp_16_14 hC hB fl_Mo_72 d_Mo_advance_211 (fun H locs hB => ?_)
                refine lv_aload_n hx hb d_Mo_advance_214 rfl (lv_at hl 8 rfl) ?_
                refine lv_aload_n hx hb d_Mo_advance_215 rfl (lv_at hl 7 rfl) ?_
                refine gg_16_14 (x := (8 : Int32) + (((G 19 ((((G 17 ((G 19 264).toNatClampNeg)) >>> ((20 : Int32) &&& 31)) &&& (7 : Int32)).toNatClampNeg)) + (((G 17 ((G 19 264).toNatClampNeg)) <<< ((16 : Int32) &&& 31)) >>> ((16 : Int32) &&& 31))) &&& (255 : Int32))) hC hB rfl fl_Mo_72 d_Mo_advance_216 ?_
                refine lv_aload_n hx hb d_Mo_advance_219 rfl (lv_at hl 8 rfl) ?_
                refine lv_iload hx hb d_Mo_advance_220 (lv_at hl 4 rfl) ?_
                refine ga_19 (x := (G 19 ((((G 17 ((G 19 264).toNatClampNeg)) >>> ((24 : Int32) &&& 31)) &&& (7 : Int32)).toNatClampNeg))) hC hB hok.1 rfl d_Mo_advance_222 ?_
                replace hok := hok.2
                refine gs_19 hC hB hok.1 d_Mo_advance_223 (fun H locs hB => ?_)
                replace hok := hok.2
                refine lv_goto (tgt := 321) hx hb d_Mo_advance_224 (by decide) ?_
                refine lv_aload_n hx hb d_Mo_advance_321 rfl (lv_at hl 8 rfl) ?_
                refine lv_sipush (v := 264) hx hb d_Mo_advance_322 (by decide) ?_
                refine lv_iload hx hb d_Mo_advance_325 (lv_at hl 0 rfl) ?_
                refine gs_19 hC hB (by unfold vp_in; decide) d_Mo_advance_327 (fun H locs hB => ?_)
                replace hB : gB s0 s D cI cL ad (g_up (g_up (g_up (g_up G 16 14 (-1)) 16 14 ((8 : Int32) + (((G 19 ((((G 17 ((G 19 264).toNatClampNeg)) >>> ((20 : Int32) &&& 31)) &&& (7 : Int32)).toNatClampNeg)) + (((G 17 ((G 19 264).toNatClampNeg)) <<< ((16 : Int32) &&& 31)) >>> ((16 : Int32) &&& 31))) &&& (255 : Int32)))) 19 (((8 : Int32) + (((G 19 ((((G 17 ((G 19 264).toNatClampNeg)) >>> ((20 : Int32) &&& 31)) &&& (7 : Int32)).toNatClampNeg)) + (((G 17 ((G 19 264).toNatClampNeg)) <<< ((16 : Int32) &&& 31)) >>> ((16 : Int32) &&& 31))) &&& (255 : Int32))).toNatClampNeg) (G 19 ((((G 17 ((G 19 264).toNatClampNeg)) >>> ((24 : Int32) &&& 31)) &&& (7 : Int32)).toNatClampNeg))) 19 264 (((G 19 264) + (1 : Int32)) &&& (63 : Int32))) O H locs := hB
                refine lv_iconst (v := 1) hx hb d_Mo_advance_328 (by decide) ?_
                exact g_zret hC hB hr hlk (by decide) (by decide) (by decide) (by rw [hf]) (by rw [hf]) d_Mo_advance_329
            · replace hf := hf.trans (if_pos c20)
              replace hok := hok.1 c20
              refine lv_aload_n hx hb d_Mo_advance_159 rfl (lv_at hl 8 rfl) ?_
              refine lv_sipush (v := 266) hx hb d_Mo_advance_160 (by decide) ?_
              refine lv_dup2_11 hx hb d_Mo_advance_163 rfl rfl ?_
              refine ga_19 (x := (G 19 266)) hC hB (by unfold vp_in; decide) rfl d_Mo_advance_164 ?_
              refine lv_iconst (v := 1) hx hb d_Mo_advance_165 (by decide) ?_
              refine lv_iadd hx hb d_Mo_advance_166 ?_
              refine gs_19 hC hB (by unfold vp_in; decide) d_Mo_advance_167 (fun H locs hB => ?_)
              replace hB : gB s0 s D cI cL ad (g_up (g_up G 16 14 (-1)) 19 266 ((G 19 266) + (1 : Int32))) O H locs := hB
              refine lv_aload_n hx hb d_Mo_advance_168 rfl (lv_at hl 8 rfl) ?_
              refine lv_sipush (v := 267) hx hb d_Mo_advance_169 (by decide) ?_
              refine lv_bipush (v := 31) hx hb d_Mo_advance_172 (by decide) ?_
              refine lv_aload_n hx hb d_Mo_advance_174 rfl (lv_at hl 8 rfl) ?_
              refine lv_sipush (v := 267) hx hb d_Mo_advance_175 (by decide) ?_
              refine ga_19 (x := (G 19 267)) hC hB (by unfold vp_in; decide) rfl d_Mo_advance_178 ?_
              refine lv_imul hx hb d_Mo_advance_179 ?_
              refine lv_aload_n hx hb d_Mo_advance_180 rfl (lv_at hl 8 rfl) ?_
              refine lv_iload hx hb d_Mo_advance_181 (lv_at hl 4 rfl) ?_
              refine ga_19 (x := ((g_up (g_up G 16 14 (-1)) 19 266 ((G 19 266) + (1 : Int32))) 19 ((((G 17 ((G 19 264).toNatClampNeg)) >>> ((24 : Int32) &&& 31)) &&& (7 : Int32)).toNatClampNeg))) hC hB hok.1 rfl d_Mo_advance_183 ?_
              replace hok := hok.2
              refine lv_iadd hx hb d_Mo_advance_184 ?_
              refine gs_19 hC hB (by unfold vp_in; decide) d_Mo_advance_185 (fun H locs hB => ?_)
              replace hB : gB s0 s D cI cL ad (g_up (g_up (g_up G 16 14 (-1)) 19 266 ((G 19 266) + (1 : Int32))) 19 267 (((31 : Int32) * (G 19 267)) + ((g_up (g_up G 16 14 (-1)) 19 266 ((G 19 266) + (1 : Int32))) 19 ((((G 17 ((G 19 264).toNatClampNeg)) >>> ((24 : Int32) &&& 31)) &&& (7 : Int32)).toNatClampNeg)))) O H locs := hB
              refine lv_goto (tgt := 321) hx hb d_Mo_advance_186 (by decide) ?_
              refine lv_aload_n hx hb d_Mo_advance_321 rfl (lv_at hl 8 rfl) ?_
              refine lv_sipush (v := 264) hx hb d_Mo_advance_322 (by decide) ?_
              refine lv_iload hx hb d_Mo_advance_325 (lv_at hl 0 rfl) ?_
              refine gs_19 hC hB (by unfold vp_in; decide) d_Mo_advance_327 (fun H locs hB => ?_)
              replace hB : gB s0 s D cI cL ad (g_up (g_up (g_up (g_up G 16 14 (-1)) 19 266 ((G 19 266) + (1 : Int32))) 19 267 (((31 : Int32) * (G 19 267)) + ((g_up (g_up G 16 14 (-1)) 19 266 ((G 19 266) + (1 : Int32))) 19 ((((G 17 ((G 19 264).toNatClampNeg)) >>> ((24 : Int32) &&& 31)) &&& (7 : Int32)).toNatClampNeg)))) 19 264 (((G 19 264) + (1 : Int32)) &&& (63 : Int32))) O H locs := hB
              refine lv_iconst (v := 1) hx hb d_Mo_advance_328 (by decide) ?_
              exact g_zret hC hB hr hlk (by decide) (by decide) (by decide) (by rw [hf]) (by rw [hf]) d_Mo_advance_329
          · replace hf := hf.trans (if_pos c19)
            replace hok := hok.1 c19
            refine lv_aload_n hx hb d_Mo_advance_124 rfl (lv_at hl 8 rfl) ?_
            refine lv_iload hx hb d_Mo_advance_125 (lv_at hl 4 rfl) ?_
            refine ga_19 (x := (G 19 ((((G 17 ((G 19 264).toNatClampNeg)) >>> ((24 : Int32) &&& 31)) &&& (7 : Int32)).toNatClampNeg))) hC hB hok.1 rfl d_Mo_advance_127 ?_
            replace hok := hok.2
            refine lv_if_eq (tgt := 145) hx hb d_Mo_advance_128 (by decide) (fun c27 => ?_) (fun c27 => ?_)
            · replace hf := hf.trans (if_pos c27)
              refine lv_iload hx hb d_Mo_advance_145 (lv_at hl 0 rfl) ?_
              refine lv_istore (lv' := [(9, .int (((G 19 264) + (1 : Int32)) &&& (63 : Int32))), (8, .int (((G 17 ((G 19 264).toNatClampNeg)) <<< ((16 : Int32) &&& 31)) >>> ((16 : Int32) &&& 31))), (7, .int (((G 17 ((G 19 264).toNatClampNeg)) >>> ((16 : Int32) &&& 31)) &&& (7 : Int32))), (6, .int (((G 17 ((G 19 264).toNatClampNeg)) >>> ((20 : Int32) &&& 31)) &&& (7 : Int32))), (5, .int (((G 17 ((G 19 264).toNatClampNeg)) >>> ((24 : Int32) &&& 31)) &&& (7 : Int32))), (4, .int (f_Mo_kindOf G (G 17 ((G 19 264).toNatClampNeg)))), (3, .int (G 17 ((G 19 264).toNatClampNeg))), (0, .ref (ad 16)), (1, .ref (ad 19)), (2, .int p2)]) hx hb d_Mo_advance_147 hl (by decide) rfl (fun ls hl => ?_)
              refine lv_goto (tgt := 321) hx hb d_Mo_advance_149 (by decide) ?_
              refine lv_aload_n hx hb d_Mo_advance_321 rfl (lv_at hl 8 rfl) ?_
              refine lv_sipush (v := 264) hx hb d_Mo_advance_322 (by decide) ?_
              refine lv_iload hx hb d_Mo_advance_325 (lv_at hl 0 rfl) ?_
              refine gs_19 hC hB (by unfold vp_in; decide) d_Mo_advance_327 (fun H locs hB => ?_)
              replace hB : gB s0 s D cI cL ad (g_up (g_up G 16 14 (-1)) 19 264 (((G 19 264) + (1 : Int32)) &&& (63 : Int32))) O H locs := hB
              refine lv_iconst (v := 1) hx hb d_Mo_advance_328 (by decide) ?_
              exact g_zret hC hB hr hlk (by decide) (by decide) (by decide) (by rw [hf]) (by rw [hf]) d_Mo_advance_329
            · replace hf := hf.trans (if_neg c27)
              refine lv_aload_n hx hb d_Mo_advance_131 rfl (lv_at hl 8 rfl) ?_
              refine lv_sipush (v := 264) hx hb d_Mo_advance_132 (by decide) ?_
              refine ga_19 (x := (G 19 264)) hC hB (by unfold vp_in; decide) rfl d_Mo_advance_135 ?_
              refine lv_iload hx hb d_Mo_advance_136 (lv_at hl 1 rfl) ?_
              refine lv_iadd hx hb d_Mo_advance_138 ?_
              refine lv_bipush (v := 63) hx hb d_Mo_advance_139 (by decide) ?_
              refine lv_iand hx hb d_Mo_advance_141 ?_
              refine lv_goto (tgt := 147) hx hb d_Mo_advance_142 (by decide) ?_
              refine lv_istore (lv' := [(9, .int (((G 19 264) + (((G 17 ((G 19 264).toNatClampNeg)) <<< ((16 : Int32) &&& 31)) >>> ((16 : Int32) &&& 31))) &&& (63 : Int32))), (8, .int (((G 17 ((G 19 264).toNatClampNeg)) <<< ((16 : Int32) &&& 31)) >>> ((16 : Int32) &&& 31))), (7, .int (((G 17 ((G 19 264).toNatClampNeg)) >>> ((16 : Int32) &&& 31)) &&& (7 : Int32))), (6, .int (((G 17 ((G 19 264).toNatClampNeg)) >>> ((20 : Int32) &&& 31)) &&& (7 : Int32))), (5, .int (((G 17 ((G 19 264).toNatClampNeg)) >>> ((24 : Int32) &&& 31)) &&& (7 : Int32))), (4, .int (f_Mo_kindOf G (G 17 ((G 19 264).toNatClampNeg)))), (3, .int (G 17 ((G 19 264).toNatClampNeg))), (0, .ref (ad 16)), (1, .ref (ad 19)), (2, .int p2)]) hx hb d_Mo_advance_147 hl (by decide) rfl (fun ls hl => ?_)
              refine lv_goto (tgt := 321) hx hb d_Mo_advance_149 (by decide) ?_
              refine lv_aload_n hx hb d_Mo_advance_321 rfl (lv_at hl 8 rfl) ?_
              refine lv_sipush (v := 264) hx hb d_Mo_advance_322 (by decide) ?_
              refine lv_iload hx hb d_Mo_advance_325 (lv_at hl 0 rfl) ?_
              refine gs_19 hC hB (by unfold vp_in; decide) d_Mo_advance_327 (fun H locs hB => ?_)
              replace hB : gB s0 s D cI cL ad (g_up (g_up G 16 14 (-1)) 19 264 (((G 19 264) + (((G 17 ((G 19 264).toNatClampNeg)) <<< ((16 : Int32) &&& 31)) >>> ((16 : Int32) &&& 31))) &&& (63 : Int32))) O H locs := hB
              refine lv_iconst (v := 1) hx hb d_Mo_advance_328 (by decide) ?_
              exact g_zret hC hB hr hlk (by decide) (by decide) (by decide) (by rw [hf]) (by rw [hf]) d_Mo_advance_329
        · replace hf := hf.trans (if_neg c18)
          replace hok := hok.2 c18
          refine lv_aload_n hx hb d_Mo_advance_88 rfl (lv_at hl 7 rfl) ?_
          refine lv_sipush (v := 268) hx hb d_Mo_advance_89 (by decide) ?_
          refine lv_iload hx hb d_Mo_advance_92 (lv_at hl 4 rfl) ?_
          refine lv_if_ne (tgt := 101) hx hb d_Mo_advance_94 (by decide) (fun c28 => ?_) (fun c28 => ?_)
          · replace hf := hf.trans (if_neg c28)
            refine lv_iconst (v := 2) hx hb d_Mo_advance_101 (by decide) ?_
            refine gs_19 hC hB (by unfold vp_in; decide) d_Mo_advance_102 (fun H locs hB => ?_)
            replace hB : gB s0 s D cI cL ad (g_up (g_up G 16 14 (-1)) 19 268 2) O H locs := hB
            refine lv_iconst (v := 1) hx hb d_Mo_advance_103 (by decide) ?_
            exact g_zret hC hB hr hlk (by decide) (by decide) (by decide) (by rw [hf]) (by rw [hf]) d_Mo_advance_104
          · replace hf := hf.trans (if_pos c28)
            refine lv_iconst (v := 1) hx hb d_Mo_advance_97 (by decide) ?_
            refine lv_goto (tgt := 102) hx hb d_Mo_advance_98 (by decide) ?_
            refine gs_19 hC hB (by unfold vp_in; decide) d_Mo_advance_102 (fun H locs hB => ?_)
            replace hB : gB s0 s D cI cL ad (g_up (g_up G 16 14 (-1)) 19 268 1) O H locs := hB
            refine lv_iconst (v := 1) hx hb d_Mo_advance_103 (by decide) ?_
            exact g_zret hC hB hr hlk (by decide) (by decide) (by decide) (by rw [hf]) (by rw [hf]) d_Mo_advance_104
    · replace hf := hf.trans (if_neg c15)
      replace hok := hok.2 c15
      refine lv_iconst (v := 0) hx hb d_Mo_advance_74 (by decide) ?_
      exact g_zret hC hB hr hlk (by decide) (by decide) (by decide) (by rw [hf]) (by rw [hf]) d_Mo_advance_75
abbrev rm_Mo_costOf : Room := { frames := 1, cells := 0, slots := 0, locals := 12 }
def f_Mo_costOf (G : gT) : Int32 := (if (G 16 14) < 0 then (if (G 19 264) = (((G 21 ((((269 : Int32) * (f_Mo_slot G (G 16 11))) + (264 : Int32)).toNatClampNeg)) + (1 : Int32)) &&& (63 : Int32)) then ((((1 : Int32) + (0 : Int32)) + (0 : Int32)) + ((G 19 265) - (G 21 ((((269 : Int32) * (f_Mo_slot G (G 16 11))) + (265 : Int32)).toNatClampNeg)))) + ((G 19 266) - (G 21 ((((269 : Int32) * (f_Mo_slot G (G 16 11))) + (266 : Int32)).toNatClampNeg))) else ((((1 : Int32) + (0 : Int32)) + (1 : Int32)) + ((G 19 265) - (G 21 ((((269 : Int32) * (f_Mo_slot G (G 16 11))) + (265 : Int32)).toNatClampNeg)))) + ((G 19 266) - (G 21 ((((269 : Int32) * (f_Mo_slot G (G 16 11))) + (266 : Int32)).toNatClampNeg)))) else (if (G 19 ((G 16 14).toNatClampNeg)) = (G 21 ((((269 : Int32) * (f_Mo_slot G (G 16 11))) + (G 16 14)).toNatClampNeg)) then (if (G 19 264) = (((G 21 ((((269 : Int32) * (f_Mo_slot G (G 16 11))) + (264 : Int32)).toNatClampNeg)) + (1 : Int32)) &&& (63 : Int32)) then ((((1 : Int32) + (0 : Int32)) + (0 : Int32)) + ((G 19 265) - (G 21 ((((269 : Int32) * (f_Mo_slot G (G 16 11))) + (265 : Int32)).toNatClampNeg)))) + ((G 19 266) - (G 21 ((((269 : Int32) * (f_Mo_slot G (G 16 11))) + (266 : Int32)).toNatClampNeg))) else ((((1 : Int32) + (0 : Int32)) + (1 : Int32)) + ((G 19 265) - (G 21 ((((269 : Int32) * (f_Mo_slot G (G 16 11))) + (265 : Int32)).toNatClampNeg)))) + ((G 19 266) - (G 21 ((((269 : Int32) * (f_Mo_slot G (G 16 11))) + (266 : Int32)).toNatClampNeg)))) else (if (G 19 264) = (((G 21 ((((269 : Int32) * (f_Mo_slot G (G 16 11))) + (264 : Int32)).toNatClampNeg)) + (1 : Int32)) &&& (63 : Int32)) then ((((1 : Int32) + (1 : Int32)) + (0 : Int32)) + ((G 19 265) - (G 21 ((((269 : Int32) * (f_Mo_slot G (G 16 11))) + (265 : Int32)).toNatClampNeg)))) + ((G 19 266) - (G 21 ((((269 : Int32) * (f_Mo_slot G (G 16 11))) + (266 : Int32)).toNatClampNeg))) else ((((1 : Int32) + (1 : Int32)) + (1 : Int32)) + ((G 19 265) - (G 21 ((((269 : Int32) * (f_Mo_slot G (G 16 11))) + (265 : Int32)).toNatClampNeg)))) + ((G 19 266) - (G 21 ((((269 : Int32) * (f_Mo_slot G (G 16 11))) + (266 : Int32)).toNatClampNeg))))))
def ok_Mo_costOf (G : gT) : Prop := (((G 16 14) < 0 → (vp_in (((269 : Int32) * (f_Mo_slot G (G 16 11))) + (264 : Int32)) 275725 ∧ (((G 19 264) = (((G 21 ((((269 : Int32) * (f_Mo_slot G (G 16 11))) + (264 : Int32)).toNatClampNeg)) + (1 : Int32)) &&& (63 : Int32)) → (vp_in (((269 : Int32) * (f_Mo_slot G (G 16 11))) + (265 : Int32)) 275725 ∧ (vp_in (((269 : Int32) * (f_Mo_slot G (G 16 11))) + (266 : Int32)) 275725 ∧ True))) ∧ (¬ (G 19 264) = (((G 21 ((((269 : Int32) * (f_Mo_slot G (G 16 11))) + (264 : Int32)).toNatClampNeg)) + (1 : Int32)) &&& (63 : Int32)) → (vp_in (((269 : Int32) * (f_Mo_slot G (G 16 11))) + (265 : Int32)) 275725 ∧ (vp_in (((269 : Int32) * (f_Mo_slot G (G 16 11))) + (266 : Int32)) 275725 ∧ True)))))) ∧ (¬ (G 16 14) < 0 → (vp_in (G 16 14) 269 ∧ (vp_in (((269 : Int32) * (f_Mo_slot G (G 16 11))) + (G 16 14)) 275725 ∧ (((G 19 ((G 16 14).toNatClampNeg)) = (G 21 ((((269 : Int32) * (f_Mo_slot G (G 16 11))) + (G 16 14)).toNatClampNeg)) → (vp_in (((269 : Int32) * (f_Mo_slot G (G 16 11))) + (264 : Int32)) 275725 ∧ (((G 19 264) = (((G 21 ((((269 : Int32) * (f_Mo_slot G (G 16 11))) + (264 : Int32)).toNatClampNeg)) + (1 : Int32)) &&& (63 : Int32)) → (vp_in (((269 : Int32) * (f_Mo_slot G (G 16 11))) + (265 : Int32)) 275725 ∧ (vp_in (((269 : Int32) * (f_Mo_slot G (G 16 11))) + (266 : Int32)) 275725 ∧ True))) ∧ (¬ (G 19 264) = (((G 21 ((((269 : Int32) * (f_Mo_slot G (G 16 11))) + (264 : Int32)).toNatClampNeg)) + (1 : Int32)) &&& (63 : Int32)) → (vp_in (((269 : Int32) * (f_Mo_slot G (G 16 11))) + (265 : Int32)) 275725 ∧ (vp_in (((269 : Int32) * (f_Mo_slot G (G 16 11))) + (266 : Int32)) 275725 ∧ True)))))) ∧ (¬ (G 19 ((G 16 14).toNatClampNeg)) = (G 21 ((((269 : Int32) * (f_Mo_slot G (G 16 11))) + (G 16 14)).toNatClampNeg)) → (vp_in (((269 : Int32) * (f_Mo_slot G (G 16 11))) + (264 : Int32)) 275725 ∧ (((G 19 264) = (((G 21 ((((269 : Int32) * (f_Mo_slot G (G 16 11))) + (264 : Int32)).toNatClampNeg)) + (1 : Int32)) &&& (63 : Int32)) → (vp_in (((269 : Int32) * (f_Mo_slot G (G 16 11))) + (265 : Int32)) 275725 ∧ (vp_in (((269 : Int32) * (f_Mo_slot G (G 16 11))) + (266 : Int32)) 275725 ∧ True))) ∧ (¬ (G 19 264) = (((G 21 ((((269 : Int32) * (f_Mo_slot G (G 16 11))) + (264 : Int32)).toNatClampNeg)) + (1 : Int32)) &&& (63 : Int32)) → (vp_in (((269 : Int32) * (f_Mo_slot G (G 16 11))) + (265 : Int32)) 275725 ∧ (vp_in (((269 : Int32) * (f_Mo_slot G (G 16 11))) + (266 : Int32)) 275725 ∧ True)))))))))))
set_option maxHeartbeats 4000000 in
set_option maxRecDepth 100000 in
theorem c_Mo_costOf (l : Launch) (G : gT) (O : Int64) (hok : ok_Mo_costOf G) : gMet l y_Mo_costOf w_Mo_costOf rm_Mo_costOf (fun ad => [.ref (ad 16)]) G O (.inl (some (.int (f_Mo_costOf G)))) G O := by
  refine g_body (by decide) (gCode_of _ _ _ _) (fun ad => by simp [lg_sl, Value.category]) ?_
  intro p e s0 s m args below meth c D cI cL ad hC hr hlk htb hB ls hl
  have hC : CallFix p m c b_Mo_costOf 3 s args gtb R_Mo := hC
  have hl : lv_has ls 3 [(0, .ref (ad 16))] := hl
  have hx := hC.1
  have hb := hC.2.1
  have hf : f_Mo_costOf G = (if (G 16 14) < 0 then (if (G 19 264) = (((G 21 ((((269 : Int32) * (f_Mo_slot G (G 16 11))) + (264 : Int32)).toNatClampNeg)) + (1 : Int32)) &&& (63 : Int32)) then ((((1 : Int32) + (0 : Int32)) + (0 : Int32)) + ((G 19 265) - (G 21 ((((269 : Int32) * (f_Mo_slot G (G 16 11))) + (265 : Int32)).toNatClampNeg)))) + ((G 19 266) - (G 21 ((((269 : Int32) * (f_Mo_slot G (G 16 11))) + (266 : Int32)).toNatClampNeg))) else ((((1 : Int32) + (0 : Int32)) + (1 : Int32)) + ((G 19 265) - (G 21 ((((269 : Int32) * (f_Mo_slot G (G 16 11))) + (265 : Int32)).toNatClampNeg)))) + ((G 19 266) - (G 21 ((((269 : Int32) * (f_Mo_slot G (G 16 11))) + (266 : Int32)).toNatClampNeg)))) else (if (G 19 ((G 16 14).toNatClampNeg)) = (G 21 ((((269 : Int32) * (f_Mo_slot G (G 16 11))) + (G 16 14)).toNatClampNeg)) then (if (G 19 264) = (((G 21 ((((269 : Int32) * (f_Mo_slot G (G 16 11))) + (264 : Int32)).toNatClampNeg)) + (1 : Int32)) &&& (63 : Int32)) then ((((1 : Int32) + (0 : Int32)) + (0 : Int32)) + ((G 19 265) - (G 21 ((((269 : Int32) * (f_Mo_slot G (G 16 11))) + (265 : Int32)).toNatClampNeg)))) + ((G 19 266) - (G 21 ((((269 : Int32) * (f_Mo_slot G (G 16 11))) + (266 : Int32)).toNatClampNeg))) else ((((1 : Int32) + (0 : Int32)) + (1 : Int32)) + ((G 19 265) - (G 21 ((((269 : Int32) * (f_Mo_slot G (G 16 11))) + (265 : Int32)).toNatClampNeg)))) + ((G 19 266) - (G 21 ((((269 : Int32) * (f_Mo_slot G (G 16 11))) + (266 : Int32)).toNatClampNeg)))) else (if (G 19 264) = (((G 21 ((((269 : Int32) * (f_Mo_slot G (G 16 11))) + (264 : Int32)).toNatClampNeg)) + (1 : Int32)) &&& (63 : Int32)) then ((((1 : Int32) + (1 : Int32)) + (0 : Int32)) + ((G 19 265) - (G 21 ((((269 : Int32) * (f_Mo_slot G (G 16 11))) + (265 : Int32)).toNatClampNeg)))) + ((G 19 266) - (G 21 ((((269 : Int32) * (f_Mo_slot G (G 16 11))) + (266 : Int32)).toNatClampNeg))) else ((((1 : Int32) + (1 : Int32)) + (1 : Int32)) + ((G 19 265) - (G 21 ((((269 : Int32) * (f_Mo_slot G (G 16 11))) + (265 : Int32)).toNatClampNeg)))) + ((G 19 266) - (G 21 ((((269 : Int32) * (f_Mo_slot G (G 16 11))) + (266 : Int32)).toNatClampNeg)))))) := rfl
  have hok : (((G 16 14) < 0 → (vp_in (((269 : Int32) * (f_Mo_slot G (G 16 11))) + (264 : Int32)) 275725 ∧ (((G 19 264) = (((G 21 ((((269 : Int32) * (f_Mo_slot G (G 16 11))) + (264 : Int32)).toNatClampNeg)) + (1 : Int32)) &&& (63 : Int32)) → (vp_in (((269 : Int32) * (f_Mo_slot G (G 16 11))) + (265 : Int32)) 275725 ∧ (vp_in (((269 : Int32) * (f_Mo_slot G (G 16 11))) + (266 : Int32)) 275725 ∧ True))) ∧ (¬ (G 19 264) = (((G 21 ((((269 : Int32) * (f_Mo_slot G (G 16 11))) + (264 : Int32)).toNatClampNeg)) + (1 : Int32)) &&& (63 : Int32)) → (vp_in (((269 : Int32) * (f_Mo_slot G (G 16 11))) + (265 : Int32)) 275725 ∧ (vp_in (((269 : Int32) * (f_Mo_slot G (G 16 11))) + (266 : Int32)) 275725 ∧ True)))))) ∧ (¬ (G 16 14) < 0 → (vp_in (G 16 14) 269 ∧ (vp_in (((269 : Int32) * (f_Mo_slot G (G 16 11))) + (G 16 14)) 275725 ∧ (((G 19 ((G 16 14).toNatClampNeg)) = (G 21 ((((269 : Int32) * (f_Mo_slot G (G 16 11))) + (G 16 14)).toNatClampNeg)) → (vp_in (((269 : Int32) * (f_Mo_slot G (G 16 11))) + (264 : Int32)) 275725 ∧ (((G 19 264) = (((G 21 ((((269 : Int32) * (f_Mo_slot G (G 16 11))) + (264 : Int32)).toNatClampNeg)) + (1 : Int32)) &&& (63 : Int32)) → (vp_in (((269 : Int32) * (f_Mo_slot G (G 16 11))) + (265 : Int32)) 275725 ∧ (vp_in (((269 : Int32) * (f_Mo_slot G (G 16 11))) + (266 : Int32)) 275725 ∧ True))) ∧ (¬ (G 19 264) = (((G 21 ((((269 : Int32) * (f_Mo_slot G (G 16 11))) + (264 : Int32)).toNatClampNeg)) + (1 : Int32)) &&& (63 : Int32)) → (vp_in (((269 : Int32) * (f_Mo_slot G (G 16 11))) + (265 : Int32)) 275725 ∧ (vp_in (((269 : Int32) * (f_Mo_slot G (G 16 11))) + (266 : Int32)) 275725 ∧ True)))))) ∧ (¬ (G 19 ((G 16 14).toNatClampNeg)) = (G 21 ((((269 : Int32) * (f_Mo_slot G (G 16 11))) + (G 16 14)).toNatClampNeg)) → (vp_in (((269 : Int32) * (f_Mo_slot G (G 16 11))) + (264 : Int32)) 275725 ∧ (((G 19 264) = (((G 21 ((((269 : Int32) * (f_Mo_slot G (G 16 11))) + (264 : Int32)).toNatClampNeg)) + (1 : Int32)) &&& (63 : Int32)) → (vp_in (((269 : Int32) * (f_Mo_slot G (G 16 11))) + (265 : Int32)) 275725 ∧ (vp_in (((269 : Int32) * (f_Mo_slot G (G 16 11))) + (266 : Int32)) 275725 ∧ True))) ∧ (¬ (G 19 264) = (((G 21 ((((269 : Int32) * (f_Mo_slot G (G 16 11))) + (264 : Int32)).toNatClampNeg)) + (1 : Int32)) &&& (63 : Int32)) → (vp_in (((269 : Int32) * (f_Mo_slot G (G 16 11))) + (265 : Int32)) 275725 ∧ (vp_in (((269 : Int32) * (f_Mo_slot G (G 16 11))) + (266 : Int32)) 275725 ∧ True))))))))))) := hok
  refine lv_aload_n hx hb d_Mo_costOf_0 rfl (lv_at hl 0 rfl) ?_
  refine gg_16_11 (x := (G 16 11)) hC hB rfl fl_Mo_57 d_Mo_costOf_1 ?_
  refine g_callSi (As := [.int (G 16 11)]) (rest := []) hC hB (c_Mo_slot l G (G 16 11) O) rfl key_Mo_slot rfl sta_Mo_slot ml_Mo_60 rfl hl.1 ⟨Nat.le_of_ble_eq_true rfl, Nat.le_of_ble_eq_true rfl, Nat.le_of_ble_eq_true rfl, Nat.le_of_ble_eq_true rfl⟩ d_Mo_costOf_4 (fun H locs hB => ?_)
  refine lv_istore_n (lv' := [(1, .int (f_Mo_slot G (G 16 11))), (0, .ref (ad 16))]) hx hb d_Mo_costOf_7 rfl hl (by decide) rfl (fun ls hl => ?_)
  refine lv_iconst (v := 1) hx hb d_Mo_costOf_8 (by decide) ?_
  refine lv_istore_n (lv' := [(2, .int 1), (1, .int (f_Mo_slot G (G 16 11))), (0, .ref (ad 16))]) hx hb d_Mo_costOf_9 rfl hl (by decide) rfl (fun ls hl => ?_)
  refine lv_iload_n hx hb d_Mo_costOf_10 rfl (lv_at hl 0 rfl) ?_
  refine lv_aload_n hx hb d_Mo_costOf_11 rfl (lv_at hl 2 rfl) ?_
  refine gg_16_14 (x := (G 16 14)) hC hB rfl fl_Mo_72 d_Mo_costOf_12 ?_
  refine lv_if_lt (tgt := 49) hx hb d_Mo_costOf_15 (by decide) (fun c1 => ?_) (fun c1 => ?_)
  · replace hf := hf.trans (if_pos c1)
    replace hok := hok.1 c1
    refine lv_iconst (v := 0) hx hb d_Mo_costOf_49 (by decide) ?_
    refine lv_iadd hx hb d_Mo_costOf_50 ?_
    refine lv_istore_n (lv' := [(2, .int ((1 : Int32) + (0 : Int32))), (1, .int (f_Mo_slot G (G 16 11))), (0, .ref (ad 16))]) hx hb d_Mo_costOf_51 rfl hl (by decide) rfl (fun ls hl => ?_)
    refine lv_iload_n hx hb d_Mo_costOf_52 rfl (lv_at hl 0 rfl) ?_
    refine lv_aload_n hx hb d_Mo_costOf_53 rfl (lv_at hl 2 rfl) ?_
    refine gr_16_6 hC hB fl_Mo_16 d_Mo_costOf_54 ?_
    refine lv_sipush (v := 264) hx hb d_Mo_costOf_57 (by decide) ?_
    refine ga_19 (x := (G 19 264)) hC hB (by unfold vp_in; decide) rfl d_Mo_costOf_60 ?_
    refine lv_aload_n hx hb d_Mo_costOf_61 rfl (lv_at hl 2 rfl) ?_
    refine gr_16_8 hC hB fl_Mo_23 d_Mo_costOf_62 ?_
    refine lv_sipush (v := 269) hx hb d_Mo_costOf_65 (by decide) ?_
    refine lv_iload_n hx hb d_Mo_costOf_68 rfl (lv_at hl 1 rfl) ?_
    refine lv_imul hx hb d_Mo_costOf_69 ?_
    refine lv_sipush (v := 264) hx hb d_Mo_costOf_70 (by decide) ?_
    refine lv_iadd hx hb d_Mo_costOf_73 ?_
    refine ga_21 (x := (G 21 ((((269 : Int32) * (f_Mo_slot G (G 16 11))) + (264 : Int32)).toNatClampNeg))) hC hB hok.1 rfl d_Mo_costOf_74 ?_
    replace hok := hok.2
    refine lv_iconst (v := 1) hx hb d_Mo_costOf_75 (by decide) ?_
    refine lv_iadd hx hb d_Mo_costOf_76 ?_
    refine lv_bipush (v := 63) hx hb d_Mo_costOf_77 (by decide) ?_
    refine lv_iand hx hb d_Mo_costOf_79 ?_
    refine lv_icmp_eq (tgt := 87) hx hb d_Mo_costOf_80 (by decide) (fun c2 => ?_) (fun c2 => ?_)
    · replace hf := hf.trans (if_pos c2)
      replace hok := hok.1 c2
      refine lv_iconst (v := 0) hx hb d_Mo_costOf_87 (by decide) ?_
      refine lv_iadd hx hb d_Mo_costOf_88 ?_
      refine lv_istore_n (lv' := [(2, .int (((1 : Int32) + (0 : Int32)) + (0 : Int32))), (1, .int (f_Mo_slot G (G 16 11))), (0, .ref (ad 16))]) hx hb d_Mo_costOf_89 rfl hl (by decide) rfl (fun ls hl => ?_)
      refine lv_iload_n hx hb d_Mo_costOf_90 rfl (lv_at hl 0 rfl) ?_
      refine lv_aload_n hx hb d_Mo_costOf_91 rfl (lv_at hl 2 rfl) ?_
      refine gr_16_6 hC hB fl_Mo_16 d_Mo_costOf_92 ?_
      refine lv_sipush (v := 265) hx hb d_Mo_costOf_95 (by decide) ?_
      refine ga_19 (x := (G 19 265)) hC hB (by unfold vp_in; decide) rfl d_Mo_costOf_98 ?_
      refine lv_aload_n hx hb d_Mo_costOf_99 rfl (lv_at hl 2 rfl) ?_
      refine gr_16_8 hC hB fl_Mo_23 d_Mo_costOf_100 ?_
      refine lv_sipush (v := 269) hx hb d_Mo_costOf_103 (by decide) ?_
      refine lv_iload_n hx hb d_Mo_costOf_106 rfl (lv_at hl 1 rfl) ?_
      refine lv_imul hx hb d_Mo_costOf_107 ?_
      refine lv_sipush (v := 265) hx hb d_Mo_costOf_108 (by decide) ?_
      refine lv_iadd hx hb d_Mo_costOf_111 ?_
      refine ga_21 (x := (G 21 ((((269 : Int32) * (f_Mo_slot G (G 16 11))) + (265 : Int32)).toNatClampNeg))) hC hB hok.1 rfl d_Mo_costOf_112 ?_
      replace hok := hok.2
      refine lv_isub hx hb d_Mo_costOf_113 ?_
      refine lv_iadd hx hb d_Mo_costOf_114 ?_
      refine lv_istore_n (lv' := [(2, .int ((((1 : Int32) + (0 : Int32)) + (0 : Int32)) + ((G 19 265) - (G 21 ((((269 : Int32) * (f_Mo_slot G (G 16 11))) + (265 : Int32)).toNatClampNeg))))), (1, .int (f_Mo_slot G (G 16 11))), (0, .ref (ad 16))]) hx hb d_Mo_costOf_115 rfl hl (by decide) rfl (fun ls hl => ?_)
      refine lv_iload_n hx hb d_Mo_costOf_116 rfl (lv_at hl 0 rfl) ?_
      refine lv_aload_n hx hb d_Mo_costOf_117 rfl (lv_at hl 2 rfl) ?_
      refine gr_16_6 hC hB fl_Mo_16 d_Mo_costOf_118 ?_
      refine lv_sipush (v := 266) hx hb d_Mo_costOf_121 (by decide) ?_
      refine ga_19 (x := (G 19 266)) hC hB (by unfold vp_in; decide) rfl d_Mo_costOf_124 ?_
      refine lv_aload_n hx hb d_Mo_costOf_125 rfl (lv_at hl 2 rfl) ?_
      refine gr_16_8 hC hB fl_Mo_23 d_Mo_costOf_126 ?_
      refine lv_sipush (v := 269) hx hb d_Mo_costOf_129 (by decide) ?_
      refine lv_iload_n hx hb d_Mo_costOf_132 rfl (lv_at hl 1 rfl) ?_
      refine lv_imul hx hb d_Mo_costOf_133 ?_
      refine lv_sipush (v := 266) hx hb d_Mo_costOf_134 (by decide) ?_
      refine lv_iadd hx hb d_Mo_costOf_137 ?_
      refine ga_21 (x := (G 21 ((((269 : Int32) * (f_Mo_slot G (G 16 11))) + (266 : Int32)).toNatClampNeg))) hC hB hok.1 rfl d_Mo_costOf_138 ?_
      replace hok := hok.2
      refine lv_isub hx hb d_Mo_costOf_139 ?_
      refine lv_iadd hx hb d_Mo_costOf_140 ?_
      refine lv_istore_n (lv' := [(2, .int (((((1 : Int32) + (0 : Int32)) + (0 : Int32)) + ((G 19 265) - (G 21 ((((269 : Int32) * (f_Mo_slot G (G 16 11))) + (265 : Int32)).toNatClampNeg)))) + ((G 19 266) - (G 21 ((((269 : Int32) * (f_Mo_slot G (G 16 11))) + (266 : Int32)).toNatClampNeg))))), (1, .int (f_Mo_slot G (G 16 11))), (0, .ref (ad 16))]) hx hb d_Mo_costOf_141 rfl hl (by decide) rfl (fun ls hl => ?_)
      refine lv_iload_n hx hb d_Mo_costOf_142 rfl (lv_at hl 0 rfl) ?_
      exact g_iret hC hB hr hlk (by decide) (by decide) (by rw [hf]) rfl d_Mo_costOf_143
    · replace hf := hf.trans (if_neg c2)
      replace hok := hok.2 c2
      refine lv_iconst (v := 1) hx hb d_Mo_costOf_83 (by decide) ?_
      refine lv_goto (tgt := 88) hx hb d_Mo_costOf_84 (by decide) ?_
      refine lv_iadd hx hb d_Mo_costOf_88 ?_
      refine lv_istore_n (lv' := [(2, .int (((1 : Int32) + (0 : Int32)) + (1 : Int32))), (1, .int (f_Mo_slot G (G 16 11))), (0, .ref (ad 16))]) hx hb d_Mo_costOf_89 rfl hl (by decide) rfl (fun ls hl => ?_)
      refine lv_iload_n hx hb d_Mo_costOf_90 rfl (lv_at hl 0 rfl) ?_
      refine lv_aload_n hx hb d_Mo_costOf_91 rfl (lv_at hl 2 rfl) ?_
      refine gr_16_6 hC hB fl_Mo_16 d_Mo_costOf_92 ?_
      refine lv_sipush (v := 265) hx hb d_Mo_costOf_95 (by decide) ?_
      refine ga_19 (x := (G 19 265)) hC hB (by unfold vp_in; decide) rfl d_Mo_costOf_98 ?_
      refine lv_aload_n hx hb d_Mo_costOf_99 rfl (lv_at hl 2 rfl) ?_
      refine gr_16_8 hC hB fl_Mo_23 d_Mo_costOf_100 ?_
      refine lv_sipush (v := 269) hx hb d_Mo_costOf_103 (by decide) ?_
      refine lv_iload_n hx hb d_Mo_costOf_106 rfl (lv_at hl 1 rfl) ?_
      refine lv_imul hx hb d_Mo_costOf_107 ?_
      refine lv_sipush (v := 265) hx hb d_Mo_costOf_108 (by decide) ?_
      refine lv_iadd hx hb d_Mo_costOf_111 ?_
      refine ga_21 (x := (G 21 ((((269 : Int32) * (f_Mo_slot G (G 16 11))) + (265 : Int32)).toNatClampNeg))) hC hB hok.1 rfl d_Mo_costOf_112 ?_
      replace hok := hok.2
      refine lv_isub hx hb d_Mo_costOf_113 ?_
      refine lv_iadd hx hb d_Mo_costOf_114 ?_
      refine lv_istore_n (lv' := [(2, .int ((((1 : Int32) + (0 : Int32)) + (1 : Int32)) + ((G 19 265) - (G 21 ((((269 : Int32) * (f_Mo_slot G (G 16 11))) + (265 : Int32)).toNatClampNeg))))), (1, .int (f_Mo_slot G (G 16 11))), (0, .ref (ad 16))]) hx hb d_Mo_costOf_115 rfl hl (by decide) rfl (fun ls hl => ?_)
      refine lv_iload_n hx hb d_Mo_costOf_116 rfl (lv_at hl 0 rfl) ?_
      refine lv_aload_n hx hb d_Mo_costOf_117 rfl (lv_at hl 2 rfl) ?_
      refine gr_16_6 hC hB fl_Mo_16 d_Mo_costOf_118 ?_
      refine lv_sipush (v := 266) hx hb d_Mo_costOf_121 (by decide) ?_
      refine ga_19 (x := (G 19 266)) hC hB (by unfold vp_in; decide) rfl d_Mo_costOf_124 ?_
      refine lv_aload_n hx hb d_Mo_costOf_125 rfl (lv_at hl 2 rfl) ?_
      refine gr_16_8 hC hB fl_Mo_23 d_Mo_costOf_126 ?_
      refine lv_sipush (v := 269) hx hb d_Mo_costOf_129 (by decide) ?_
      refine lv_iload_n hx hb d_Mo_costOf_132 rfl (lv_at hl 1 rfl) ?_
      refine lv_imul hx hb d_Mo_costOf_133 ?_
      refine lv_sipush (v := 266) hx hb d_Mo_costOf_134 (by decide) ?_
      refine lv_iadd hx hb d_Mo_costOf_137 ?_
      refine ga_21 (x := (G 21 ((((269 : Int32) * (f_Mo_slot G (G 16 11))) + (266 : Int32)).toNatClampNeg))) hC hB hok.1 rfl d_Mo_costOf_138 ?_
      replace hok := hok.2
      refine lv_isub hx hb d_Mo_costOf_139 ?_
      refine lv_iadd hx hb d_Mo_costOf_140 ?_
      refine lv_istore_n (lv' := [(2, .int (((((1 : Int32) + (0 : Int32)) + (1 : Int32)) + ((G 19 265) - (G 21 ((((269 : Int32) * (f_Mo_slot G (G 16 11))) + (265 : Int32)).toNatClampNeg)))) + ((G 19 266) - (G 21 ((((269 : Int32) * (f_Mo_slot G (G 16 11))) + (266 : Int32)).toNatClampNeg))))), (1, .int (f_Mo_slot G (G 16 11))), (0, .ref (ad 16))]) hx hb d_Mo_costOf_141 rfl hl (by decide) rfl (fun ls hl => ?_)
      refine lv_iload_n hx hb d_Mo_costOf_142 rfl (lv_at hl 0 rfl) ?_
      exact g_iret hC hB hr hlk (by decide) (by decide) (by rw [hf]) rfl d_Mo_costOf_143
  · replace hf := hf.trans (if_neg c1)
    replace hok := hok.2 c1
    refine lv_aload_n hx hb d_Mo_costOf_18 rfl (lv_at hl 2 rfl) ?_
    refine gr_16_6 hC hB fl_Mo_16 d_Mo_costOf_19 ?_
    refine lv_aload_n hx hb d_Mo_costOf_22 rfl (lv_at hl 2 rfl) ?_
    refine gg_16_14 (x := (G 16 14)) hC hB rfl fl_Mo_72 d_Mo_costOf_23 ?_
    refine ga_19 (x := (G 19 ((G 16 14).toNatClampNeg))) hC hB hok.1 rfl d_Mo_costOf_26 ?_
    replace hok := hok.2
    refine lv_aload_n hx hb d_Mo_costOf_27 rfl (lv_at hl 2 rfl) ?_
    refine gr_16_8 hC hB fl_Mo_23 d_Mo_costOf_28 ?_
    refine lv_sipush (v := 269) hx hb d_Mo_costOf_31 (by decide) ?_
    refine lv_iload_n hx hb d_Mo_costOf_34 rfl (lv_at hl 1 rfl) ?_
    refine lv_imul hx hb d_Mo_costOf_35 ?_
    refine lv_aload_n hx hb d_Mo_costOf_36 rfl (lv_at hl 2 rfl) ?_
    refine gg_16_14 (x := (G 16 14)) hC hB rfl fl_Mo_72 d_Mo_costOf_37 ?_
    refine lv_iadd hx hb d_Mo_costOf_40 ?_
    refine ga_21 (x := (G 21 ((((269 : Int32) * (f_Mo_slot G (G 16 11))) + (G 16 14)).toNatClampNeg))) hC hB hok.1 rfl d_Mo_costOf_41 ?_
    replace hok := hok.2
    refine lv_icmp_eq (tgt := 49) hx hb d_Mo_costOf_42 (by decide) (fun c3 => ?_) (fun c3 => ?_)
    · replace hf := hf.trans (if_pos c3)
      replace hok := hok.1 c3
      refine lv_iconst (v := 0) hx hb d_Mo_costOf_49 (by decide) ?_
      refine lv_iadd hx hb d_Mo_costOf_50 ?_
      refine lv_istore_n (lv' := [(2, .int ((1 : Int32) + (0 : Int32))), (1, .int (f_Mo_slot G (G 16 11))), (0, .ref (ad 16))]) hx hb d_Mo_costOf_51 rfl hl (by decide) rfl (fun ls hl => ?_)
      refine lv_iload_n hx hb d_Mo_costOf_52 rfl (lv_at hl 0 rfl) ?_
      refine lv_aload_n hx hb d_Mo_costOf_53 rfl (lv_at hl 2 rfl) ?_
      refine gr_16_6 hC hB fl_Mo_16 d_Mo_costOf_54 ?_
      refine lv_sipush (v := 264) hx hb d_Mo_costOf_57 (by decide) ?_
      refine ga_19 (x := (G 19 264)) hC hB (by unfold vp_in; decide) rfl d_Mo_costOf_60 ?_
      refine lv_aload_n hx hb d_Mo_costOf_61 rfl (lv_at hl 2 rfl) ?_
      refine gr_16_8 hC hB fl_Mo_23 d_Mo_costOf_62 ?_
      refine lv_sipush (v := 269) hx hb d_Mo_costOf_65 (by decide) ?_
      refine lv_iload_n hx hb d_Mo_costOf_68 rfl (lv_at hl 1 rfl) ?_
      refine lv_imul hx hb d_Mo_costOf_69 ?_
      refine lv_sipush (v := 264) hx hb d_Mo_costOf_70 (by decide) ?_
      refine lv_iadd hx hb d_Mo_costOf_73 ?_
      refine ga_21 (x := (G 21 ((((269 : Int32) * (f_Mo_slot G (G 16 11))) + (264 : Int32)).toNatClampNeg))) hC hB hok.1 rfl d_Mo_costOf_74 ?_
      replace hok := hok.2
      refine lv_iconst (v := 1) hx hb d_Mo_costOf_75 (by decide) ?_
      refine lv_iadd hx hb d_Mo_costOf_76 ?_
      refine lv_bipush (v := 63) hx hb d_Mo_costOf_77 (by decide) ?_
      refine lv_iand hx hb d_Mo_costOf_79 ?_
      refine lv_icmp_eq (tgt := 87) hx hb d_Mo_costOf_80 (by decide) (fun c4 => ?_) (fun c4 => ?_)
      · replace hf := hf.trans (if_pos c4)
        replace hok := hok.1 c4
        refine lv_iconst (v := 0) hx hb d_Mo_costOf_87 (by decide) ?_
        refine lv_iadd hx hb d_Mo_costOf_88 ?_
        refine lv_istore_n (lv' := [(2, .int (((1 : Int32) + (0 : Int32)) + (0 : Int32))), (1, .int (f_Mo_slot G (G 16 11))), (0, .ref (ad 16))]) hx hb d_Mo_costOf_89 rfl hl (by decide) rfl (fun ls hl => ?_)
        refine lv_iload_n hx hb d_Mo_costOf_90 rfl (lv_at hl 0 rfl) ?_
        refine lv_aload_n hx hb d_Mo_costOf_91 rfl (lv_at hl 2 rfl) ?_
        refine gr_16_6 hC hB fl_Mo_16 d_Mo_costOf_92 ?_
        refine lv_sipush (v := 265) hx hb d_Mo_costOf_95 (by decide) ?_
        refine ga_19 (x := (G 19 265)) hC hB (by unfold vp_in; decide) rfl d_Mo_costOf_98 ?_
        refine lv_aload_n hx hb d_Mo_costOf_99 rfl (lv_at hl 2 rfl) ?_
        refine gr_16_8 hC hB fl_Mo_23 d_Mo_costOf_100 ?_
        refine lv_sipush (v := 269) hx hb d_Mo_costOf_103 (by decide) ?_
        refine lv_iload_n hx hb d_Mo_costOf_106 rfl (lv_at hl 1 rfl) ?_
        refine lv_imul hx hb d_Mo_costOf_107 ?_
        refine lv_sipush (v := 265) hx hb d_Mo_costOf_108 (by decide) ?_
        refine lv_iadd hx hb d_Mo_costOf_111 ?_
        refine ga_21 (x := (G 21 ((((269 : Int32) * (f_Mo_slot G (G 16 11))) + (265 : Int32)).toNatClampNeg))) hC hB hok.1 rfl d_Mo_costOf_112 ?_
        replace hok := hok.2
        refine lv_isub hx hb d_Mo_costOf_113 ?_
        refine lv_iadd hx hb d_Mo_costOf_114 ?_
        refine lv_istore_n (lv' := [(2, .int ((((1 : Int32) + (0 : Int32)) + (0 : Int32)) + ((G 19 265) - (G 21 ((((269 : Int32) * (f_Mo_slot G (G 16 11))) + (265 : Int32)).toNatClampNeg))))), (1, .int (f_Mo_slot G (G 16 11))), (0, .ref (ad 16))]) hx hb d_Mo_costOf_115 rfl hl (by decide) rfl (fun ls hl => ?_)
        refine lv_iload_n hx hb d_Mo_costOf_116 rfl (lv_at hl 0 rfl) ?_
        refine lv_aload_n hx hb d_Mo_costOf_117 rfl (lv_at hl 2 rfl) ?_
        refine gr_16_6 hC hB fl_Mo_16 d_Mo_costOf_118 ?_
        refine lv_sipush (v := 266) hx hb d_Mo_costOf_121 (by decide) ?_
        refine ga_19 (x := (G 19 266)) hC hB (by unfold vp_in; decide) rfl d_Mo_costOf_124 ?_
        refine lv_aload_n hx hb d_Mo_costOf_125 rfl (lv_at hl 2 rfl) ?_
        refine gr_16_8 hC hB fl_Mo_23 d_Mo_costOf_126 ?_
        refine lv_sipush (v := 269) hx hb d_Mo_costOf_129 (by decide) ?_
        refine lv_iload_n hx hb d_Mo_costOf_132 rfl (lv_at hl 1 rfl) ?_
        refine lv_imul hx hb d_Mo_costOf_133 ?_
        refine lv_sipush (v := 266) hx hb d_Mo_costOf_134 (by decide) ?_
        refine lv_iadd hx hb d_Mo_costOf_137 ?_
        refine ga_21 (x := (G 21 ((((269 : Int32) * (f_Mo_slot G (G 16 11))) + (266 : Int32)).toNatClampNeg))) hC hB hok.1 rfl d_Mo_costOf_138 ?_
        replace hok := hok.2
        refine lv_isub hx hb d_Mo_costOf_139 ?_
        refine lv_iadd hx hb d_Mo_costOf_140 ?_
        refine lv_istore_n (lv' := [(2, .int (((((1 : Int32) + (0 : Int32)) + (0 : Int32)) + ((G 19 265) - (G 21 ((((269 : Int32) * (f_Mo_slot G (G 16 11))) + (265 : Int32)).toNatClampNeg)))) + ((G 19 266) - (G 21 ((((269 : Int32) * (f_Mo_slot G (G 16 11))) + (266 : Int32)).toNatClampNeg))))), (1, .int (f_Mo_slot G (G 16 11))), (0, .ref (ad 16))]) hx hb d_Mo_costOf_141 rfl hl (by decide) rfl (fun ls hl => ?_)
        refine lv_iload_n hx hb d_Mo_costOf_142 rfl (lv_at hl 0 rfl) ?_
        exact g_iret hC hB hr hlk (by decide) (by decide) (by rw [hf]) rfl d_Mo_costOf_143
      · replace hf := hf.trans (if_neg c4)
        replace hok := hok.2 c4
        refine lv_iconst (v := 1) hx hb d_Mo_costOf_83 (by decide) ?_
        refine lv_goto (tgt := 88) hx hb d_Mo_costOf_84 (by decide) ?_
        refine lv_iadd hx hb d_Mo_costOf_88 ?_
        refine lv_istore_n (lv' := [(2, .int (((1 : Int32) + (0 : Int32)) + (1 : Int32))), (1, .int (f_Mo_slot G (G 16 11))), (0, .ref (ad 16))]) hx hb d_Mo_costOf_89 rfl hl (by decide) rfl (fun ls hl => ?_)
        refine lv_iload_n hx hb d_Mo_costOf_90 rfl (lv_at hl 0 rfl) ?_
        refine lv_aload_n hx hb d_Mo_costOf_91 rfl (lv_at hl 2 rfl) ?_
        refine gr_16_6 hC hB fl_Mo_16 d_Mo_costOf_92 ?_
        refine lv_sipush (v := 265) hx hb d_Mo_costOf_95 (by decide) ?_
        refine ga_19 (x := (G 19 265)) hC hB (by unfold vp_in; decide) rfl d_Mo_costOf_98 ?_
        refine lv_aload_n hx hb d_Mo_costOf_99 rfl (lv_at hl 2 rfl) ?_
        refine gr_16_8 hC hB fl_Mo_23 d_Mo_costOf_100 ?_
        refine lv_sipush (v := 269) hx hb d_Mo_costOf_103 (by decide) ?_
        refine lv_iload_n hx hb d_Mo_costOf_106 rfl (lv_at hl 1 rfl) ?_
        refine lv_imul hx hb d_Mo_costOf_107 ?_
        refine lv_sipush (v := 265) hx hb d_Mo_costOf_108 (by decide) ?_
        refine lv_iadd hx hb d_Mo_costOf_111 ?_
        refine ga_21 (x := (G 21 ((((269 : Int32) * (f_Mo_slot G (G 16 11))) + (265 : Int32)).toNatClampNeg))) hC hB hok.1 rfl d_Mo_costOf_112 ?_
        replace hok := hok.2
        refine lv_isub hx hb d_Mo_costOf_113 ?_
        refine lv_iadd hx hb d_Mo_costOf_114 ?_
        refine lv_istore_n (lv' := [(2, .int ((((1 : Int32) + (0 : Int32)) + (1 : Int32)) + ((G 19 265) - (G 21 ((((269 : Int32) * (f_Mo_slot G (G 16 11))) + (265 : Int32)).toNatClampNeg))))), (1, .int (f_Mo_slot G (G 16 11))), (0, .ref (ad 16))]) hx hb d_Mo_costOf_115 rfl hl (by decide) rfl (fun ls hl => ?_)
        refine lv_iload_n hx hb d_Mo_costOf_116 rfl (lv_at hl 0 rfl) ?_
        refine lv_aload_n hx hb d_Mo_costOf_117 rfl (lv_at hl 2 rfl) ?_
        refine gr_16_6 hC hB fl_Mo_16 d_Mo_costOf_118 ?_
        refine lv_sipush (v := 266) hx hb d_Mo_costOf_121 (by decide) ?_
        refine ga_19 (x := (G 19 266)) hC hB (by unfold vp_in; decide) rfl d_Mo_costOf_124 ?_
        refine lv_aload_n hx hb d_Mo_costOf_125 rfl (lv_at hl 2 rfl) ?_
        refine gr_16_8 hC hB fl_Mo_23 d_Mo_costOf_126 ?_
        refine lv_sipush (v := 269) hx hb d_Mo_costOf_129 (by decide) ?_
        refine lv_iload_n hx hb d_Mo_costOf_132 rfl (lv_at hl 1 rfl) ?_
        refine lv_imul hx hb d_Mo_costOf_133 ?_
        refine lv_sipush (v := 266) hx hb d_Mo_costOf_134 (by decide) ?_
        refine lv_iadd hx hb d_Mo_costOf_137 ?_
        refine ga_21 (x := (G 21 ((((269 : Int32) * (f_Mo_slot G (G 16 11))) + (266 : Int32)).toNatClampNeg))) hC hB hok.1 rfl d_Mo_costOf_138 ?_
        replace hok := hok.2
        refine lv_isub hx hb d_Mo_costOf_139 ?_
        refine lv_iadd hx hb d_Mo_costOf_140 ?_
        refine lv_istore_n (lv' := [(2, .int (((((1 : Int32) + (0 : Int32)) + (1 : Int32)) + ((G 19 265) - (G 21 ((((269 : Int32) * (f_Mo_slot G (G 16 11))) + (265 : Int32)).toNatClampNeg)))) + ((G 19 266) - (G 21 ((((269 : Int32) * (f_Mo_slot G (G 16 11))) + (266 : Int32)).toNatClampNeg))))), (1, .int (f_Mo_slot G (G 16 11))), (0, .ref (ad 16))]) hx hb d_Mo_costOf_141 rfl hl (by decide) rfl (fun ls hl => ?_)
        refine lv_iload_n hx hb d_Mo_costOf_142 rfl (lv_at hl 0 rfl) ?_
        exact g_iret hC hB hr hlk (by decide) (by decide) (by rw [hf]) rfl d_Mo_costOf_143
    · replace hf := hf.trans (if_neg c3)
      replace hok := hok.2 c3
      refine lv_iconst (v := 1) hx hb d_Mo_costOf_45 (by decide) ?_
      refine lv_goto (tgt := 50) hx hb d_Mo_costOf_46 (by decide) ?_
      refine lv_iadd hx hb d_Mo_costOf_50 ?_
      refine lv_istore_n (lv' := [(2, .int ((1 : Int32) + (1 : Int32))), (1, .int (f_Mo_slot G (G 16 11))), (0, .ref (ad 16))]) hx hb d_Mo_costOf_51 rfl hl (by decide) rfl (fun ls hl => ?_)
      refine lv_iload_n hx hb d_Mo_costOf_52 rfl (lv_at hl 0 rfl) ?_
      refine lv_aload_n hx hb d_Mo_costOf_53 rfl (lv_at hl 2 rfl) ?_
      refine gr_16_6 hC hB fl_Mo_16 d_Mo_costOf_54 ?_
      refine lv_sipush (v := 264) hx hb d_Mo_costOf_57 (by decide) ?_
      refine ga_19 (x := (G 19 264)) hC hB (by unfold vp_in; decide) rfl d_Mo_costOf_60 ?_
      refine lv_aload_n hx hb d_Mo_costOf_61 rfl (lv_at hl 2 rfl) ?_
      refine gr_16_8 hC hB fl_Mo_23 d_Mo_costOf_62 ?_
      refine lv_sipush (v := 269) hx hb d_Mo_costOf_65 (by decide) ?_
      refine lv_iload_n hx hb d_Mo_costOf_68 rfl (lv_at hl 1 rfl) ?_
      refine lv_imul hx hb d_Mo_costOf_69 ?_
      refine lv_sipush (v := 264) hx hb d_Mo_costOf_70 (by decide) ?_
      refine lv_iadd hx hb d_Mo_costOf_73 ?_
      refine ga_21 (x := (G 21 ((((269 : Int32) * (f_Mo_slot G (G 16 11))) + (264 : Int32)).toNatClampNeg))) hC hB hok.1 rfl d_Mo_costOf_74 ?_
      replace hok := hok.2
      refine lv_iconst (v := 1) hx hb d_Mo_costOf_75 (by decide) ?_
      refine lv_iadd hx hb d_Mo_costOf_76 ?_
      refine lv_bipush (v := 63) hx hb d_Mo_costOf_77 (by decide) ?_
      refine lv_iand hx hb d_Mo_costOf_79 ?_
      refine lv_icmp_eq (tgt := 87) hx hb d_Mo_costOf_80 (by decide) (fun c5 => ?_) (fun c5 => ?_)
      · replace hf := hf.trans (if_pos c5)
        replace hok := hok.1 c5
        refine lv_iconst (v := 0) hx hb d_Mo_costOf_87 (by decide) ?_
        refine lv_iadd hx hb d_Mo_costOf_88 ?_
        refine lv_istore_n (lv' := [(2, .int (((1 : Int32) + (1 : Int32)) + (0 : Int32))), (1, .int (f_Mo_slot G (G 16 11))), (0, .ref (ad 16))]) hx hb d_Mo_costOf_89 rfl hl (by decide) rfl (fun ls hl => ?_)
        refine lv_iload_n hx hb d_Mo_costOf_90 rfl (lv_at hl 0 rfl) ?_
        refine lv_aload_n hx hb d_Mo_costOf_91 rfl (lv_at hl 2 rfl) ?_
        refine gr_16_6 hC hB fl_Mo_16 d_Mo_costOf_92 ?_
        refine lv_sipush (v := 265) hx hb d_Mo_costOf_95 (by decide) ?_
        refine ga_19 (x := (G 19 265)) hC hB (by unfold vp_in; decide) rfl d_Mo_costOf_98 ?_
        refine lv_aload_n hx hb d_Mo_costOf_99 rfl (lv_at hl 2 rfl) ?_
        refine gr_16_8 hC hB fl_Mo_23 d_Mo_costOf_100 ?_
        refine lv_sipush (v := 269) hx hb d_Mo_costOf_103 (by decide) ?_
        refine lv_iload_n hx hb d_Mo_costOf_106 rfl (lv_at hl 1 rfl) ?_
        refine lv_imul hx hb d_Mo_costOf_107 ?_
        refine lv_sipush (v := 265) hx hb d_Mo_costOf_108 (by decide) ?_
        refine lv_iadd hx hb d_Mo_costOf_111 ?_
        refine ga_21 (x := (G 21 ((((269 : Int32) * (f_Mo_slot G (G 16 11))) + (265 : Int32)).toNatClampNeg))) hC hB hok.1 rfl d_Mo_costOf_112 ?_
        replace hok := hok.2
        refine lv_isub hx hb d_Mo_costOf_113 ?_
        refine lv_iadd hx hb d_Mo_costOf_114 ?_
        refine lv_istore_n (lv' := [(2, .int ((((1 : Int32) + (1 : Int32)) + (0 : Int32)) + ((G 19 265) - (G 21 ((((269 : Int32) * (f_Mo_slot G (G 16 11))) + (265 : Int32)).toNatClampNeg))))), (1, .int (f_Mo_slot G (G 16 11))), (0, .ref (ad 16))]) hx hb d_Mo_costOf_115 rfl hl (by decide) rfl (fun ls hl => ?_)
        refine lv_iload_n hx hb d_Mo_costOf_116 rfl (lv_at hl 0 rfl) ?_
        refine lv_aload_n hx hb d_Mo_costOf_117 rfl (lv_at hl 2 rfl) ?_
        refine gr_16_6 hC hB fl_Mo_16 d_Mo_costOf_118 ?_
        refine lv_sipush (v := 266) hx hb d_Mo_costOf_121 (by decide) ?_
        refine ga_19 (x := (G 19 266)) hC hB (by unfold vp_in; decide) rfl d_Mo_costOf_124 ?_
        refine lv_aload_n hx hb d_Mo_costOf_125 rfl (lv_at hl 2 rfl) ?_
        refine gr_16_8 hC hB fl_Mo_23 d_Mo_costOf_126 ?_
        refine lv_sipush (v := 269) hx hb d_Mo_costOf_129 (by decide) ?_
        refine lv_iload_n hx hb d_Mo_costOf_132 rfl (lv_at hl 1 rfl) ?_
        refine lv_imul hx hb d_Mo_costOf_133 ?_
        refine lv_sipush (v := 266) hx hb d_Mo_costOf_134 (by decide) ?_
        refine lv_iadd hx hb d_Mo_costOf_137 ?_
        refine ga_21 (x := (G 21 ((((269 : Int32) * (f_Mo_slot G (G 16 11))) + (266 : Int32)).toNatClampNeg))) hC hB hok.1 rfl d_Mo_costOf_138 ?_
        replace hok := hok.2
        refine lv_isub hx hb d_Mo_costOf_139 ?_
        refine lv_iadd hx hb d_Mo_costOf_140 ?_
        refine lv_istore_n (lv' := [(2, .int (((((1 : Int32) + (1 : Int32)) + (0 : Int32)) + ((G 19 265) - (G 21 ((((269 : Int32) * (f_Mo_slot G (G 16 11))) + (265 : Int32)).toNatClampNeg)))) + ((G 19 266) - (G 21 ((((269 : Int32) * (f_Mo_slot G (G 16 11))) + (266 : Int32)).toNatClampNeg))))), (1, .int (f_Mo_slot G (G 16 11))), (0, .ref (ad 16))]) hx hb d_Mo_costOf_141 rfl hl (by decide) rfl (fun ls hl => ?_)
        refine lv_iload_n hx hb d_Mo_costOf_142 rfl (lv_at hl 0 rfl) ?_
        exact g_iret hC hB hr hlk (by decide) (by decide) (by rw [hf]) rfl d_Mo_costOf_143
      · replace hf := hf.trans (if_neg c5)
        replace hok := hok.2 c5
        refine lv_iconst (v := 1) hx hb d_Mo_costOf_83 (by decide) ?_
        refine lv_goto (tgt := 88) hx hb d_Mo_costOf_84 (by decide) ?_
        refine lv_iadd hx hb d_Mo_costOf_88 ?_
        refine lv_istore_n (lv' := [(2, .int (((1 : Int32) + (1 : Int32)) + (1 : Int32))), (1, .int (f_Mo_slot G (G 16 11))), (0, .ref (ad 16))]) hx hb d_Mo_costOf_89 rfl hl (by decide) rfl (fun ls hl => ?_)
        refine lv_iload_n hx hb d_Mo_costOf_90 rfl (lv_at hl 0 rfl) ?_
        refine lv_aload_n hx hb d_Mo_costOf_91 rfl (lv_at hl 2 rfl) ?_
        refine gr_16_6 hC hB fl_Mo_16 d_Mo_costOf_92 ?_
        refine lv_sipush (v := 265) hx hb d_Mo_costOf_95 (by decide) ?_
        refine ga_19 (x := (G 19 265)) hC hB (by unfold vp_in; decide) rfl d_Mo_costOf_98 ?_
        refine lv_aload_n hx hb d_Mo_costOf_99 rfl (lv_at hl 2 rfl) ?_
        refine gr_16_8 hC hB fl_Mo_23 d_Mo_costOf_100 ?_
        refine lv_sipush (v := 269) hx hb d_Mo_costOf_103 (by decide) ?_
        refine lv_iload_n hx hb d_Mo_costOf_106 rfl (lv_at hl 1 rfl) ?_
        refine lv_imul hx hb d_Mo_costOf_107 ?_
        refine lv_sipush (v := 265) hx hb d_Mo_costOf_108 (by decide) ?_
        refine lv_iadd hx hb d_Mo_costOf_111 ?_
        refine ga_21 (x := (G 21 ((((269 : Int32) * (f_Mo_slot G (G 16 11))) + (265 : Int32)).toNatClampNeg))) hC hB hok.1 rfl d_Mo_costOf_112 ?_
        replace hok := hok.2
        refine lv_isub hx hb d_Mo_costOf_113 ?_
        refine lv_iadd hx hb d_Mo_costOf_114 ?_
        refine lv_istore_n (lv' := [(2, .int ((((1 : Int32) + (1 : Int32)) + (1 : Int32)) + ((G 19 265) - (G 21 ((((269 : Int32) * (f_Mo_slot G (G 16 11))) + (265 : Int32)).toNatClampNeg))))), (1, .int (f_Mo_slot G (G 16 11))), (0, .ref (ad 16))]) hx hb d_Mo_costOf_115 rfl hl (by decide) rfl (fun ls hl => ?_)
        refine lv_iload_n hx hb d_Mo_costOf_116 rfl (lv_at hl 0 rfl) ?_
        refine lv_aload_n hx hb d_Mo_costOf_117 rfl (lv_at hl 2 rfl) ?_
        refine gr_16_6 hC hB fl_Mo_16 d_Mo_costOf_118 ?_
        refine lv_sipush (v := 266) hx hb d_Mo_costOf_121 (by decide) ?_
        refine ga_19 (x := (G 19 266)) hC hB (by unfold vp_in; decide) rfl d_Mo_costOf_124 ?_
        refine lv_aload_n hx hb d_Mo_costOf_125 rfl (lv_at hl 2 rfl) ?_
        refine gr_16_8 hC hB fl_Mo_23 d_Mo_costOf_126 ?_
        refine lv_sipush (v := 269) hx hb d_Mo_costOf_129 (by decide) ?_
        refine lv_iload_n hx hb d_Mo_costOf_132 rfl (lv_at hl 1 rfl) ?_
        refine lv_imul hx hb d_Mo_costOf_133 ?_
        refine lv_sipush (v := 266) hx hb d_Mo_costOf_134 (by decide) ?_
        refine lv_iadd hx hb d_Mo_costOf_137 ?_
        refine ga_21 (x := (G 21 ((((269 : Int32) * (f_Mo_slot G (G 16 11))) + (266 : Int32)).toNatClampNeg))) hC hB hok.1 rfl d_Mo_costOf_138 ?_
        replace hok := hok.2
        refine lv_isub hx hb d_Mo_costOf_139 ?_
        refine lv_iadd hx hb d_Mo_costOf_140 ?_
        refine lv_istore_n (lv' := [(2, .int (((((1 : Int32) + (1 : Int32)) + (1 : Int32)) + ((G 19 265) - (G 21 ((((269 : Int32) * (f_Mo_slot G (G 16 11))) + (265 : Int32)).toNatClampNeg)))) + ((G 19 266) - (G 21 ((((269 : Int32) * (f_Mo_slot G (G 16 11))) + (266 : Int32)).toNatClampNeg))))), (1, .int (f_Mo_slot G (G 16 11))), (0, .ref (ad 16))]) hx hb d_Mo_costOf_141 rfl hl (by decide) rfl (fun ls hl => ?_)
        refine lv_iload_n hx hb d_Mo_costOf_142 rfl (lv_at hl 0 rfl) ?_
        exact g_iret hC hB hr hlk (by decide) (by decide) (by rw [hf]) rfl d_Mo_costOf_143
abbrev rm_Mo_isKept : Room := { frames := 1, cells := 0, slots := 0, locals := 14 }
def f_Mo_isKept (G : gT) (p1 : Int32) : Int32 := (f_Mo_within G p1 (G 16 12) (G 16 11))
set_option maxHeartbeats 4000000 in
set_option maxRecDepth 100000 in
theorem c_Mo_isKept (l : Launch) (G : gT) (p1 : Int32) (O : Int64) : gMet l y_Mo_isKept w_Mo_isKept rm_Mo_isKept (fun ad => [.ref (ad 16), .int p1]) G O (.inl (some (.int (f_Mo_isKept G p1)))) G O := by
  refine g_body (by decide) (gCode_of _ _ _ _) (fun ad => by simp [lg_sl, Value.category]) ?_
  intro p e s0 s m args below meth c D cI cL ad hC hr hlk htb hB ls hl
  have hC : CallFix p m c b_Mo_isKept 2 s args gtb R_Mo := hC
  have hl : lv_has ls 2 [(0, .ref (ad 16)), (1, .int p1)] := hl
  have hx := hC.1
  have hb := hC.2.1
  have hf : f_Mo_isKept G p1 = (f_Mo_within G p1 (G 16 12) (G 16 11)) := rfl
  refine lv_iload_n hx hb d_Mo_isKept_0 rfl (lv_at hl 1 rfl) ?_
  refine lv_aload_n hx hb d_Mo_isKept_1 rfl (lv_at hl 0 rfl) ?_
  refine gg_16_12 (x := (G 16 12)) hC hB rfl fl_Mo_66 d_Mo_isKept_2 ?_
  refine lv_aload_n hx hb d_Mo_isKept_5 rfl (lv_at hl 0 rfl) ?_
  refine gg_16_11 (x := (G 16 11)) hC hB rfl fl_Mo_57 d_Mo_isKept_6 ?_
  refine g_callSi (As := [.int p1, .int (G 16 12), .int (G 16 11)]) (rest := []) hC hB (c_Mo_within l G p1 (G 16 12) (G 16 11) O) rfl key_Mo_within rfl sta_Mo_within ml_Mo_46 rfl hl.1 ⟨Nat.le_of_ble_eq_true rfl, Nat.le_of_ble_eq_true rfl, Nat.le_of_ble_eq_true rfl, Nat.le_of_ble_eq_true rfl⟩ d_Mo_isKept_9 (fun H locs hB => ?_)
  exact g_zret hC hB hr hlk (by decide) (by decide) (z_Mo_within _ _ _ _) (by rw [hf]) rfl d_Mo_isKept_12
abbrev rm_Mo_look : Room := { frames := 2, cells := 0, slots := 0, locals := 28 }
def f_Mo_look (G : gT) (p1 : Int32) (p2 : Int32) : Int32 × gT := (if (f_Mo_isKept (g_up G 16 0 0) p1) = 0 then ((f_Mo_fail (g_up G 16 0 0) 1).1, (f_Mo_fail (g_up G 16 0 0) 1).2) else (if (f_Mo_within (g_up G 16 0 0) p2 0 268) = 0 then ((f_Mo_fail (g_up G 16 0 0) 2).1, (f_Mo_fail (g_up G 16 0 0) 2).2) else ((f_Mo_stateAt (g_up G 16 0 0) p1 p2), (g_up G 16 0 0))))
def ok_Mo_look (G : gT) (p1 : Int32) (p2 : Int32) : Prop := (((f_Mo_isKept (g_up G 16 0 0) p1) = 0 → True) ∧ (¬ (f_Mo_isKept (g_up G 16 0 0) p1) = 0 → (((f_Mo_within (g_up G 16 0 0) p2 0 268) = 0 → True) ∧ (¬ (f_Mo_within (g_up G 16 0 0) p2 0 268) = 0 → (ok_Mo_stateAt (g_up G 16 0 0) p1 p2 ∧ True)))))
set_option maxHeartbeats 4000000 in
set_option maxRecDepth 100000 in
theorem c_Mo_look (l : Launch) (G : gT) (p1 : Int32) (p2 : Int32) (O : Int64) (hok : ok_Mo_look G p1 p2) : gMet l y_Mo_look w_Mo_look rm_Mo_look (fun ad => [.ref (ad 16), .int p1, .int p2]) G O (.inl (some (.int (f_Mo_look G p1 p2).1))) ((f_Mo_look G p1 p2).2) O := by
  refine g_body (by decide) (gCode_of _ _ _ _) (fun ad => by simp [lg_sl, Value.category]) ?_
  intro p e s0 s m args below meth c D cI cL ad hC hr hlk htb hB ls hl
  have hC : CallFix p m c b_Mo_look 3 s args gtb R_Mo := hC
  have hl : lv_has ls 3 [(0, .ref (ad 16)), (1, .int p1), (2, .int p2)] := hl
  have hx := hC.1
  have hb := hC.2.1
  have hf : f_Mo_look G p1 p2 = (if (f_Mo_isKept (g_up G 16 0 0) p1) = 0 then ((f_Mo_fail (g_up G 16 0 0) 1).1, (f_Mo_fail (g_up G 16 0 0) 1).2) else (if (f_Mo_within (g_up G 16 0 0) p2 0 268) = 0 then ((f_Mo_fail (g_up G 16 0 0) 2).1, (f_Mo_fail (g_up G 16 0 0) 2).2) else ((f_Mo_stateAt (g_up G 16 0 0) p1 p2), (g_up G 16 0 0)))) := rfl
  have hok : (((f_Mo_isKept (g_up G 16 0 0) p1) = 0 → True) ∧ (¬ (f_Mo_isKept (g_up G 16 0 0) p1) = 0 → (((f_Mo_within (g_up G 16 0 0) p2 0 268) = 0 → True) ∧ (¬ (f_Mo_within (g_up G 16 0 0) p2 0 268) = 0 → (ok_Mo_stateAt (g_up G 16 0 0) p1 p2 ∧ True))))) := hok
  refine lv_aload_n hx hb d_Mo_look_0 rfl (lv_at hl 0 rfl) ?_
  refine lv_iconst (v := 0) hx hb d_Mo_look_1 (by decide) ?_
  refine gp_16_0 hC hB fl_Mo_43 d_Mo_look_2 (fun H locs hB => ?_)
  refine lv_aload_n hx hb d_Mo_look_5 rfl (lv_at hl 0 rfl) ?_
  refine lv_iload_n hx hb d_Mo_look_6 rfl (lv_at hl 1 rfl) ?_
  refine g_callVi (b := ad 16) (As := [.int p1]) (rest := []) hC hB (c_Mo_isKept l (g_up G 16 0 0) p1 O) rfl key_Mo_isKept rfl ins_Mo_isKept sel_Mo_isKept ml_Mo_97 (g_rec16 hB) rfl hl.1 ⟨Nat.le_of_ble_eq_true rfl, Nat.le_of_ble_eq_true rfl, Nat.le_of_ble_eq_true rfl, Nat.le_of_ble_eq_true rfl⟩ d_Mo_look_7 (fun H locs hB => ?_)
  refine lv_if_ne (tgt := 19) hx hb d_Mo_look_10 (by decide) (fun c1 => ?_) (fun c1 => ?_)
  · replace hf := hf.trans (if_neg c1)
    replace hok := hok.2 c1
    refine lv_iload_n hx hb d_Mo_look_19 rfl (lv_at hl 2 rfl) ?_
    refine lv_iconst (v := 0) hx hb d_Mo_look_20 (by decide) ?_
    refine lv_sipush (v := 268) hx hb d_Mo_look_21 (by decide) ?_
    refine g_callSi (As := [.int p2, .int 0, .int 268]) (rest := []) hC hB (c_Mo_within l (g_up G 16 0 0) p2 0 268 O) rfl key_Mo_within rfl sta_Mo_within ml_Mo_46 rfl hl.1 ⟨Nat.le_of_ble_eq_true rfl, Nat.le_of_ble_eq_true rfl, Nat.le_of_ble_eq_true rfl, Nat.le_of_ble_eq_true rfl⟩ d_Mo_look_24 (fun H locs hB => ?_)
    refine lv_if_eq (tgt := 39) hx hb d_Mo_look_27 (by decide) (fun c2 => ?_) (fun c2 => ?_)
    · replace hf := hf.trans (if_pos c2)
      replace hok := hok.1 c2
      refine lv_aload_n hx hb d_Mo_look_39 rfl (lv_at hl 0 rfl) ?_
      refine lv_iconst (v := 2) hx hb d_Mo_look_40 (by decide) ?_
      refine g_callVi (b := ad 16) (As := [.int 2]) (rest := []) hC hB (c_Mo_fail l (g_up G 16 0 0) 2 O) rfl key_Mo_fail rfl ins_Mo_fail sel_Mo_fail ml_Mo_50 (g_rec16 hB) rfl hl.1 ⟨Nat.le_of_ble_eq_true rfl, Nat.le_of_ble_eq_true rfl, Nat.le_of_ble_eq_true rfl, Nat.le_of_ble_eq_true rfl⟩ d_Mo_look_41 (fun H locs hB => ?_)
      exact g_iret hC hB hr hlk (by decide) (by decide) (by rw [hf]) (by rw [hf]) d_Mo_look_44
    · replace hf := hf.trans (if_neg c2)
      replace hok := hok.2 c2
      refine lv_aload_n hx hb d_Mo_look_30 rfl (lv_at hl 0 rfl) ?_
      refine lv_iload_n hx hb d_Mo_look_31 rfl (lv_at hl 1 rfl) ?_
      refine lv_iload_n hx hb d_Mo_look_32 rfl (lv_at hl 2 rfl) ?_
      refine g_callVi (b := ad 16) (As := [.int p1, .int p2]) (rest := []) hC hB (c_Mo_stateAt l (g_up G 16 0 0) p1 p2 O hok.1) rfl key_Mo_stateAt rfl ins_Mo_stateAt sel_Mo_stateAt ml_Mo_101 (g_rec16 hB) rfl hl.1 ⟨Nat.le_of_ble_eq_true rfl, Nat.le_of_ble_eq_true rfl, Nat.le_of_ble_eq_true rfl, Nat.le_of_ble_eq_true rfl⟩ d_Mo_look_33 (fun H locs hB => ?_)
      replace hok := hok.2
      refine lv_goto (tgt := 44) hx hb d_Mo_look_36 (by decide) ?_
      exact g_iret hC hB hr hlk (by decide) (by decide) (by rw [hf]) (by rw [hf]) d_Mo_look_44
  · replace hf := hf.trans (if_pos c1)
    replace hok := hok.1 c1
    refine lv_aload_n hx hb d_Mo_look_13 rfl (lv_at hl 0 rfl) ?_
    refine lv_iconst (v := 1) hx hb d_Mo_look_14 (by decide) ?_
    refine g_callVi (b := ad 16) (As := [.int 1]) (rest := []) hC hB (c_Mo_fail l (g_up G 16 0 0) 1 O) rfl key_Mo_fail rfl ins_Mo_fail sel_Mo_fail ml_Mo_50 (g_rec16 hB) rfl hl.1 ⟨Nat.le_of_ble_eq_true rfl, Nat.le_of_ble_eq_true rfl, Nat.le_of_ble_eq_true rfl, Nat.le_of_ble_eq_true rfl⟩ d_Mo_look_15 (fun H locs hB => ?_)
    exact g_iret hC hB hr hlk (by decide) (by decide) (by rw [hf]) (by rw [hf]) d_Mo_look_18
abbrev rm_Mo_cost : Room := { frames := 1, cells := 0, slots := 0, locals := 14 }
def f_Mo_cost (G : gT) (p1 : Int32) : Int32 × gT := (if (f_Mo_within (g_up G 16 0 0) p1 (G 16 12) ((G 16 11) - (1 : Int32))) = 0 then ((f_Mo_fail (g_up G 16 0 0) 1).1, (f_Mo_fail (g_up G 16 0 0) 1).2) else ((G 22 ((f_Mo_slot (g_up G 16 0 0) p1).toNatClampNeg)), (g_up G 16 0 0)))
def ok_Mo_cost (G : gT) (p1 : Int32) : Prop := (((f_Mo_within (g_up G 16 0 0) p1 (G 16 12) ((G 16 11) - (1 : Int32))) = 0 → True) ∧ (¬ (f_Mo_within (g_up G 16 0 0) p1 (G 16 12) ((G 16 11) - (1 : Int32))) = 0 → (vp_in (f_Mo_slot (g_up G 16 0 0) p1) 1025 ∧ True)))
set_option maxHeartbeats 4000000 in
set_option maxRecDepth 100000 in
theorem c_Mo_cost (l : Launch) (G : gT) (p1 : Int32) (O : Int64) (hok : ok_Mo_cost G p1) : gMet l y_Mo_cost w_Mo_cost rm_Mo_cost (fun ad => [.ref (ad 16), .int p1]) G O (.inl (some (.int (f_Mo_cost G p1).1))) ((f_Mo_cost G p1).2) O := by
  refine g_body (by decide) (gCode_of _ _ _ _) (fun ad => by simp [lg_sl, Value.category]) ?_
  intro p e s0 s m args below meth c D cI cL ad hC hr hlk htb hB ls hl
  have hC : CallFix p m c b_Mo_cost 2 s args gtb R_Mo := hC
  have hl : lv_has ls 2 [(0, .ref (ad 16)), (1, .int p1)] := hl
  have hx := hC.1
  have hb := hC.2.1
  have hf : f_Mo_cost G p1 = (if (f_Mo_within (g_up G 16 0 0) p1 (G 16 12) ((G 16 11) - (1 : Int32))) = 0 then ((f_Mo_fail (g_up G 16 0 0) 1).1, (f_Mo_fail (g_up G 16 0 0) 1).2) else ((G 22 ((f_Mo_slot (g_up G 16 0 0) p1).toNatClampNeg)), (g_up G 16 0 0))) := rfl
  have hok : (((f_Mo_within (g_up G 16 0 0) p1 (G 16 12) ((G 16 11) - (1 : Int32))) = 0 → True) ∧ (¬ (f_Mo_within (g_up G 16 0 0) p1 (G 16 12) ((G 16 11) - (1 : Int32))) = 0 → (vp_in (f_Mo_slot (g_up G 16 0 0) p1) 1025 ∧ True))) := hok
  refine lv_aload_n hx hb d_Mo_cost_0 rfl (lv_at hl 0 rfl) ?_
  refine lv_iconst (v := 0) hx hb d_Mo_cost_1 (by decide) ?_
  refine gp_16_0 hC hB fl_Mo_43 d_Mo_cost_2 (fun H locs hB => ?_)
  refine lv_iload_n hx hb d_Mo_cost_5 rfl (lv_at hl 1 rfl) ?_
  refine lv_aload_n hx hb d_Mo_cost_6 rfl (lv_at hl 0 rfl) ?_
  refine gg_16_12 (x := (G 16 12)) hC hB rfl fl_Mo_66 d_Mo_cost_7 ?_
  refine lv_aload_n hx hb d_Mo_cost_10 rfl (lv_at hl 0 rfl) ?_
  refine gg_16_11 (x := (G 16 11)) hC hB rfl fl_Mo_57 d_Mo_cost_11 ?_
  refine lv_iconst (v := 1) hx hb d_Mo_cost_14 (by decide) ?_
  refine lv_isub hx hb d_Mo_cost_15 ?_
  refine g_callSi (As := [.int p1, .int (G 16 12), .int ((G 16 11) - (1 : Int32))]) (rest := []) hC hB (c_Mo_within l (g_up G 16 0 0) p1 (G 16 12) ((G 16 11) - (1 : Int32)) O) rfl key_Mo_within rfl sta_Mo_within ml_Mo_46 rfl hl.1 ⟨Nat.le_of_ble_eq_true rfl, Nat.le_of_ble_eq_true rfl, Nat.le_of_ble_eq_true rfl, Nat.le_of_ble_eq_true rfl⟩ d_Mo_cost_16 (fun H locs hB => ?_)
  refine lv_if_eq (tgt := 34) hx hb d_Mo_cost_19 (by decide) (fun c1 => ?_) (fun c1 => ?_)
  · replace hf := hf.trans (if_pos c1)
    replace hok := hok.1 c1
    refine lv_aload_n hx hb d_Mo_cost_34 rfl (lv_at hl 0 rfl) ?_
    refine lv_iconst (v := 1) hx hb d_Mo_cost_35 (by decide) ?_
    refine g_callVi (b := ad 16) (As := [.int 1]) (rest := []) hC hB (c_Mo_fail l (g_up G 16 0 0) 1 O) rfl key_Mo_fail rfl ins_Mo_fail sel_Mo_fail ml_Mo_50 (g_rec16 hB) rfl hl.1 ⟨Nat.le_of_ble_eq_true rfl, Nat.le_of_ble_eq_true rfl, Nat.le_of_ble_eq_true rfl, Nat.le_of_ble_eq_true rfl⟩ d_Mo_cost_36 (fun H locs hB => ?_)
    exact g_iret hC hB hr hlk (by decide) (by decide) (by rw [hf]) (by rw [hf]) d_Mo_cost_39
  · replace hf := hf.trans (if_neg c1)
    replace hok := hok.2 c1
    refine lv_aload_n hx hb d_Mo_cost_22 rfl (lv_at hl 0 rfl) ?_
    refine gr_16_9 hC hB fl_Mo_26 d_Mo_cost_23 ?_
    refine lv_iload_n hx hb d_Mo_cost_26 rfl (lv_at hl 1 rfl) ?_
    refine g_callSi (As := [.int p1]) (rest := [.ref (ad 22)]) hC hB (c_Mo_slot l (g_up G 16 0 0) p1 O) rfl key_Mo_slot rfl sta_Mo_slot ml_Mo_60 rfl hl.1 ⟨Nat.le_of_ble_eq_true rfl, Nat.le_of_ble_eq_true rfl, Nat.le_of_ble_eq_true rfl, Nat.le_of_ble_eq_true rfl⟩ d_Mo_cost_27 (fun H locs hB => ?_)
    refine ga_22 (x := (G 22 ((f_Mo_slot (g_up G 16 0 0) p1).toNatClampNeg))) hC hB hok.1 rfl d_Mo_cost_30 ?_
    replace hok := hok.2
    refine lv_goto (tgt := 39) hx hb d_Mo_cost_31 (by decide) ?_
    exact g_iret hC hB hr hlk (by decide) (by decide) (by rw [hf]) (by rw [hf]) d_Mo_cost_39
abbrev rm_Mo_waits : Room := { frames := 1, cells := 0, slots := 0, locals := 12 }
def f_Mo_waits (G : gT) : Int32 := (if (f_Mo_kindOf G (G 17 ((G 19 264).toNatClampNeg))) = 8 then (if (G 19 265) = (G 16 4) then 1 else 0) else 0)
def ok_Mo_waits (G : gT) : Prop := (vp_in (G 19 264) 64 ∧ True)
set_option maxHeartbeats 4000000 in
set_option maxRecDepth 100000 in
theorem c_Mo_waits (l : Launch) (G : gT) (O : Int64) (hok : ok_Mo_waits G) : gMet l y_Mo_waits w_Mo_waits rm_Mo_waits (fun ad => [.ref (ad 16)]) G O (.inl (some (.int (f_Mo_waits G)))) G O := by
  refine g_body (by decide) (gCode_of _ _ _ _) (fun ad => by simp [lg_sl, Value.category]) ?_
  intro p e s0 s m args below meth c D cI cL ad hC hr hlk htb hB ls hl
  have hC : CallFix p m c b_Mo_waits 1 s args gtb R_Mo := hC
  have hl : lv_has ls 1 [(0, .ref (ad 16))] := hl
  have hx := hC.1
  have hb := hC.2.1
  have hf : f_Mo_waits G = (if (f_Mo_kindOf G (G 17 ((G 19 264).toNatClampNeg))) = 8 then (if (G 19 265) = (G 16 4) then 1 else 0) else 0) := rfl
  have hok : (vp_in (G 19 264) 64 ∧ True) := hok
  refine lv_aload_n hx hb d_Mo_waits_0 rfl (lv_at hl 0 rfl) ?_
  refine gr_16_3 hC hB fl_Mo_7 d_Mo_waits_1 ?_
  refine lv_aload_n hx hb d_Mo_waits_4 rfl (lv_at hl 0 rfl) ?_
  refine gr_16_6 hC hB fl_Mo_16 d_Mo_waits_5 ?_
  refine lv_sipush (v := 264) hx hb d_Mo_waits_8 (by decide) ?_
  refine ga_19 (x := (G 19 264)) hC hB (by unfold vp_in; decide) rfl d_Mo_waits_11 ?_
  refine ga_17 (x := (G 17 ((G 19 264).toNatClampNeg))) hC hB hok.1 rfl d_Mo_waits_12 ?_
  replace hok := hok.2
  refine g_callSi (As := [.int (G 17 ((G 19 264).toNatClampNeg))]) (rest := []) hC hB (c_Mo_kindOf l G (G 17 ((G 19 264).toNatClampNeg)) O) rfl key_Mo_kindOf rfl sta_Mo_kindOf ml_Mo_69 rfl hl.1 ⟨Nat.le_of_ble_eq_true rfl, Nat.le_of_ble_eq_true rfl, Nat.le_of_ble_eq_true rfl, Nat.le_of_ble_eq_true rfl⟩ d_Mo_waits_13 (fun H locs hB => ?_)
  refine lv_bipush (v := 8) hx hb d_Mo_waits_16 (by decide) ?_
  refine lv_icmp_ne (tgt := 40) hx hb d_Mo_waits_18 (by decide) (fun c1 => ?_) (fun c1 => ?_)
  · replace hf := hf.trans (if_neg c1)
    refine lv_iconst (v := 0) hx hb d_Mo_waits_40 (by decide) ?_
    exact g_zret hC hB hr hlk (by decide) (by decide) (by decide) (by rw [hf]) rfl d_Mo_waits_41
  · replace hf := hf.trans (if_pos c1)
    refine lv_aload_n hx hb d_Mo_waits_21 rfl (lv_at hl 0 rfl) ?_
    refine gr_16_6 hC hB fl_Mo_16 d_Mo_waits_22 ?_
    refine lv_sipush (v := 265) hx hb d_Mo_waits_25 (by decide) ?_
    refine ga_19 (x := (G 19 265)) hC hB (by unfold vp_in; decide) rfl d_Mo_waits_28 ?_
    refine lv_aload_n hx hb d_Mo_waits_29 rfl (lv_at hl 0 rfl) ?_
    refine gg_16_4 (x := (G 16 4)) hC hB rfl fl_Mo_54 d_Mo_waits_30 ?_
    refine lv_icmp_ne (tgt := 40) hx hb d_Mo_waits_33 (by decide) (fun c2 => ?_) (fun c2 => ?_)
    · replace hf := hf.trans (if_neg c2)
      refine lv_iconst (v := 0) hx hb d_Mo_waits_40 (by decide) ?_
      exact g_zret hC hB hr hlk (by decide) (by decide) (by decide) (by rw [hf]) rfl d_Mo_waits_41
    · replace hf := hf.trans (if_pos c2)
      refine lv_iconst (v := 1) hx hb d_Mo_waits_36 (by decide) ?_
      refine lv_goto (tgt := 41) hx hb d_Mo_waits_37 (by decide) ?_
      exact g_zret hC hB hr hlk (by decide) (by decide) (by decide) (by rw [hf]) rfl d_Mo_waits_41
