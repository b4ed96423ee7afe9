abbrev rm_BS_checkNumber : Room := { frames := 6, cells := 1, slots := 6, locals := 82 }
def f_BS_checkNumber (G : gT) (p1 : Int32) : Nat := (if p1 < 0 then 2 else (if p1 < 264 then 0 else 2))
set_option maxHeartbeats 4000000 in
set_option maxRecDepth 100000 in
theorem c_BS_checkNumber (l : Launch) (hst : l.stackTraces = false) (G : gT) (p1 : Int32) (O : Int64) : gMet l y_BS_checkNumber w_BS_checkNumber rm_BS_checkNumber (fun ad => [.ref (ad 0), .int p1]) G O (gox (f_BS_checkNumber G p1) (none)) G O := by
  refine g_body (by decide) (gCode_of _ _ _ _) (fun ad => by simp [lg_sl, Value.category]) ?_
  intro p e s0 s m args below meth c D cI cL ad hC hr hlk htb hB ls hl
  have hC : CallFix p m c b_BS_checkNumber 2 s args gtb R_BS := hC
  have hl : lv_has ls 2 [(0, .ref (ad 0)), (1, .int p1)] := hl
  have hx := hC.1
  have hb := hC.2.1
  have hf : f_BS_checkNumber G p1 = (if p1 < 0 then 2 else (if p1 < 264 then 0 else 2)) := rfl
  refine lv_iload_n hx hb d_BS_checkNumber_0 rfl (lv_at hl 1 rfl) ?_
  refine lv_if_lt (tgt := 11) hx hb d_BS_checkNumber_1 (by decide) (fun c1 => ?_) (fun c1 => ?_)
  · replace hf := hf.trans (if_pos c1)
    exact gx_throw (E := 2) hC hB hst htb hlk hl.1 xk_146 rfl d_BS_checkNumber_11 d_BS_checkNumber_14 d_BS_checkNumber_15 d_BS_checkNumber_17 d_BS_checkNumber_20 ⟨Nat.le_of_ble_eq_true rfl, Nat.le_of_ble_eq_true rfl, Nat.le_of_ble_eq_true rfl, Nat.le_of_ble_eq_true rfl⟩ ⟨by decide, by decide⟩ (by rw [hf]; rfl) rfl
  · replace hf := hf.trans (if_neg c1)
    refine lv_iload_n hx hb d_BS_checkNumber_4 rfl (lv_at hl 1 rfl) ?_
    refine lv_sipush (v := 264) hx hb d_BS_checkNumber_5 (by decide) ?_
    refine lv_icmp_lt (tgt := 21) hx hb d_BS_checkNumber_8 (by decide) (fun c2 => ?_) (fun c2 => ?_)
    · replace hf := hf.trans (if_pos c2)
      exact g_vret hC hB hr hlk (by decide) (by decide) (by rw [hf]; rfl) rfl d_BS_checkNumber_21
    · replace hf := hf.trans (if_neg c2)
      exact gx_throw (E := 2) hC hB hst htb hlk hl.1 xk_146 rfl d_BS_checkNumber_11 d_BS_checkNumber_14 d_BS_checkNumber_15 d_BS_checkNumber_17 d_BS_checkNumber_20 ⟨Nat.le_of_ble_eq_true rfl, Nat.le_of_ble_eq_true rfl, Nat.le_of_ble_eq_true rfl, Nat.le_of_ble_eq_true rfl⟩ ⟨by decide, by decide⟩ (by rw [hf]; rfl) rfl
set_option maxHeartbeats 4000000 in
set_option maxRecDepth 100000 in
theorem s_BS_checkNumber (l : Launch) (G : gT) (p1 : Int32) (hz : f_BS_checkNumber G p1 = 0) : gStay l y_BS_checkNumber w_BS_checkNumber (fun ad => [.ref (ad 0), .int p1]) G := by
  refine g_bodyS (by decide) (gCode_of _ _ _ _) (fun ad => by simp [lg_sl, Value.category]) ?_
  intro p e s0 s m args below meth c D cI cL ad O hC hr hlk hB ls hl
  have hC : CallFix p m c b_BS_checkNumber 2 s args gtb R_BS := hC
  have hl : lv_has ls 2 [(0, .ref (ad 0)), (1, .int p1)] := hl
  have hx := hC.1
  have hb := hC.2.1
  have hf : f_BS_checkNumber G p1 = (if p1 < 0 then 2 else (if p1 < 264 then 0 else 2)) := rfl
  refine lv_iload_n hx hb d_BS_checkNumber_0 rfl (lv_at hl 1 rfl) ?_
  refine lv_if_lt (tgt := 11) hx hb d_BS_checkNumber_1 (by decide) (fun c1 => ?_) (fun c1 => ?_)
  · replace hf := hf.trans (if_pos c1)
    exact absurd (hf.symm.trans hz) (by decide)
  · replace hf := hf.trans (if_neg c1)
    refine lv_iload_n hx hb d_BS_checkNumber_4 rfl (lv_at hl 1 rfl) ?_
    refine lv_sipush (v := 264) hx hb d_BS_checkNumber_5 (by decide) ?_
    refine lv_icmp_lt (tgt := 21) hx hb d_BS_checkNumber_8 (by decide) (fun c2 => ?_) (fun c2 => ?_)
    · replace hf := hf.trans (if_pos c2)
      exact W.vret hx hb hr (fun t ht hW => ⟨rfl, ht⟩) (fun q hq => nomatch hq) d_BS_checkNumber_21 hlk
    · replace hf := hf.trans (if_neg c2)
      exact absurd (hf.symm.trans hz) (by decide)
abbrev rm_BS_checkTime : Room := { frames := 6, cells := 1, slots := 6, locals := 82 }
def f_BS_checkTime (G : gT) (p1 : Int32) : Nat := (if p1 < (G 7 2) then 1 else (if p1 ≤ (G 7 1) then 0 else 1))
set_option maxHeartbeats 4000000 in
set_option maxRecDepth 100000 in
theorem c_BS_checkTime (l : Launch) (hst : l.stackTraces = false) (G : gT) (p1 : Int32) (O : Int64) : gMet l y_BS_checkTime w_BS_checkTime rm_BS_checkTime (fun ad => [.ref (ad 0), .int p1]) G O (gox (f_BS_checkTime G p1) (none)) G O := by
  refine g_body (by decide) (gCode_of _ _ _ _) (fun ad => by simp [lg_sl, Value.category]) ?_
  intro p e s0 s m args below meth c D cI cL ad hC hr hlk htb hB ls hl
  have hC : CallFix p m c b_BS_checkTime 2 s args gtb R_BS := hC
  have hl : lv_has ls 2 [(0, .ref (ad 0)), (1, .int p1)] := hl
  have hx := hC.1
  have hb := hC.2.1
  have hf : f_BS_checkTime G p1 = (if p1 < (G 7 2) then 1 else (if p1 ≤ (G 7 1) then 0 else 1)) := rfl
  refine lv_iload_n hx hb d_BS_checkTime_0 rfl (lv_at hl 1 rfl) ?_
  refine lv_aload_n hx hb d_BS_checkTime_1 rfl (lv_at hl 0 rfl) ?_
  refine gr_0_6 hC hB fl_BS_37 d_BS_checkTime_2 ?_
  refine gg_7_2 (x := (G 7 2)) hC hB rfl fl_BS_106 d_BS_checkTime_5 ?_
  refine lv_icmp_lt (tgt := 22) hx hb d_BS_checkTime_8 (by decide) (fun c1 => ?_) (fun c1 => ?_)
  · replace hf := hf.trans (if_pos c1)
    exact gx_throw (E := 1) hC hB hst htb hlk hl.1 xk_148 rfl d_BS_checkTime_22 d_BS_checkTime_25 d_BS_checkTime_26 d_BS_checkTime_28 d_BS_checkTime_31 ⟨Nat.le_of_ble_eq_true rfl, Nat.le_of_ble_eq_true rfl, Nat.le_of_ble_eq_true rfl, Nat.le_of_ble_eq_true rfl⟩ ⟨by decide, by decide⟩ (by rw [hf]; rfl) rfl
  · replace hf := hf.trans (if_neg c1)
    refine lv_iload_n hx hb d_BS_checkTime_11 rfl (lv_at hl 1 rfl) ?_
    refine lv_aload_n hx hb d_BS_checkTime_12 rfl (lv_at hl 0 rfl) ?_
    refine gr_0_6 hC hB fl_BS_37 d_BS_checkTime_13 ?_
    refine gg_7_1 (x := (G 7 1)) hC hB rfl fl_BS_88 d_BS_checkTime_16 ?_
    refine lv_icmp_le (tgt := 32) hx hb d_BS_checkTime_19 (by decide) (fun c2 => ?_) (fun c2 => ?_)
    · replace hf := hf.trans (if_pos c2)
      exact g_vret hC hB hr hlk (by decide) (by decide) (by rw [hf]; rfl) rfl d_BS_checkTime_32
    · replace hf := hf.trans (if_neg c2)
      exact gx_throw (E := 1) hC hB hst htb hlk hl.1 xk_148 rfl d_BS_checkTime_22 d_BS_checkTime_25 d_BS_checkTime_26 d_BS_checkTime_28 d_BS_checkTime_31 ⟨Nat.le_of_ble_eq_true rfl, Nat.le_of_ble_eq_true rfl, Nat.le_of_ble_eq_true rfl, Nat.le_of_ble_eq_true rfl⟩ ⟨by decide, by decide⟩ (by rw [hf]; rfl) rfl
set_option maxHeartbeats 4000000 in
set_option maxRecDepth 100000 in
theorem s_BS_checkTime (l : Launch) (G : gT) (p1 : Int32) (hz : f_BS_checkTime G p1 = 0) : gStay l y_BS_checkTime w_BS_checkTime (fun ad => [.ref (ad 0), .int p1]) G := by
  refine g_bodyS (by decide) (gCode_of _ _ _ _) (fun ad => by simp [lg_sl, Value.category]) ?_
  intro p e s0 s m args below meth c D cI cL ad O hC hr hlk hB ls hl
  have hC : CallFix p m c b_BS_checkTime 2 s args gtb R_BS := hC
  have hl : lv_has ls 2 [(0, .ref (ad 0)), (1, .int p1)] := hl
  have hx := hC.1
  have hb := hC.2.1
  have hf : f_BS_checkTime G p1 = (if p1 < (G 7 2) then 1 else (if p1 ≤ (G 7 1) then 0 else 1)) := rfl
  refine lv_iload_n hx hb d_BS_checkTime_0 rfl (lv_at hl 1 rfl) ?_
  refine lv_aload_n hx hb d_BS_checkTime_1 rfl (lv_at hl 0 rfl) ?_
  refine gr_0_6 hC hB fl_BS_37 d_BS_checkTime_2 ?_
  refine gg_7_2 (x := (G 7 2)) hC hB rfl fl_BS_106 d_BS_checkTime_5 ?_
  refine lv_icmp_lt (tgt := 22) hx hb d_BS_checkTime_8 (by decide) (fun c1 => ?_) (fun c1 => ?_)
  · replace hf := hf.trans (if_pos c1)
    exact absurd (hf.symm.trans hz) (by decide)
  · replace hf := hf.trans (if_neg c1)
    refine lv_iload_n hx hb d_BS_checkTime_11 rfl (lv_at hl 1 rfl) ?_
    refine lv_aload_n hx hb d_BS_checkTime_12 rfl (lv_at hl 0 rfl) ?_
    refine gr_0_6 hC hB fl_BS_37 d_BS_checkTime_13 ?_
    refine gg_7_1 (x := (G 7 1)) hC hB rfl fl_BS_88 d_BS_checkTime_16 ?_
    refine lv_icmp_le (tgt := 32) hx hb d_BS_checkTime_19 (by decide) (fun c2 => ?_) (fun c2 => ?_)
    · replace hf := hf.trans (if_pos c2)
      exact W.vret hx hb hr (fun t ht hW => ⟨rfl, ht⟩) (fun q hq => nomatch hq) d_BS_checkTime_32 hlk
    · replace hf := hf.trans (if_neg c2)
      exact absurd (hf.symm.trans hz) (by decide)
abbrev rm_BS_program : Room := { frames := 6, cells := 1, slots := 6, locals := 82 }
def f_BS_program (G : gT) (p1 : Int32) (p2 : Int32) : Nat × Int32 × gT := (if p1 < 0 then (2, 0, G) else (if p1 < 64 then (0, (G 1 p1.toNatClampNeg), (g_up G 1 p1.toNatClampNeg p2)) else (2, 0, G)))
def ok_BS_program (G : gT) (p1 : Int32) (p2 : Int32) : Prop := ((p1 < 0 → True) ∧ (¬ p1 < 0 → ((p1 < 64 → (vp_in p1 64 ∧ (vp_in p1 64 ∧ True))) ∧ (¬ p1 < 64 → True))))
set_option maxHeartbeats 4000000 in
set_option maxRecDepth 100000 in
theorem c_BS_program (l : Launch) (hst : l.stackTraces = false) (G : gT) (p1 : Int32) (p2 : Int32) (O : Int64) (hok : ok_BS_program G p1 p2) : gMet l y_BS_program w_BS_program rm_BS_program (fun ad => [.ref (ad 0), .int p1, .int p2]) G O (gox (f_BS_program G p1 p2).1 (some (.int (f_BS_program G p1 p2).2.1))) ((f_BS_program G p1 p2).2.2) O := by
  refine g_body (by decide) (gCode_of _ _ _ _) (fun ad => by simp [lg_sl, Value.category]) ?_
  intro p e s0 s m args below meth c D cI cL ad hC hr hlk htb hB ls hl
  have hC : CallFix p m c b_BS_program 4 s args gtb R_BS := hC
  have hl : lv_has ls 4 [(0, .ref (ad 0)), (1, .int p1), (2, .int p2)] := hl
  have hx := hC.1
  have hb := hC.2.1
  have hf : f_BS_program G p1 p2 = (if p1 < 0 then (2, 0, G) else (if p1 < 64 then (0, (G 1 p1.toNatClampNeg), (g_up G 1 p1.toNatClampNeg p2)) else (2, 0, G))) := rfl
  have hok : ((p1 < 0 → True) ∧ (¬ p1 < 0 → ((p1 < 64 → (vp_in p1 64 ∧ (vp_in p1 64 ∧ True))) ∧ (¬ p1 < 64 → True)))) := hok
  refine lv_iload_n hx hb d_BS_program_0 rfl (lv_at hl 1 rfl) ?_
  refine lv_if_lt (tgt := 10) hx hb d_BS_program_1 (by decide) (fun c1 => ?_) (fun c1 => ?_)
  · replace hf := hf.trans (if_pos c1)
    replace hok := hok.1 c1
    exact gx_throw (E := 2) hC hB hst htb hlk hl.1 xk_47 rfl d_BS_program_10 d_BS_program_13 d_BS_program_14 d_BS_program_16 d_BS_program_19 ⟨Nat.le_of_ble_eq_true rfl, Nat.le_of_ble_eq_true rfl, Nat.le_of_ble_eq_true rfl, Nat.le_of_ble_eq_true rfl⟩ ⟨by decide, by decide⟩ (by rw [hf]; rfl) (by rw [hf])
  · replace hf := hf.trans (if_neg c1)
    replace hok := hok.2 c1
    refine lv_iload_n hx hb d_BS_program_4 rfl (lv_at hl 1 rfl) ?_
    refine lv_bipush (v := 64) hx hb d_BS_program_5 (by decide) ?_
    refine lv_icmp_lt (tgt := 20) hx hb d_BS_program_7 (by decide) (fun c2 => ?_) (fun c2 => ?_)
    · replace hf := hf.trans (if_pos c2)
      replace hok := hok.1 c2
      refine lv_aload_n hx hb d_BS_program_20 rfl (lv_at hl 0 rfl) ?_
      refine gr_0_1 hC hB fl_BS_9 d_BS_program_21 ?_
      refine lv_iload_n hx hb d_BS_program_24 rfl (lv_at hl 1 rfl) ?_
      refine ga_1 (x := (G 1 p1.toNatClampNeg)) hC hB hok.1 rfl d_BS_program_25 ?_
      replace hok := hok.2
      refine lv_istore_n (lv' := [(3, .int (G 1 p1.toNatClampNeg)), (0, .ref (ad 0)), (1, .int p1), (2, .int p2)]) hx hb d_BS_program_26 rfl hl (by decide) rfl (fun ls hl => ?_)
      refine lv_aload_n hx hb d_BS_program_27 rfl (lv_at hl 1 rfl) ?_
      refine gr_0_1 hC hB fl_BS_9 d_BS_program_28 ?_
      refine lv_iload_n hx hb d_BS_program_31 rfl (lv_at hl 2 rfl) ?_
      refine lv_iload_n hx hb d_BS_program_32 rfl (lv_at hl 3 rfl) ?_
      refine gs_1 hC hB hok.1 d_BS_program_33 (fun H locs hB => ?_)
      replace hok := hok.2
      refine lv_iload_n hx hb d_BS_program_34 rfl (lv_at hl 0 rfl) ?_
      exact g_iret hC hB hr hlk (by decide) (by decide) (by rw [hf]; rfl) (by rw [hf]) d_BS_program_35
    · replace hf := hf.trans (if_neg c2)
      replace hok := hok.2 c2
      exact gx_throw (E := 2) hC hB hst htb hlk hl.1 xk_47 rfl d_BS_program_10 d_BS_program_13 d_BS_program_14 d_BS_program_16 d_BS_program_19 ⟨Nat.le_of_ble_eq_true rfl, Nat.le_of_ble_eq_true rfl, Nat.le_of_ble_eq_true rfl, Nat.le_of_ble_eq_true rfl⟩ ⟨by decide, by decide⟩ (by rw [hf]; rfl) (by rw [hf])
abbrev rm_BS_input : Room := { frames := 6, cells := 1, slots := 6, locals := 82 }
def f_BS_input (G : gT) (p1 : Int32) : Nat × Int32 × gT := (if (G 0 3) < 200 then (0, ((G 0 3) + (1 : Int32)) - (G 3 2), (g_up (g_up G 2 ((G 0 3).toNatClampNeg) p1) 0 3 ((G 0 3) + (1 : Int32)))) else (3, 0, G))
def ok_BS_input (G : gT) (p1 : Int32) : Prop := (((G 0 3) < 200 → (vp_in (G 0 3) 200 ∧ True)) ∧ (¬ (G 0 3) < 200 → True))
set_option maxHeartbeats 4000000 in
set_option maxRecDepth 100000 in
theorem c_BS_input (l : Launch) (hst : l.stackTraces = false) (G : gT) (p1 : Int32) (O : Int64) (hok : ok_BS_input G p1) : gMet l y_BS_input w_BS_input rm_BS_input (fun ad => [.ref (ad 0), .int p1]) G O (gox (f_BS_input G p1).1 (some (.int (f_BS_input G p1).2.1))) ((f_BS_input G p1).2.2) O := by
  refine g_body (by decide) (gCode_of _ _ _ _) (fun ad => by simp [lg_sl, Value.category]) ?_
  intro p e s0 s m args below meth c D cI cL ad hC hr hlk htb hB ls hl
  have hC : CallFix p m c b_BS_input 2 s args gtb R_BS := hC
  have hl : lv_has ls 2 [(0, .ref (ad 0)), (1, .int p1)] := hl
  have hx := hC.1
  have hb := hC.2.1
  have hf : f_BS_input G p1 = (if (G 0 3) < 200 then (0, ((G 0 3) + (1 : Int32)) - (G 3 2), (g_up (g_up G 2 ((G 0 3).toNatClampNeg) p1) 0 3 ((G 0 3) + (1 : Int32)))) else (3, 0, G)) := rfl
  have hok : (((G 0 3) < 200 → (vp_in (G 0 3) 200 ∧ True)) ∧ (¬ (G 0 3) < 200 → True)) := hok
  refine lv_aload_n hx hb d_BS_input_0 rfl (lv_at hl 0 rfl) ?_
  refine gg_0_3 (x := (G 0 3)) hC hB rfl fl_BS_52 d_BS_input_1 ?_
  refine lv_sipush (v := 200) hx hb d_BS_input_4 (by decide) ?_
  refine lv_icmp_lt (tgt := 20) hx hb d_BS_input_7 (by decide) (fun c1 => ?_) (fun c1 => ?_)
  · replace hf := hf.trans (if_pos c1)
    replace hok := hok.1 c1
    refine lv_aload_n hx hb d_BS_input_20 rfl (lv_at hl 0 rfl) ?_
    refine gr_0_2 hC hB fl_BS_13 d_BS_input_21 ?_
    refine lv_aload_n hx hb d_BS_input_24 rfl (lv_at hl 0 rfl) ?_
    refine gg_0_3 (x := (G 0 3)) hC hB rfl fl_BS_52 d_BS_input_25 ?_
    refine lv_iload_n hx hb d_BS_input_28 rfl (lv_at hl 1 rfl) ?_
    refine gs_2 hC hB hok.1 d_BS_input_29 (fun H locs hB => ?_)
    replace hok := hok.2
    refine lv_aload_n hx hb d_BS_input_30 rfl (lv_at hl 0 rfl) ?_
    refine lv_dup hx hb d_BS_input_31 rfl ?_
    refine gg_0_3 (x := (G 0 3)) hC hB rfl fl_BS_52 d_BS_input_32 ?_
    refine lv_iconst (v := 1) hx hb d_BS_input_35 (by decide) ?_
    refine lv_iadd hx hb d_BS_input_36 ?_
    refine gp_0_3 hC hB fl_BS_52 d_BS_input_37 (fun H locs hB => ?_)
    refine lv_aload_n hx hb d_BS_input_40 rfl (lv_at hl 0 rfl) ?_
    refine gg_0_3 (x := (G 0 3) + (1 : Int32)) hC hB rfl fl_BS_52 d_BS_input_41 ?_
    refine lv_aload_n hx hb d_BS_input_44 rfl (lv_at hl 0 rfl) ?_
    refine gr_0_4 hC hB fl_BS_19 d_BS_input_45 ?_
    refine gg_3_2 (x := (G 3 2)) hC hB rfl fl_BS_60 d_BS_input_48 ?_
    refine lv_isub hx hb d_BS_input_51 ?_
    exact g_iret hC hB hr hlk (by decide) (by decide) (by rw [hf]; rfl) (by rw [hf]) d_BS_input_52
  · replace hf := hf.trans (if_neg c1)
    replace hok := hok.2 c1
    exact gx_throw (E := 3) hC hB hst htb hlk hl.1 xk_57 rfl d_BS_input_10 d_BS_input_13 d_BS_input_14 d_BS_input_16 d_BS_input_19 ⟨Nat.le_of_ble_eq_true rfl, Nat.le_of_ble_eq_true rfl, Nat.le_of_ble_eq_true rfl, Nat.le_of_ble_eq_true rfl⟩ ⟨by decide, by decide⟩ (by rw [hf]; rfl) (by rw [hf])
abbrev rm_BS_poke : Room := { frames := 7, cells := 1, slots := 6, locals := 95 }
def f_BS_poke (G : gT) (p1 : Int32) (p2 : Int32) : Nat × Int32 × gT := (if (f_BS_checkNumber G p1) = 0 then (0, (G 4 p1.toNatClampNeg), (f_Ro_dropAll (g_up G 4 p1.toNatClampNeg p2))) else ((f_BS_checkNumber G p1), 0, G))
def ok_BS_poke (G : gT) (p1 : Int32) (p2 : Int32) : Prop := (((f_BS_checkNumber G p1) = 0 → (vp_in p1 264 ∧ (vp_in p1 264 ∧ True))) ∧ True)
set_option maxHeartbeats 4000000 in
set_option maxRecDepth 100000 in
theorem c_BS_poke (l : Launch) (hst : l.stackTraces = false) (G : gT) (p1 : Int32) (p2 : Int32) (O : Int64) (hok : ok_BS_poke G p1 p2) : gMet l y_BS_poke w_BS_poke rm_BS_poke (fun ad => [.ref (ad 0), .int p1, .int p2]) G O (gox (f_BS_poke G p1 p2).1 (some (.int (f_BS_poke G p1 p2).2.1))) ((f_BS_poke G p1 p2).2.2) O := by
  refine g_body (by decide) (gCode_of _ _ _ _) (fun ad => by simp [lg_sl, Value.category]) ?_
  intro p e s0 s m args below meth c D cI cL ad hC hr hlk htb hB ls hl
  have hC : CallFix p m c b_BS_poke 4 s args gtb R_BS := hC
  have hl : lv_has ls 4 [(0, .ref (ad 0)), (1, .int p1), (2, .int p2)] := hl
  have hx := hC.1
  have hb := hC.2.1
  have hf : f_BS_poke G p1 p2 = (if (f_BS_checkNumber G p1) = 0 then (0, (G 4 p1.toNatClampNeg), (f_Ro_dropAll (g_up G 4 p1.toNatClampNeg p2))) else ((f_BS_checkNumber G p1), 0, G)) := rfl
  have hok : (((f_BS_checkNumber G p1) = 0 → (vp_in p1 264 ∧ (vp_in p1 264 ∧ True))) ∧ True) := hok
  refine lv_aload_n hx hb d_BS_poke_0 rfl (lv_at hl 0 rfl) ?_
  refine lv_iload_n hx hb d_BS_poke_1 rfl (lv_at hl 1 rfl) ?_
  by_cases c1 : (f_BS_checkNumber G p1) = 0
  · replace hf := hf.trans (if_pos c1)
    replace hok := hok.1 c1
    refine g_stayV (b := ad 0) (As := [.int p1]) (rest := []) hC hB (s_BS_checkNumber l G p1 c1) rfl key_BS_checkNumber rfl ins_BS_checkNumber sel_BS_checkNumber ml_BS_63 (g_rec0 hB) rfl hl.1 ⟨Nat.le_of_ble_eq_true rfl, Nat.le_of_ble_eq_true rfl, Nat.le_of_ble_eq_true rfl, Nat.le_of_ble_eq_true rfl⟩ d_BS_poke_2 ?_
    refine lv_aload_n hx hb d_BS_poke_5 rfl (lv_at hl 0 rfl) ?_
    refine gr_0_4 hC hB fl_BS_19 d_BS_poke_6 ?_
    refine gr_3_0 hC hB fl_BS_66 d_BS_poke_9 ?_
    refine lv_iload_n hx hb d_BS_poke_12 rfl (lv_at hl 1 rfl) ?_
    refine ga_4 (x := (G 4 p1.toNatClampNeg)) hC hB hok.1 rfl d_BS_poke_13 ?_
    replace hok := hok.2
    refine lv_istore_n (lv' := [(3, .int (G 4 p1.toNatClampNeg)), (0, .ref (ad 0)), (1, .int p1), (2, .int p2)]) hx hb d_BS_poke_14 rfl hl (by decide) rfl (fun ls hl => ?_)
    refine lv_aload_n hx hb d_BS_poke_15 rfl (lv_at hl 1 rfl) ?_
    refine gr_0_4 hC hB fl_BS_19 d_BS_poke_16 ?_
    refine gr_3_0 hC hB fl_BS_66 d_BS_poke_19 ?_
    refine lv_iload_n hx hb d_BS_poke_22 rfl (lv_at hl 2 rfl) ?_
    refine lv_iload_n hx hb d_BS_poke_23 rfl (lv_at hl 3 rfl) ?_
    refine gs_4 hC hB hok.1 d_BS_poke_24 (fun H locs hB => ?_)
    replace hok := hok.2
    refine lv_aload_n hx hb d_BS_poke_25 rfl (lv_at hl 1 rfl) ?_
    refine gr_0_6 hC hB fl_BS_37 d_BS_poke_26 ?_
    refine g_callVv (b := ad 7) (As := []) (rest := []) hC hB (c_Ro_dropAll l (g_up G 4 p1.toNatClampNeg p2) O) rfl key_Ro_dropAll rfl ins_Ro_dropAll sel_Ro_dropAll ml_BS_69 (g_rec7 hB) rfl hl.1 ⟨Nat.le_of_ble_eq_true rfl, Nat.le_of_ble_eq_true rfl, Nat.le_of_ble_eq_true rfl, Nat.le_of_ble_eq_true rfl⟩ d_BS_poke_29 (fun H locs hB => ?_)
    refine lv_iload_n hx hb d_BS_poke_32 rfl (lv_at hl 0 rfl) ?_
    exact g_iret hC hB hr hlk (by decide) (by decide) (by rw [hf]; rfl) (by rw [hf]) d_BS_poke_33
  · replace hf := hf.trans (if_neg c1)
    exact g_callV0 (b := ad 0) (As := [.int p1]) (rest := []) hC hB (c_BS_checkNumber l hst G p1 O) rfl key_BS_checkNumber rfl ins_BS_checkNumber sel_BS_checkNumber ml_BS_63 (g_rec0 hB) rfl hl.1 ⟨Nat.le_of_ble_eq_true rfl, Nat.le_of_ble_eq_true rfl, Nat.le_of_ble_eq_true rfl, Nat.le_of_ble_eq_true rfl⟩ d_BS_poke_2 (fun v H1 locs1 ho => absurd (ho.symm.trans (gox_n c1)) (by simp)) (fun E q ce H1 locs1 ho hce hcv hcl hB => gx_out hB htb hlk hce hcv hcl ⟨by decide, by decide⟩ (by rw [hf]; exact (gox_n c1).trans ((gox_n c1).symm.trans ho)) (by rw [hf]))
abbrev rm_BS_step : Room := { frames := 6, cells := 1, slots := 6, locals := 82 }
def f_BS_step_L24 (N : Nat) : Nat → gT → Int32 → Int32 → Nat × Int32 × gT
  | 0, G, x1, x2 => (0, 0, G)
  | n + 1, G, x1, x2 => (if x1 ≤ x2 then (0, x2, G) else (if ((f_Ma_advance_3 G (G 0 3)).1) = 0 then (0, x2, (f_Ma_advance_3 G (G 0 3)).2) else f_BS_step_L24 N n (f_Ro_keep_3 N ((f_Ma_advance_3 G (G 0 3)).2)) x1 (x2 + 1)))
def ok_BS_step_L24 (N : Nat) : Nat → gT → Int32 → Int32 → Prop
  | 0, G, x1, x2 => False
  | n + 1, G, x1, x2 => ((x1 ≤ x2 → True) ∧ (¬ x1 ≤ x2 → (ok_Ma_advance_3 G (G 0 3) ∧ ((((f_Ma_advance_3 G (G 0 3)).1) = 0 → True) ∧ (¬ ((f_Ma_advance_3 G (G 0 3)).1) = 0 → (ok_Ro_keep_3 N ((f_Ma_advance_3 G (G 0 3)).2) ∧ ok_BS_step_L24 N n (f_Ro_keep_3 N ((f_Ma_advance_3 G (G 0 3)).2)) x1 (x2 + 1)))))))
set_option maxHeartbeats 4000000 in
set_option maxRecDepth 100000 in
theorem w_BS_step_L24 {p : Program} {l : Launch} {e : Env} {s0 s : State} {m : MethodId} {args : Array Value} {below : List Frame} {meth : Method} {c : Code} {D : va_G} {cI cL : ClassId} {ad : Nat → Nat} {O : Int64} {N : Nat} (hC : CallFix p m c b_BS_step 3 s args gtb R_BS) (hr : meth.sig.returnType = some .int) (hlk : meth.locks = false) : ∀ (n : Nat) (G : gT) (x1 : Int32) (x2 : Int32), ok_BS_step_L24 N n G x1 x2 → ∀ (H : Heap) (locs : List Loc), gB s0 s D cI cL ad G O H locs → ∀ ls : Array Slot, lv_has ls 3 [(0, .ref (ad 0)), (1, .int x1), (2, .int x2)] → W p l e rm_BS_step s m args below meth c H locs 1 6 (gE s0 below args s D cI cL ad 1 6 (gox (f_BS_step_L24 N n G x1 x2).1 (some (.int (f_BS_step_L24 N n G x1 x2).2.1))) ((f_BS_step_L24 N n G x1 x2).2.2) O) (F0 m 24 ls []) := by
  have hx := hC.1
  have hb := hC.2.1
  intro n
  induction n with
  | zero =>
    intro G x1 x2 hok
    exact absurd hok (fun h => h)
  | succ n ih =>
    intro G x1 x2 hok H locs hB ls hl
    have hf : f_BS_step_L24 N (n + 1) G x1 x2 = (if x1 ≤ x2 then (0, x2, G) else (if ((f_Ma_advance_3 G (G 0 3)).1) = 0 then (0, x2, (f_Ma_advance_3 G (G 0 3)).2) else f_BS_step_L24 N n (f_Ro_keep_3 N ((f_Ma_advance_3 G (G 0 3)).2)) x1 (x2 + 1))) := rfl
    have hok : ((x1 ≤ x2 → True) ∧ (¬ x1 ≤ x2 → (ok_Ma_advance_3 G (G 0 3) ∧ ((((f_Ma_advance_3 G (G 0 3)).1) = 0 → True) ∧ (¬ ((f_Ma_advance_3 G (G 0 3)).1) = 0 → (ok_Ro_keep_3 N ((f_Ma_advance_3 G (G 0 3)).2) ∧ ok_BS_step_L24 N n (f_Ro_keep_3 N ((f_Ma_advance_3 G (G 0 3)).2)) x1 (x2 + 1))))))) := hok
    refine lv_iload_n hx hb d_BS_step_24 rfl (lv_at hl 2 rfl) ?_
    refine lv_iload_n hx hb d_BS_step_25 rfl (lv_at hl 1 rfl) ?_
    refine lv_icmp_ge (tgt := 68) hx hb d_BS_step_26 (by decide) (fun c3 => ?_) (fun c3 => ?_)
    · replace hf := hf.trans (if_pos c3)
      replace hok := hok.1 c3
      refine lv_iload_n hx hb d_BS_step_68 rfl (lv_at hl 2 rfl) ?_
      exact g_iret hC hB hr hlk (by decide) (by decide) (by rw [hf]; rfl) (by rw [hf]) d_BS_step_69
    · replace hf := hf.trans (if_neg c3)
      replace hok := hok.2 c3
      refine lv_aload_n hx hb d_BS_step_29 rfl (lv_at hl 0 rfl) ?_
      refine gr_0_4 hC hB fl_BS_19 d_BS_step_30 ?_
      refine lv_aload_n hx hb d_BS_step_33 rfl (lv_at hl 0 rfl) ?_
      refine gr_0_1 hC hB fl_BS_9 d_BS_step_34 ?_
      refine lv_aload_n hx hb d_BS_step_37 rfl (lv_at hl 0 rfl) ?_
      refine gr_0_2 hC hB fl_BS_13 d_BS_step_38 ?_
      refine lv_aload_n hx hb d_BS_step_41 rfl (lv_at hl 0 rfl) ?_
      refine gg_0_3 (x := (G 0 3)) hC hB rfl fl_BS_52 d_BS_step_42 ?_
      refine g_callVi (b := ad 3) (As := [.ref (ad 1), .ref (ad 2), .int (G 0 3)]) (rest := []) hC hB (c_Ma_advance_3 l G (G 0 3) O hok.1) rfl key_Ma_advance rfl ins_Ma_advance sel_Ma_advance ml_BS_77 (g_rec3 hB) rfl hl.1 ⟨Nat.le_of_ble_eq_true rfl, Nat.le_of_ble_eq_true rfl, Nat.le_of_ble_eq_true rfl, Nat.le_of_ble_eq_true rfl⟩ d_BS_step_45 (fun H locs hB => ?_)
      replace hok := hok.2
      refine lv_if_eq (tgt := 68) hx hb d_BS_step_48 (by decide) (fun c4 => ?_) (fun c4 => ?_)
      · replace hf := hf.trans (if_pos c4)
        replace hok := hok.1 c4
        refine lv_iload_n hx hb d_BS_step_68 rfl (lv_at hl 2 rfl) ?_
        exact g_iret hC hB hr hlk (by decide) (by decide) (by rw [hf]; rfl) (by rw [hf]) d_BS_step_69
      · replace hf := hf.trans (if_neg c4)
        replace hok := hok.2 c4
        refine lv_aload_n hx hb d_BS_step_51 rfl (lv_at hl 0 rfl) ?_
        refine gr_0_6 hC hB fl_BS_37 d_BS_step_52 ?_
        refine lv_aload_n hx hb d_BS_step_55 rfl (lv_at hl 0 rfl) ?_
        refine gr_0_4 hC hB fl_BS_19 d_BS_step_56 ?_
        refine g_callVv (b := ad 7) (As := [.ref (ad 3)]) (rest := []) hC hB (c_Ro_keep_3 l N ((f_Ma_advance_3 G (G 0 3)).2) O hok.1) rfl key_Ro_keep rfl ins_Ro_keep sel_Ro_keep ml_BS_81 (g_rec7 hB) rfl hl.1 ⟨Nat.le_of_ble_eq_true rfl, Nat.le_of_ble_eq_true rfl, Nat.le_of_ble_eq_true rfl, Nat.le_of_ble_eq_true rfl⟩ d_BS_step_59 (fun H locs hB => ?_)
        replace hok := hok.2
        refine lv_iinc (v := x2 + 1) (lv' := [(2, .int (x2 + 1)), (0, .ref (ad 0)), (1, .int x1)]) hx hb d_BS_step_62 hl (k := 2) rfl rfl (by decide) rfl (fun ls hl => ?_)
        refine lv_goto (tgt := 24) hx hb d_BS_step_65 (by decide) ?_
        rw [hf]
        exact ih (f_Ro_keep_3 N ((f_Ma_advance_3 G (G 0 3)).2)) x1 (x2 + 1) hok _ _ hB ls (lv_sub hl [1, 2, 0] rfl)
def f_BS_step (N : Nat) (G : gT) (p1 : Int32) : Nat × Int32 × gT := (if p1 < 1 then (1, 0, G) else (if p1 ≤ 2000 then f_BS_step_L24 N N G p1 0 else (1, 0, G)))
def ok_BS_step (N : Nat) (G : gT) (p1 : Int32) : Prop := ((p1 < 1 → True) ∧ (¬ p1 < 1 → ((p1 ≤ 2000 → ok_BS_step_L24 N N G p1 0) ∧ (¬ p1 ≤ 2000 → True))))
set_option maxHeartbeats 4000000 in
set_option maxRecDepth 100000 in
theorem c_BS_step (l : Launch) (hst : l.stackTraces = false) (N : Nat) (G : gT) (p1 : Int32) (O : Int64) (hok : ok_BS_step N G p1) : gMet l y_BS_step w_BS_step rm_BS_step (fun ad => [.ref (ad 0), .int p1]) G O (gox (f_BS_step N G p1).1 (some (.int (f_BS_step N G p1).2.1))) ((f_BS_step N G p1).2.2) O := by
  refine g_body (by decide) (gCode_of _ _ _ _) (fun ad => by simp [lg_sl, Value.category]) ?_
  intro p e s0 s m args below meth c D cI cL ad hC hr hlk htb hB ls hl
  have hC : CallFix p m c b_BS_step 3 s args gtb R_BS := hC
  have hl : lv_has ls 3 [(0, .ref (ad 0)), (1, .int p1)] := hl
  have hx := hC.1
  have hb := hC.2.1
  have hf : f_BS_step N G p1 = (if p1 < 1 then (1, 0, G) else (if p1 ≤ 2000 then f_BS_step_L24 N N G p1 0 else (1, 0, G))) := rfl
  have hok : ((p1 < 1 → True) ∧ (¬ p1 < 1 → ((p1 ≤ 2000 → ok_BS_step_L24 N N G p1 0) ∧ (¬ p1 ≤ 2000 → True)))) := hok
  refine lv_iload_n hx hb d_BS_step_0 rfl (lv_at hl 1 rfl) ?_
  refine lv_iconst (v := 1) hx hb d_BS_step_1 (by decide) ?_
  refine lv_icmp_lt (tgt := 12) hx hb d_BS_step_2 (by decide) (fun c1 => ?_) (fun c1 => ?_)
  · replace hf := hf.trans (if_pos c1)
    replace hok := hok.1 c1
    exact gx_throw (E := 1) hC hB hst htb hlk hl.1 xk_74 rfl d_BS_step_12 d_BS_step_15 d_BS_step_16 d_BS_step_18 d_BS_step_21 ⟨Nat.le_of_ble_eq_true rfl, Nat.le_of_ble_eq_true rfl, Nat.le_of_ble_eq_true rfl, Nat.le_of_ble_eq_true rfl⟩ ⟨by decide, by decide⟩ (by rw [hf]; rfl) (by rw [hf])
  · replace hf := hf.trans (if_neg c1)
    replace hok := hok.2 c1
    refine lv_iload_n hx hb d_BS_step_5 rfl (lv_at hl 1 rfl) ?_
    refine lv_sipush (v := 2000) hx hb d_BS_step_6 (by decide) ?_
    refine lv_icmp_le (tgt := 22) hx hb d_BS_step_9 (by decide) (fun c2 => ?_) (fun c2 => ?_)
    · replace hf := hf.trans (if_pos c2)
      replace hok := hok.1 c2
      refine lv_iconst (v := 0) hx hb d_BS_step_22 (by decide) ?_
      refine lv_istore_n (lv' := [(2, .int 0), (0, .ref (ad 0)), (1, .int p1)]) hx hb d_BS_step_23 rfl hl (by decide) rfl (fun ls hl => ?_)
      rw [hf]
      refine W.widen (k := 1) (n := 6) (by decide) (by decide) ?_
      exact w_BS_step_L24 hC hr hlk N G p1 0 hok _ _ hB ls (lv_sub hl [1, 2, 0] rfl)
    · replace hf := hf.trans (if_neg c2)
      replace hok := hok.2 c2
      exact gx_throw (E := 1) hC hB hst htb hlk hl.1 xk_74 rfl d_BS_step_12 d_BS_step_15 d_BS_step_16 d_BS_step_18 d_BS_step_21 ⟨Nat.le_of_ble_eq_true rfl, Nat.le_of_ble_eq_true rfl, Nat.le_of_ble_eq_true rfl, Nat.le_of_ble_eq_true rfl⟩ ⟨by decide, by decide⟩ (by rw [hf]; rfl) (by rw [hf])
abbrev rm_BS_back : Room := { frames := 7, cells := 1, slots := 6, locals := 95 }
def f_BS_back (N : Nat) (G : gT) (p1 : Int32) : Nat × Int32 × gT := (if (f_BS_checkTime G p1) = 0 then (0, (G 7 1) - p1, (f_Ro_forgetBehind N (f_Ro_undoDownTo_3 N G p1) p1)) else ((f_BS_checkTime G p1), 0, G))
def ok_BS_back (N : Nat) (G : gT) (p1 : Int32) : Prop := (((f_BS_checkTime G p1) = 0 → (ok_Ro_undoDownTo_3 N G p1 ∧ (ok_Ro_forgetBehind N (f_Ro_undoDownTo_3 N G p1) p1 ∧ True))) ∧ True)
set_option maxHeartbeats 4000000 in
set_option maxRecDepth 100000 in
theorem c_BS_back (l : Launch) (hst : l.stackTraces = false) (N : Nat) (G : gT) (p1 : Int32) (O : Int64) (hok : ok_BS_back N G p1) : gMet l y_BS_back w_BS_back rm_BS_back (fun ad => [.ref (ad 0), .int p1]) G O (gox (f_BS_back N G p1).1 (some (.int (f_BS_back N G p1).2.1))) ((f_BS_back N G p1).2.2) O := by
  refine g_body (by decide) (gCode_of _ _ _ _) (fun ad => by simp [lg_sl, Value.category]) ?_
  intro p e s0 s m args below meth c D cI cL ad hC hr hlk htb hB ls hl
  have hC : CallFix p m c b_BS_back 3 s args gtb R_BS := hC
  have hl : lv_has ls 3 [(0, .ref (ad 0)), (1, .int p1)] := hl
  have hx := hC.1
  have hb := hC.2.1
  have hf : f_BS_back N G p1 = (if (f_BS_checkTime G p1) = 0 then (0, (G 7 1) - p1, (f_Ro_forgetBehind N (f_Ro_undoDownTo_3 N G p1) p1)) else ((f_BS_checkTime G p1), 0, G)) := rfl
  have hok : (((f_BS_checkTime G p1) = 0 → (ok_Ro_undoDownTo_3 N G p1 ∧ (ok_Ro_forgetBehind N (f_Ro_undoDownTo_3 N G p1) p1 ∧ True))) ∧ True) := hok
  refine lv_aload_n hx hb d_BS_back_0 rfl (lv_at hl 0 rfl) ?_
  refine lv_iload_n hx hb d_BS_back_1 rfl (lv_at hl 1 rfl) ?_
  by_cases c1 : (f_BS_checkTime G p1) = 0
  · replace hf := hf.trans (if_pos c1)
    replace hok := hok.1 c1
    refine g_stayV (b := ad 0) (As := [.int p1]) (rest := []) hC hB (s_BS_checkTime l G p1 c1) rfl key_BS_checkTime rfl ins_BS_checkTime sel_BS_checkTime ml_BS_85 (g_rec0 hB) rfl hl.1 ⟨Nat.le_of_ble_eq_true rfl, Nat.le_of_ble_eq_true rfl, Nat.le_of_ble_eq_true rfl, Nat.le_of_ble_eq_true rfl⟩ d_BS_back_2 ?_
    refine lv_aload_n hx hb d_BS_back_5 rfl (lv_at hl 0 rfl) ?_
    refine gr_0_6 hC hB fl_BS_37 d_BS_back_6 ?_
    refine gg_7_1 (x := (G 7 1)) hC hB rfl fl_BS_88 d_BS_back_9 ?_
    refine lv_iload_n hx hb d_BS_back_12 rfl (lv_at hl 1 rfl) ?_
    refine lv_isub hx hb d_BS_back_13 ?_
    refine lv_istore_n (lv' := [(2, .int ((G 7 1) - p1)), (0, .ref (ad 0)), (1, .int p1)]) hx hb d_BS_back_14 rfl hl (by decide) rfl (fun ls hl => ?_)
    refine lv_aload_n hx hb d_BS_back_15 rfl (lv_at hl 1 rfl) ?_
    refine gr_0_6 hC hB fl_BS_37 d_BS_back_16 ?_
    refine lv_iload_n hx hb d_BS_back_19 rfl (lv_at hl 2 rfl) ?_
    refine lv_aload_n hx hb d_BS_back_20 rfl (lv_at hl 1 rfl) ?_
    refine gr_0_4 hC hB fl_BS_19 d_BS_back_21 ?_
    refine g_callVv (b := ad 7) (As := [.int p1, .ref (ad 3)]) (rest := []) hC hB (c_Ro_undoDownTo_3 l N G p1 O hok.1) rfl key_Ro_undoDownTo rfl ins_Ro_undoDownTo sel_Ro_undoDownTo ml_BS_91 (g_rec7 hB) rfl hl.1 ⟨Nat.le_of_ble_eq_true rfl, Nat.le_of_ble_eq_true rfl, Nat.le_of_ble_eq_true rfl, Nat.le_of_ble_eq_true rfl⟩ d_BS_back_24 (fun H locs hB => ?_)
    replace hok := hok.2
    refine lv_aload_n hx hb d_BS_back_27 rfl (lv_at hl 1 rfl) ?_
    refine gr_0_6 hC hB fl_BS_37 d_BS_back_28 ?_
    refine lv_iload_n hx hb d_BS_back_31 rfl (lv_at hl 2 rfl) ?_
    refine g_callVv (b := ad 7) (As := [.int p1]) (rest := []) hC hB (c_Ro_forgetBehind l N (f_Ro_undoDownTo_3 N G p1) p1 O hok.1) rfl key_Ro_forgetBehind rfl ins_Ro_forgetBehind sel_Ro_forgetBehind ml_BS_95 (g_rec7 hB) rfl hl.1 ⟨Nat.le_of_ble_eq_true rfl, Nat.le_of_ble_eq_true rfl, Nat.le_of_ble_eq_true rfl, Nat.le_of_ble_eq_true rfl⟩ d_BS_back_32 (fun H locs hB => ?_)
    replace hok := hok.2
    refine lv_iload_n hx hb d_BS_back_35 rfl (lv_at hl 0 rfl) ?_
    exact g_iret hC hB hr hlk (by decide) (by decide) (by rw [hf]; rfl) (by rw [hf]) d_BS_back_36
  · replace hf := hf.trans (if_neg c1)
    exact g_callV0 (b := ad 0) (As := [.int p1]) (rest := []) hC hB (c_BS_checkTime l hst G p1 O) rfl key_BS_checkTime rfl ins_BS_checkTime sel_BS_checkTime ml_BS_85 (g_rec0 hB) rfl hl.1 ⟨Nat.le_of_ble_eq_true rfl, Nat.le_of_ble_eq_true rfl, Nat.le_of_ble_eq_true rfl, Nat.le_of_ble_eq_true rfl⟩ d_BS_back_2 (fun v H1 locs1 ho => absurd (ho.symm.trans (gox_n c1)) (by simp)) (fun E q ce H1 locs1 ho hce hcv hcl hB => gx_out hB htb hlk hce hcv hcl ⟨by decide, by decide⟩ (by rw [hf]; exact (gox_n c1).trans ((gox_n c1).symm.trans ho)) (by rw [hf]))
abbrev rm_BS_look : Room := { frames := 7, cells := 1, slots := 6, locals := 95 }
def f_BS_look (N : Nat) (G : gT) (p1 : Int32) (p2 : Int32) : Nat × Int32 := (if (f_BS_checkTime G p1) = 0 then (if p2 < 0 then (2, 0) else (if p2 ≤ 268 then (if (264 : Int32) ≤ p2 then (0, (f_BS_restAt G p1 p2)) else (0, (f_BS_numberAt N G p1 p2))) else (2, 0))) else ((f_BS_checkTime G p1), 0))
def ok_BS_look (N : Nat) (G : gT) (p1 : Int32) (p2 : Int32) : Prop := (((f_BS_checkTime G p1) = 0 → ((p2 < 0 → True) ∧ (¬ p2 < 0 → ((p2 ≤ 268 → (((264 : Int32) ≤ p2 → (ok_BS_restAt G p1 p2 ∧ True)) ∧ (¬ (264 : Int32) ≤ p2 → (ok_BS_numberAt N G p1 p2 ∧ True)))) ∧ (¬ p2 ≤ 268 → True))))) ∧ True)
set_option maxHeartbeats 4000000 in
set_option maxRecDepth 100000 in
theorem c_BS_look (l : Launch) (hst : l.stackTraces = false) (N : Nat) (G : gT) (p1 : Int32) (p2 : Int32) (O : Int64) (hok : ok_BS_look N G p1 p2) : gMet l y_BS_look w_BS_look rm_BS_look (fun ad => [.ref (ad 0), .int p1, .int p2]) G O (gox (f_BS_look N G p1 p2).1 (some (.int (f_BS_look N G p1 p2).2))) G O := by
  refine g_body (by decide) (gCode_of _ _ _ _) (fun ad => by simp [lg_sl, Value.category]) ?_
  intro p e s0 s m args below meth c D cI cL ad hC hr hlk htb hB ls hl
  have hC : CallFix p m c b_BS_look 3 s args gtb R_BS := hC
  have hl : lv_has ls 3 [(0, .ref (ad 0)), (1, .int p1), (2, .int p2)] := hl
  have hx := hC.1
  have hb := hC.2.1
  have hf : f_BS_look N G p1 p2 = (if (f_BS_checkTime G p1) = 0 then (if p2 < 0 then (2, 0) else (if p2 ≤ 268 then (if (264 : Int32) ≤ p2 then (0, (f_BS_restAt G p1 p2)) else (0, (f_BS_numberAt N G p1 p2))) else (2, 0))) else ((f_BS_checkTime G p1), 0)) := rfl
  have hok : (((f_BS_checkTime G p1) = 0 → ((p2 < 0 → True) ∧ (¬ p2 < 0 → ((p2 ≤ 268 → (((264 : Int32) ≤ p2 → (ok_BS_restAt G p1 p2 ∧ True)) ∧ (¬ (264 : Int32) ≤ p2 → (ok_BS_numberAt N G p1 p2 ∧ True)))) ∧ (¬ p2 ≤ 268 → True))))) ∧ True) := hok
  refine lv_aload_n hx hb d_BS_look_0 rfl (lv_at hl 0 rfl) ?_
  refine lv_iload_n hx hb d_BS_look_1 rfl (lv_at hl 1 rfl) ?_
  by_cases c1 : (f_BS_checkTime G p1) = 0
  · replace hf := hf.trans (if_pos c1)
    replace hok := hok.1 c1
    refine g_stayV (b := ad 0) (As := [.int p1]) (rest := []) hC hB (s_BS_checkTime l G p1 c1) rfl key_BS_checkTime rfl ins_BS_checkTime sel_BS_checkTime ml_BS_85 (g_rec0 hB) rfl hl.1 ⟨Nat.le_of_ble_eq_true rfl, Nat.le_of_ble_eq_true rfl, Nat.le_of_ble_eq_true rfl, Nat.le_of_ble_eq_true rfl⟩ d_BS_look_2 ?_
    refine lv_iload_n hx hb d_BS_look_5 rfl (lv_at hl 2 rfl) ?_
    refine lv_if_lt (tgt := 16) hx hb d_BS_look_6 (by decide) (fun c2 => ?_) (fun c2 => ?_)
    · replace hf := hf.trans (if_pos c2)
      replace hok := hok.1 c2
      exact gx_throw (E := 2) hC hB hst htb hlk hl.1 xk_98 rfl d_BS_look_16 d_BS_look_19 d_BS_look_20 d_BS_look_22 d_BS_look_25 ⟨Nat.le_of_ble_eq_true rfl, Nat.le_of_ble_eq_true rfl, Nat.le_of_ble_eq_true rfl, Nat.le_of_ble_eq_true rfl⟩ ⟨by decide, by decide⟩ (by rw [hf]; rfl) rfl
    · replace hf := hf.trans (if_neg c2)
      replace hok := hok.2 c2
      refine lv_iload_n hx hb d_BS_look_9 rfl (lv_at hl 2 rfl) ?_
      refine lv_sipush (v := 268) hx hb d_BS_look_10 (by decide) ?_
      refine lv_icmp_le (tgt := 26) hx hb d_BS_look_13 (by decide) (fun c3 => ?_) (fun c3 => ?_)
      · replace hf := hf.trans (if_pos c3)
        replace hok := hok.1 c3
        refine lv_iload_n hx hb d_BS_look_26 rfl (lv_at hl 2 rfl) ?_
        refine lv_sipush (v := 264) hx hb d_BS_look_27 (by decide) ?_
        refine lv_icmp_ge (tgt := 42) hx hb d_BS_look_30 (by decide) (fun c4 => ?_) (fun c4 => ?_)
        · replace hf := hf.trans (if_pos c4)
          replace hok := hok.1 c4
          refine lv_aload_n hx hb d_BS_look_42 rfl (lv_at hl 0 rfl) ?_
          refine lv_iload_n hx hb d_BS_look_43 rfl (lv_at hl 1 rfl) ?_
          refine lv_iload_n hx hb d_BS_look_44 rfl (lv_at hl 2 rfl) ?_
          refine g_callVi (b := ad 0) (As := [.int p1, .int p2]) (rest := []) hC hB (c_BS_restAt l G p1 p2 O hok.1) rfl key_BS_restAt rfl ins_BS_restAt sel_BS_restAt ml_BS_103 (g_rec0 hB) rfl hl.1 ⟨Nat.le_of_ble_eq_true rfl, Nat.le_of_ble_eq_true rfl, Nat.le_of_ble_eq_true rfl, Nat.le_of_ble_eq_true rfl⟩ d_BS_look_45 (fun H locs hB => ?_)
          replace hok := hok.2
          exact g_iret hC hB hr hlk (by decide) (by decide) (by rw [hf]; rfl) rfl d_BS_look_48
        · replace hf := hf.trans (if_neg c4)
          replace hok := hok.2 c4
          refine lv_aload_n hx hb d_BS_look_33 rfl (lv_at hl 0 rfl) ?_
          refine lv_iload_n hx hb d_BS_look_34 rfl (lv_at hl 1 rfl) ?_
          refine lv_iload_n hx hb d_BS_look_35 rfl (lv_at hl 2 rfl) ?_
          refine g_callVi (b := ad 0) (As := [.int p1, .int p2]) (rest := []) hC hB (c_BS_numberAt l N G p1 p2 O hok.1) rfl key_BS_numberAt rfl ins_BS_numberAt sel_BS_numberAt ml_BS_100 (g_rec0 hB) rfl hl.1 ⟨Nat.le_of_ble_eq_true rfl, Nat.le_of_ble_eq_true rfl, Nat.le_of_ble_eq_true rfl, Nat.le_of_ble_eq_true rfl⟩ d_BS_look_36 (fun H locs hB => ?_)
          replace hok := hok.2
          refine lv_goto (tgt := 48) hx hb d_BS_look_39 (by decide) ?_
          exact g_iret hC hB hr hlk (by decide) (by decide) (by rw [hf]; rfl) rfl d_BS_look_48
      · replace hf := hf.trans (if_neg c3)
        replace hok := hok.2 c3
        exact gx_throw (E := 2) hC hB hst htb hlk hl.1 xk_98 rfl d_BS_look_16 d_BS_look_19 d_BS_look_20 d_BS_look_22 d_BS_look_25 ⟨Nat.le_of_ble_eq_true rfl, Nat.le_of_ble_eq_true rfl, Nat.le_of_ble_eq_true rfl, Nat.le_of_ble_eq_true rfl⟩ ⟨by decide, by decide⟩ (by rw [hf]; rfl) rfl
  · replace hf := hf.trans (if_neg c1)
    exact g_callV0 (b := ad 0) (As := [.int p1]) (rest := []) hC hB (c_BS_checkTime l hst G p1 O) rfl key_BS_checkTime rfl ins_BS_checkTime sel_BS_checkTime ml_BS_85 (g_rec0 hB) rfl hl.1 ⟨Nat.le_of_ble_eq_true rfl, Nat.le_of_ble_eq_true rfl, Nat.le_of_ble_eq_true rfl, Nat.le_of_ble_eq_true rfl⟩ d_BS_look_2 (fun v H1 locs1 ho => absurd (ho.symm.trans (gox_n c1)) (by simp)) (fun E q ce H1 locs1 ho hce hcv hcl hB => gx_out hB htb hlk hce hcv hcl ⟨by decide, by decide⟩ (by rw [hf]; exact (gox_n c1).trans ((gox_n c1).symm.trans ho)) rfl)
abbrev rm_BS_wrote : Room := { frames := 7, cells := 1, slots := 6, locals := 95 }
def f_BS_wrote_L13 : Nat → gT → Int32 → Int32 → Nat × Int32
  | 0, G, x1, x2 => (0, 0)
  | n + 1, G, x1, x2 => (if x2 ≤ (G 7 2) then (0, (-1)) else (if (f_Ro_writtenBy G (x2 - (1 : Int32))) = x1 then (0, x2) else f_BS_wrote_L13 n G x1 (x2 + (-1))))
def ok_BS_wrote_L13 : Nat → gT → Int32 → Int32 → Prop
  | 0, G, x1, x2 => False
  | n + 1, G, x1, x2 => ((x2 ≤ (G 7 2) → True) ∧ (¬ x2 ≤ (G 7 2) → (ok_Ro_writtenBy G (x2 - (1 : Int32)) ∧ (((f_Ro_writtenBy G (x2 - (1 : Int32))) = x1 → True) ∧ (¬ (f_Ro_writtenBy G (x2 - (1 : Int32))) = x1 → ok_BS_wrote_L13 n G x1 (x2 + (-1)))))))
set_option maxHeartbeats 4000000 in
set_option maxRecDepth 100000 in
theorem w_BS_wrote_L13 {p : Program} {l : Launch} {e : Env} {s0 s : State} {m : MethodId} {args : Array Value} {below : List Frame} {meth : Method} {c : Code} {D : va_G} {cI cL : ClassId} {ad : Nat → Nat} {O : Int64} (hC : CallFix p m c b_BS_wrote 3 s args gtb R_BS) (hr : meth.sig.returnType = some .int) (hlk : meth.locks = false) : ∀ (n : Nat) (G : gT) (x1 : Int32) (x2 : Int32), ok_BS_wrote_L13 n G x1 x2 → ∀ (H : Heap) (locs : List Loc), gB s0 s D cI cL ad G O H locs → ∀ ls : Array Slot, lv_has ls 3 [(0, .ref (ad 0)), (1, .int x1), (2, .int x2)] → W p l e rm_BS_wrote s m args below meth c H locs 1 6 (gE s0 below args s D cI cL ad 1 6 (gox (f_BS_wrote_L13 n G x1 x2).1 (some (.int (f_BS_wrote_L13 n G x1 x2).2))) G O) (F0 m 13 ls []) := by
  have hx := hC.1
  have hb := hC.2.1
  intro n
  induction n with
  | zero =>
    intro G x1 x2 hok
    exact absurd hok (fun h => h)
  | succ n ih =>
    intro G x1 x2 hok H locs hB ls hl
    have hf : f_BS_wrote_L13 (n + 1) G x1 x2 = (if x2 ≤ (G 7 2) then (0, (-1)) else (if (f_Ro_writtenBy G (x2 - (1 : Int32))) = x1 then (0, x2) else f_BS_wrote_L13 n G x1 (x2 + (-1)))) := rfl
    have hok : ((x2 ≤ (G 7 2) → True) ∧ (¬ x2 ≤ (G 7 2) → (ok_Ro_writtenBy G (x2 - (1 : Int32)) ∧ (((f_Ro_writtenBy G (x2 - (1 : Int32))) = x1 → True) ∧ (¬ (f_Ro_writtenBy G (x2 - (1 : Int32))) = x1 → ok_BS_wrote_L13 n G x1 (x2 + (-1))))))) := hok
    refine lv_iload_n hx hb d_BS_wrote_13 rfl (lv_at hl 2 rfl) ?_
    refine lv_aload_n hx hb d_BS_wrote_14 rfl (lv_at hl 0 rfl) ?_
    refine gr_0_6 hC hB fl_BS_37 d_BS_wrote_15 ?_
    refine gg_7_2 (x := (G 7 2)) hC hB rfl fl_BS_106 d_BS_wrote_18 ?_
    refine lv_icmp_le (tgt := 46) hx hb d_BS_wrote_21 (by decide) (fun c2 => ?_) (fun c2 => ?_)
    · replace hf := hf.trans (if_pos c2)
      replace hok := hok.1 c2
      refine lv_iconst (v := (-1)) hx hb d_BS_wrote_46 (by decide) ?_
      exact g_iret hC hB hr hlk (by decide) (by decide) (by rw [hf]; rfl) rfl d_BS_wrote_47
    · replace hf := hf.trans (if_neg c2)
      replace hok := hok.2 c2
      refine lv_aload_n hx hb d_BS_wrote_24 rfl (lv_at hl 0 rfl) ?_
      refine gr_0_6 hC hB fl_BS_37 d_BS_wrote_25 ?_
      refine lv_iload_n hx hb d_BS_wrote_28 rfl (lv_at hl 2 rfl) ?_
      refine lv_iconst (v := 1) hx hb d_BS_wrote_29 (by decide) ?_
      refine lv_isub hx hb d_BS_wrote_30 ?_
      refine g_callVi (b := ad 7) (As := [.int (x2 - (1 : Int32))]) (rest := []) hC hB (c_Ro_writtenBy l G (x2 - (1 : Int32)) O hok.1) rfl key_Ro_writtenBy rfl ins_Ro_writtenBy sel_Ro_writtenBy ml_BS_109 (g_rec7 hB) rfl hl.1 ⟨Nat.le_of_ble_eq_true rfl, Nat.le_of_ble_eq_true rfl, Nat.le_of_ble_eq_true rfl, Nat.le_of_ble_eq_true rfl⟩ d_BS_wrote_31 (fun H locs hB => ?_)
      replace hok := hok.2
      refine lv_iload_n hx hb d_BS_wrote_34 rfl (lv_at hl 1 rfl) ?_
      refine lv_icmp_ne (tgt := 40) hx hb d_BS_wrote_35 (by decide) (fun c3 => ?_) (fun c3 => ?_)
      · replace hf := hf.trans (if_neg c3)
        replace hok := hok.2 c3
        refine lv_iinc (v := x2 + (-1)) (lv' := [(2, .int (x2 + (-1))), (0, .ref (ad 0)), (1, .int x1)]) hx hb d_BS_wrote_40 hl (k := 2) rfl (congrArg (fun z : Int32 => x2 + z) (by decide)) (by decide) rfl (fun ls hl => ?_)
        refine lv_goto (tgt := 13) hx hb d_BS_wrote_43 (by decide) ?_
        rw [hf]
        exact ih G x1 (x2 + (-1)) hok _ _ hB ls (lv_sub hl [1, 2, 0] rfl)
      · replace hf := hf.trans (if_pos c3)
        replace hok := hok.1 c3
        refine lv_iload_n hx hb d_BS_wrote_38 rfl (lv_at hl 2 rfl) ?_
        exact g_iret hC hB hr hlk (by decide) (by decide) (by rw [hf]; rfl) rfl d_BS_wrote_39
def f_BS_wrote (N : Nat) (G : gT) (p1 : Int32) : Nat × Int32 := (if (f_BS_checkNumber G p1) = 0 then f_BS_wrote_L13 N G p1 (G 7 1) else ((f_BS_checkNumber G p1), 0))
def ok_BS_wrote (N : Nat) (G : gT) (p1 : Int32) : Prop := (((f_BS_checkNumber G p1) = 0 → ok_BS_wrote_L13 N G p1 (G 7 1)) ∧ True)
set_option maxHeartbeats 4000000 in
set_option maxRecDepth 100000 in
theorem c_BS_wrote (l : Launch) (hst : l.stackTraces = false) (N : Nat) (G : gT) (p1 : Int32) (O : Int64) (hok : ok_BS_wrote N G p1) : gMet l y_BS_wrote w_BS_wrote rm_BS_wrote (fun ad => [.ref (ad 0), .int p1]) G O (gox (f_BS_wrote N G p1).1 (some (.int (f_BS_wrote N G p1).2))) G O := by
  refine g_body (by decide) (gCode_of _ _ _ _) (fun ad => by simp [lg_sl, Value.category]) ?_
  intro p e s0 s m args below meth c D cI cL ad hC hr hlk htb hB ls hl
  have hC : CallFix p m c b_BS_wrote 3 s args gtb R_BS := hC
  have hl : lv_has ls 3 [(0, .ref (ad 0)), (1, .int p1)] := hl
  have hx := hC.1
  have hb := hC.2.1
  have hf : f_BS_wrote N G p1 = (if (f_BS_checkNumber G p1) = 0 then f_BS_wrote_L13 N G p1 (G 7 1) else ((f_BS_checkNumber G p1), 0)) := rfl
  have hok : (((f_BS_checkNumber G p1) = 0 → ok_BS_wrote_L13 N G p1 (G 7 1)) ∧ True) := hok
  refine lv_aload_n hx hb d_BS_wrote_0 rfl (lv_at hl 0 rfl) ?_
  refine lv_iload_n hx hb d_BS_wrote_1 rfl (lv_at hl 1 rfl) ?_
  by_cases c1 : (f_BS_checkNumber G p1) = 0
  · replace hf := hf.trans (if_pos c1)
    replace hok := hok.1 c1
    refine g_stayV (b := ad 0) (As := [.int p1]) (rest := []) hC hB (s_BS_checkNumber l G p1 c1) rfl key_BS_checkNumber rfl ins_BS_checkNumber sel_BS_checkNumber ml_BS_63 (g_rec0 hB) rfl hl.1 ⟨Nat.le_of_ble_eq_true rfl, Nat.le_of_ble_eq_true rfl, Nat.le_of_ble_eq_true rfl, Nat.le_of_ble_eq_true rfl⟩ d_BS_wrote_2 ?_
    refine lv_aload_n hx hb d_BS_wrote_5 rfl (lv_at hl 0 rfl) ?_
    refine gr_0_6 hC hB fl_BS_37 d_BS_wrote_6 ?_
    refine gg_7_1 (x := (G 7 1)) hC hB rfl fl_BS_88 d_BS_wrote_9 ?_
    refine lv_istore_n (lv' := [(2, .int (G 7 1)), (0, .ref (ad 0)), (1, .int p1)]) hx hb d_BS_wrote_12 rfl hl (by decide) rfl (fun ls hl => ?_)
    rw [hf]
    refine W.widen (k := 1) (n := 6) (by decide) (by decide) ?_
    exact w_BS_wrote_L13 hC hr hlk N G p1 (G 7 1) hok _ _ hB ls (lv_sub hl [1, 2, 0] rfl)
  · replace hf := hf.trans (if_neg c1)
    exact g_callV0 (b := ad 0) (As := [.int p1]) (rest := []) hC hB (c_BS_checkNumber l hst G p1 O) rfl key_BS_checkNumber rfl ins_BS_checkNumber sel_BS_checkNumber ml_BS_63 (g_rec0 hB) rfl hl.1 ⟨Nat.le_of_ble_eq_true rfl, Nat.le_of_ble_eq_true rfl, Nat.le_of_ble_eq_true rfl, Nat.le_of_ble_eq_true rfl⟩ d_BS_wrote_2 (fun v H1 locs1 ho => absurd (ho.symm.trans (gox_n c1)) (by simp)) (fun E q ce H1 locs1 ho hce hcv hcl hB => gx_out hB htb hlk hce hcv hcl ⟨by decide, by decide⟩ (by rw [hf]; exact (gox_n c1).trans ((gox_n c1).symm.trans ho)) rfl)
abbrev rm_BS_when : Room := { frames := 7, cells := 1, slots := 6, locals := 95 }
def f_BS_when_L21 (N : Nat) : Nat → gT → Int32 → Int32 → Int32 → Int32 → Int32 → Nat × Int32
  | 0, G, x1, x2, x3, x4, x5 => (0, 0)
  | n + 1, G, x1, x2, x3, x4, x5 => (if x5 ≤ (G 7 2) then (if x4 = x3 then (0, (G 7 2)) else (0, (-1))) else (if x4 = x3 then (0, x5) else f_BS_when_L21 N n G x1 x2 x3 (f_Ro_numberBefore G (x5 - (1 : Int32)) x2 x4) (x5 + (-1))))
def ok_BS_when_L21 (N : Nat) : Nat → gT → Int32 → Int32 → Int32 → Int32 → Int32 → Prop
  | 0, G, x1, x2, x3, x4, x5 => False
  | n + 1, G, x1, x2, x3, x4, x5 => ((x5 ≤ (G 7 2) → True) ∧ (¬ x5 ≤ (G 7 2) → ((x4 = x3 → True) ∧ (¬ x4 = x3 → (ok_Ro_numberBefore G (x5 - (1 : Int32)) x2 x4 ∧ ok_BS_when_L21 N n G x1 x2 x3 (f_Ro_numberBefore G (x5 - (1 : Int32)) x2 x4) (x5 + (-1)))))))
set_option maxHeartbeats 4000000 in
set_option maxRecDepth 100000 in
theorem w_BS_when_L21 {p : Program} {l : Launch} {e : Env} {s0 s : State} {m : MethodId} {args : Array Value} {below : List Frame} {meth : Method} {c : Code} {D : va_G} {cI cL : ClassId} {ad : Nat → Nat} {O : Int64} {N : Nat} (hC : CallFix p m c b_BS_when 6 s args gtb R_BS) (hr : meth.sig.returnType = some .int) (hlk : meth.locks = false) : ∀ (n : Nat) (G : gT) (x1 : Int32) (x2 : Int32) (x3 : Int32) (x4 : Int32) (x5 : Int32), ok_BS_when_L21 N n G x1 x2 x3 x4 x5 → ∀ (H : Heap) (locs : List Loc), gB s0 s D cI cL ad G O H locs → ∀ ls : Array Slot, lv_has ls 6 [(0, .ref (ad 0)), (1, .int x1), (2, .int x2), (3, .int x3), (4, .int x4), (5, .int x5)] → W p l e rm_BS_when s m args below meth c H locs 1 6 (gE s0 below args s D cI cL ad 1 6 (gox (f_BS_when_L21 N n G x1 x2 x3 x4 x5).1 (some (.int (f_BS_when_L21 N n G x1 x2 x3 x4 x5).2))) G O) (F0 m 21 ls []) := by
  have hx := hC.1
  have hb := hC.2.1
  intro n
  induction n with
  | zero =>
    intro G x1 x2 x3 x4 x5 hok
    exact absurd hok (fun h => h)
  | succ n ih =>
    intro G x1 x2 x3 x4 x5 hok H locs hB ls hl
    have hf : f_BS_when_L21 N (n + 1) G x1 x2 x3 x4 x5 = (if x5 ≤ (G 7 2) then (if x4 = x3 then (0, (G 7 2)) else (0, (-1))) else (if x4 = x3 then (0, x5) else f_BS_when_L21 N n G x1 x2 x3 (f_Ro_numberBefore G (x5 - (1 : Int32)) x2 x4) (x5 + (-1)))) := rfl
    have hok : ((x5 ≤ (G 7 2) → True) ∧ (¬ x5 ≤ (G 7 2) → ((x4 = x3 → True) ∧ (¬ x4 = x3 → (ok_Ro_numberBefore G (x5 - (1 : Int32)) x2 x4 ∧ ok_BS_when_L21 N n G x1 x2 x3 (f_Ro_numberBefore G (x5 - (1 : Int32)) x2 x4) (x5 + (-1))))))) := hok
    refine lv_iload hx hb d_BS_when_21 (lv_at hl 5 rfl) ?_
    refine lv_aload_n hx hb d_BS_when_23 rfl (lv_at hl 0 rfl) ?_
    refine gr_0_6 hC hB fl_BS_37 d_BS_when_24 ?_
    refine gg_7_2 (x := (G 7 2)) hC hB rfl fl_BS_106 d_BS_when_27 ?_
    refine lv_icmp_le (tgt := 64) hx hb d_BS_when_30 (by decide) (fun c3 => ?_) (fun c3 => ?_)
    · replace hf := hf.trans (if_pos c3)
      replace hok := hok.1 c3
      refine lv_iload hx hb d_BS_when_64 (lv_at hl 4 rfl) ?_
      refine lv_iload_n hx hb d_BS_when_66 rfl (lv_at hl 3 rfl) ?_
      refine lv_icmp_ne (tgt := 80) hx hb d_BS_when_67 (by decide) (fun c4 => ?_) (fun c4 => ?_)
      · replace hf := hf.trans (if_neg c4)
        refine lv_iconst (v := (-1)) hx hb d_BS_when_80 (by decide) ?_
        exact g_iret hC hB hr hlk (by decide) (by decide) (by rw [hf]; rfl) rfl d_BS_when_81
      · replace hf := hf.trans (if_pos c4)
        refine lv_aload_n hx hb d_BS_when_70 rfl (lv_at hl 0 rfl) ?_
        refine gr_0_6 hC hB fl_BS_37 d_BS_when_71 ?_
        refine gg_7_2 (x := (G 7 2)) hC hB rfl fl_BS_106 d_BS_when_74 ?_
        refine lv_goto (tgt := 81) hx hb d_BS_when_77 (by decide) ?_
        exact g_iret hC hB hr hlk (by decide) (by decide) (by rw [hf]; rfl) rfl d_BS_when_81
    · replace hf := hf.trans (if_neg c3)
      replace hok := hok.2 c3
      refine lv_iload hx hb d_BS_when_33 (lv_at hl 4 rfl) ?_
      refine lv_iload_n hx hb d_BS_when_35 rfl (lv_at hl 3 rfl) ?_
      refine lv_icmp_ne (tgt := 42) hx hb d_BS_when_36 (by decide) (fun c5 => ?_) (fun c5 => ?_)
      · replace hf := hf.trans (if_neg c5)
        replace hok := hok.2 c5
        refine lv_aload_n hx hb d_BS_when_42 rfl (lv_at hl 0 rfl) ?_
        refine gr_0_6 hC hB fl_BS_37 d_BS_when_43 ?_
        refine lv_iload hx hb d_BS_when_46 (lv_at hl 5 rfl) ?_
        refine lv_iconst (v := 1) hx hb d_BS_when_48 (by decide) ?_
        refine lv_isub hx hb d_BS_when_49 ?_
        refine lv_iload_n hx hb d_BS_when_50 rfl (lv_at hl 2 rfl) ?_
        refine lv_iload hx hb d_BS_when_51 (lv_at hl 4 rfl) ?_
        refine g_callVi (b := ad 7) (As := [.int (x5 - (1 : Int32)), .int x2, .int x4]) (rest := []) hC hB (c_Ro_numberBefore l G (x5 - (1 : Int32)) x2 x4 O hok.1) rfl key_Ro_numberBefore rfl ins_Ro_numberBefore sel_Ro_numberBefore ml_BS_113 (g_rec7 hB) rfl hl.1 ⟨Nat.le_of_ble_eq_true rfl, Nat.le_of_ble_eq_true rfl, Nat.le_of_ble_eq_true rfl, Nat.le_of_ble_eq_true rfl⟩ d_BS_when_53 (fun H locs hB => ?_)
        replace hok := hok.2
        refine lv_istore (lv' := [(4, .int (f_Ro_numberBefore G (x5 - (1 : Int32)) x2 x4)), (0, .ref (ad 0)), (1, .int x1), (2, .int x2), (3, .int x3), (5, .int x5)]) hx hb d_BS_when_56 hl (by decide) rfl (fun ls hl => ?_)
        refine lv_iinc (v := x5 + (-1)) (lv' := [(5, .int (x5 + (-1))), (4, .int (f_Ro_numberBefore G (x5 - (1 : Int32)) x2 x4)), (0, .ref (ad 0)), (1, .int x1), (2, .int x2), (3, .int x3)]) hx hb d_BS_when_58 hl (k := 5) rfl (congrArg (fun z : Int32 => x5 + z) (by decide)) (by decide) rfl (fun ls hl => ?_)
        refine lv_goto (tgt := 21) hx hb d_BS_when_61 (by decide) ?_
        rw [hf]
        exact ih G x1 x2 x3 (f_Ro_numberBefore G (x5 - (1 : Int32)) x2 x4) (x5 + (-1)) hok _ _ hB ls (lv_sub hl [2, 3, 4, 5, 1, 0] rfl)
      · replace hf := hf.trans (if_pos c5)
        replace hok := hok.1 c5
        refine lv_iload hx hb d_BS_when_39 (lv_at hl 5 rfl) ?_
        exact g_iret hC hB hr hlk (by decide) (by decide) (by rw [hf]; rfl) rfl d_BS_when_41
def f_BS_when (N : Nat) (G : gT) (p1 : Int32) (p2 : Int32) (p3 : Int32) : Nat × Int32 := (if (f_BS_checkTime G p1) = 0 then (if (f_BS_checkNumber G p2) = 0 then f_BS_when_L21 N N G p1 p2 p3 (f_BS_numberAt N G p1 p2) p1 else ((f_BS_checkNumber G p2), 0)) else ((f_BS_checkTime G p1), 0))
def ok_BS_when (N : Nat) (G : gT) (p1 : Int32) (p2 : Int32) (p3 : Int32) : Prop := (((f_BS_checkTime G p1) = 0 → (((f_BS_checkNumber G p2) = 0 → (ok_BS_numberAt N G p1 p2 ∧ ok_BS_when_L21 N N G p1 p2 p3 (f_BS_numberAt N G p1 p2) p1)) ∧ True)) ∧ True)
set_option maxHeartbeats 4000000 in
set_option maxRecDepth 100000 in
theorem c_BS_when (l : Launch) (hst : l.stackTraces = false) (N : Nat) (G : gT) (p1 : Int32) (p2 : Int32) (p3 : Int32) (O : Int64) (hok : ok_BS_when N G p1 p2 p3) : gMet l y_BS_when w_BS_when rm_BS_when (fun ad => [.ref (ad 0), .int p1, .int p2, .int p3]) G O (gox (f_BS_when N G p1 p2 p3).1 (some (.int (f_BS_when N G p1 p2 p3).2))) G O := by
  refine g_body (by decide) (gCode_of _ _ _ _) (fun ad => by simp [lg_sl, Value.category]) ?_
  intro p e s0 s m args below meth c D cI cL ad hC hr hlk htb hB ls hl
  have hC : CallFix p m c b_BS_when 6 s args gtb R_BS := hC
  have hl : lv_has ls 6 [(0, .ref (ad 0)), (1, .int p1), (2, .int p2), (3, .int p3)] := hl
  have hx := hC.1
  have hb := hC.2.1
  have hf : f_BS_when N G p1 p2 p3 = (if (f_BS_checkTime G p1) = 0 then (if (f_BS_checkNumber G p2) = 0 then f_BS_when_L21 N N G p1 p2 p3 (f_BS_numberAt N G p1 p2) p1 else ((f_BS_checkNumber G p2), 0)) else ((f_BS_checkTime G p1), 0)) := rfl
  have hok : (((f_BS_checkTime G p1) = 0 → (((f_BS_checkNumber G p2) = 0 → (ok_BS_numberAt N G p1 p2 ∧ ok_BS_when_L21 N N G p1 p2 p3 (f_BS_numberAt N G p1 p2) p1)) ∧ True)) ∧ True) := hok
  refine lv_aload_n hx hb d_BS_when_0 rfl (lv_at hl 0 rfl) ?_
  refine lv_iload_n hx hb d_BS_when_1 rfl (lv_at hl 1 rfl) ?_
  by_cases c1 : (f_BS_checkTime G p1) = 0
  · replace hf := hf.trans (if_pos c1)
    replace hok := hok.1 c1
    refine g_stayV (b := ad 0) (As := [.int p1]) (rest := []) hC hB (s_BS_checkTime l G p1 c1) rfl key_BS_checkTime rfl ins_BS_checkTime sel_BS_checkTime ml_BS_85 (g_rec0 hB) rfl hl.1 ⟨Nat.le_of_ble_eq_true rfl, Nat.le_of_ble_eq_true rfl, Nat.le_of_ble_eq_true rfl, Nat.le_of_ble_eq_true rfl⟩ d_BS_when_2 ?_
    refine lv_aload_n hx hb d_BS_when_5 rfl (lv_at hl 0 rfl) ?_
    refine lv_iload_n hx hb d_BS_when_6 rfl (lv_at hl 2 rfl) ?_
    by_cases c2 : (f_BS_checkNumber G p2) = 0
    · replace hf := hf.trans (if_pos c2)
      replace hok := hok.1 c2
      refine g_stayV (b := ad 0) (As := [.int p2]) (rest := []) hC hB (s_BS_checkNumber l G p2 c2) rfl key_BS_checkNumber rfl ins_BS_checkNumber sel_BS_checkNumber ml_BS_63 (g_rec0 hB) rfl hl.1 ⟨Nat.le_of_ble_eq_true rfl, Nat.le_of_ble_eq_true rfl, Nat.le_of_ble_eq_true rfl, Nat.le_of_ble_eq_true rfl⟩ d_BS_when_7 ?_
      refine lv_aload_n hx hb d_BS_when_10 rfl (lv_at hl 0 rfl) ?_
      refine lv_iload_n hx hb d_BS_when_11 rfl (lv_at hl 1 rfl) ?_
      refine lv_iload_n hx hb d_BS_when_12 rfl (lv_at hl 2 rfl) ?_
      refine g_callVi (b := ad 0) (As := [.int p1, .int p2]) (rest := []) hC hB (c_BS_numberAt l N G p1 p2 O hok.1) rfl key_BS_numberAt rfl ins_BS_numberAt sel_BS_numberAt ml_BS_100 (g_rec0 hB) rfl hl.1 ⟨Nat.le_of_ble_eq_true rfl, Nat.le_of_ble_eq_true rfl, Nat.le_of_ble_eq_true rfl, Nat.le_of_ble_eq_true rfl⟩ d_BS_when_13 (fun H locs hB => ?_)
      replace hok := hok.2
      refine lv_istore (lv' := [(4, .int (f_BS_numberAt N G p1 p2)), (0, .ref (ad 0)), (1, .int p1), (2, .int p2), (3, .int p3)]) hx hb d_BS_when_16 hl (by decide) rfl (fun ls hl => ?_)
      refine lv_iload_n hx hb d_BS_when_18 rfl (lv_at hl 2 rfl) ?_
      refine lv_istore (lv' := [(5, .int p1), (4, .int (f_BS_numberAt N G p1 p2)), (0, .ref (ad 0)), (1, .int p1), (2, .int p2), (3, .int p3)]) hx hb d_BS_when_19 hl (by decide) rfl (fun ls hl => ?_)
      rw [hf]
      refine W.widen (k := 1) (n := 6) (by decide) (by decide) ?_
      exact w_BS_when_L21 hC hr hlk N G p1 p2 p3 (f_BS_numberAt N G p1 p2) p1 hok _ _ hB ls (lv_sub hl [2, 3, 4, 5, 1, 0] rfl)
    · replace hf := hf.trans (if_neg c2)
      exact g_callV0 (b := ad 0) (As := [.int p2]) (rest := []) hC hB (c_BS_checkNumber l hst G p2 O) rfl key_BS_checkNumber rfl ins_BS_checkNumber sel_BS_checkNumber ml_BS_63 (g_rec0 hB) rfl hl.1 ⟨Nat.le_of_ble_eq_true rfl, Nat.le_of_ble_eq_true rfl, Nat.le_of_ble_eq_true rfl, Nat.le_of_ble_eq_true rfl⟩ d_BS_when_7 (fun v H1 locs1 ho => absurd (ho.symm.trans (gox_n c2)) (by simp)) (fun E q ce H1 locs1 ho hce hcv hcl hB => gx_out hB htb hlk hce hcv hcl ⟨by decide, by decide⟩ (by rw [hf]; exact (gox_n c2).trans ((gox_n c2).symm.trans ho)) rfl)
  · replace hf := hf.trans (if_neg c1)
    exact g_callV0 (b := ad 0) (As := [.int p1]) (rest := []) hC hB (c_BS_checkTime l hst G p1 O) rfl key_BS_checkTime rfl ins_BS_checkTime sel_BS_checkTime ml_BS_85 (g_rec0 hB) rfl hl.1 ⟨Nat.le_of_ble_eq_true rfl, Nat.le_of_ble_eq_true rfl, Nat.le_of_ble_eq_true rfl, Nat.le_of_ble_eq_true rfl⟩ d_BS_when_2 (fun v H1 locs1 ho => absurd (ho.symm.trans (gox_n c1)) (by simp)) (fun E q ce H1 locs1 ho hce hcv hcl hB => gx_out hB htb hlk hce hcv hcl ⟨by decide, by decide⟩ (by rw [hf]; exact (gox_n c1).trans ((gox_n c1).symm.trans ho)) rfl)
abbrev rm_BS_cost : Room := { frames := 6, cells := 1, slots := 6, locals := 82 }
def f_BS_cost (G : gT) (p1 : Int32) : Nat × Int32 := (if p1 < (G 7 2) then (1, 0) else (if p1 < (G 7 1) then (0, (f_Ro_costOf G p1)) else (1, 0)))
def ok_BS_cost (G : gT) (p1 : Int32) : Prop := ((p1 < (G 7 2) → True) ∧ (¬ p1 < (G 7 2) → ((p1 < (G 7 1) → (ok_Ro_costOf G p1 ∧ True)) ∧ (¬ p1 < (G 7 1) → True))))
set_option maxHeartbeats 4000000 in
set_option maxRecDepth 100000 in
theorem c_BS_cost (l : Launch) (hst : l.stackTraces = false) (G : gT) (p1 : Int32) (O : Int64) (hok : ok_BS_cost G p1) : gMet l y_BS_cost w_BS_cost rm_BS_cost (fun ad => [.ref (ad 0), .int p1]) G O (gox (f_BS_cost G p1).1 (some (.int (f_BS_cost G p1).2))) G O := by
  refine g_body (by decide) (gCode_of _ _ _ _) (fun ad => by simp [lg_sl, Value.category]) ?_
  intro p e s0 s m args below meth c D cI cL ad hC hr hlk htb hB ls hl
  have hC : CallFix p m c b_BS_cost 2 s args gtb R_BS := hC
  have hl : lv_has ls 2 [(0, .ref (ad 0)), (1, .int p1)] := hl
  have hx := hC.1
  have hb := hC.2.1
  have hf : f_BS_cost G p1 = (if p1 < (G 7 2) then (1, 0) else (if p1 < (G 7 1) then (0, (f_Ro_costOf G p1)) else (1, 0))) := rfl
  have hok : ((p1 < (G 7 2) → True) ∧ (¬ p1 < (G 7 2) → ((p1 < (G 7 1) → (ok_Ro_costOf G p1 ∧ True)) ∧ (¬ p1 < (G 7 1) → True)))) := hok
  refine lv_iload_n hx hb d_BS_cost_0 rfl (lv_at hl 1 rfl) ?_
  refine lv_aload_n hx hb d_BS_cost_1 rfl (lv_at hl 0 rfl) ?_
  refine gr_0_6 hC hB fl_BS_37 d_BS_cost_2 ?_
  refine gg_7_2 (x := (G 7 2)) hC hB rfl fl_BS_106 d_BS_cost_5 ?_
  refine lv_icmp_lt (tgt := 22) hx hb d_BS_cost_8 (by decide) (fun c1 => ?_) (fun c1 => ?_)
  · replace hf := hf.trans (if_pos c1)
    replace hok := hok.1 c1
    exact gx_throw (E := 1) hC hB hst htb hlk hl.1 xk_128 rfl d_BS_cost_22 d_BS_cost_25 d_BS_cost_26 d_BS_cost_28 d_BS_cost_31 ⟨Nat.le_of_ble_eq_true rfl, Nat.le_of_ble_eq_true rfl, Nat.le_of_ble_eq_true rfl, Nat.le_of_ble_eq_true rfl⟩ ⟨by decide, by decide⟩ (by rw [hf]; rfl) rfl
  · replace hf := hf.trans (if_neg c1)
    replace hok := hok.2 c1
    refine lv_iload_n hx hb d_BS_cost_11 rfl (lv_at hl 1 rfl) ?_
    refine lv_aload_n hx hb d_BS_cost_12 rfl (lv_at hl 0 rfl) ?_
    refine gr_0_6 hC hB fl_BS_37 d_BS_cost_13 ?_
    refine gg_7_1 (x := (G 7 1)) hC hB rfl fl_BS_88 d_BS_cost_16 ?_
    refine lv_icmp_lt (tgt := 32) hx hb d_BS_cost_19 (by decide) (fun c2 => ?_) (fun c2 => ?_)
    · replace hf := hf.trans (if_pos c2)
      replace hok := hok.1 c2
      refine lv_aload_n hx hb d_BS_cost_32 rfl (lv_at hl 0 rfl) ?_
      refine gr_0_6 hC hB fl_BS_37 d_BS_cost_33 ?_
      refine lv_iload_n hx hb d_BS_cost_36 rfl (lv_at hl 1 rfl) ?_
      refine g_callVi (b := ad 7) (As := [.int p1]) (rest := []) hC hB (c_Ro_costOf l G p1 O hok.1) rfl key_Ro_costOf rfl ins_Ro_costOf sel_Ro_costOf ml_BS_130 (g_rec7 hB) rfl hl.1 ⟨Nat.le_of_ble_eq_true rfl, Nat.le_of_ble_eq_true rfl, Nat.le_of_ble_eq_true rfl, Nat.le_of_ble_eq_true rfl⟩ d_BS_cost_37 (fun H locs hB => ?_)
      replace hok := hok.2
      exact g_iret hC hB hr hlk (by decide) (by decide) (by rw [hf]; rfl) rfl d_BS_cost_40
    · replace hf := hf.trans (if_neg c2)
      replace hok := hok.2 c2
      exact gx_throw (E := 1) hC hB hst htb hlk hl.1 xk_128 rfl d_BS_cost_22 d_BS_cost_25 d_BS_cost_26 d_BS_cost_28 d_BS_cost_31 ⟨Nat.le_of_ble_eq_true rfl, Nat.le_of_ble_eq_true rfl, Nat.le_of_ble_eq_true rfl, Nat.le_of_ble_eq_true rfl⟩ ⟨by decide, by decide⟩ (by rw [hf]; rfl) rfl
abbrev rm_Ma_copyFrom_5 : Room := { frames := 1, cells := 0, slots := 0, locals := 18 }
def f_Ma_copyFrom_5 (G : gT) : gT := (g_up (g_up (g_up (g_up (g_up (g_cpy G 4 6) 5 1 ((g_cpy G 4 6) 3 1)) 5 2 ((g_cpy G 4 6) 3 2)) 5 3 ((g_cpy G 4 6) 3 3)) 5 4 ((g_cpy G 4 6) 3 4)) 5 5 ((g_cpy G 4 6) 3 5))
set_option maxHeartbeats 4000000 in
set_option maxRecDepth 100000 in
theorem c_Ma_copyFrom_5 (l : Launch) (G : gT) (O : Int64) : gMet l y_Ma_copyFrom w_Ma_copyFrom rm_Ma_copyFrom_5 (fun ad => [.ref (ad 5), .ref (ad 3)]) G O (.inl (none)) (f_Ma_copyFrom_5 G) O := by
  refine g_body (by decide) (gCode_of _ _ _ _) (fun ad => by simp [lg_sl, Value.category]) ?_
  intro p e s0 s m args below meth c D cI cL ad hC hr hlk htb hB ls hl
  have hC : CallFix p m c b_Ma_copyFrom 2 s args gtb R_Ma := hC
  have hl : lv_has ls 2 [(0, .ref (ad 5)), (1, .ref (ad 3))] := hl
  have hx := hC.1
  have hb := hC.2.1
  have hf : f_Ma_copyFrom_5 G = (g_up (g_up (g_up (g_up (g_up (g_cpy G 4 6) 5 1 ((g_cpy G 4 6) 3 1)) 5 2 ((g_cpy G 4 6) 3 2)) 5 3 ((g_cpy G 4 6) 3 3)) 5 4 ((g_cpy G 4 6) 3 4)) 5 5 ((g_cpy G 4 6) 3 5)) := rfl
  refine lv_aload_n hx hb d_Ma_copyFrom_0 rfl (lv_at hl 1 rfl) ?_
  refine gr_3_0 hC hB fl_Ma_9 d_Ma_copyFrom_1 ?_
  refine lv_iconst (v := 0) hx hb d_Ma_copyFrom_4 (by decide) ?_
  refine lv_aload_n hx hb d_Ma_copyFrom_5 rfl (lv_at hl 0 rfl) ?_
  refine gr_5_0 hC hB fl_Ma_9 d_Ma_copyFrom_6 ?_
  refine lv_iconst (v := 0) hx hb d_Ma_copyFrom_9 (by decide) ?_
  refine lv_sipush (v := 264) hx hb d_Ma_copyFrom_10 (by decide) ?_
  refine g_copy_4_6 hC hB hl.1 ⟨Nat.le_of_ble_eq_true rfl, Nat.le_of_ble_eq_true rfl⟩ d_Ma_copyFrom_13 (fun H locs hB => ?_)
  refine lv_aload_n hx hb d_Ma_copyFrom_16 rfl (lv_at hl 0 rfl) ?_
  refine lv_aload_n hx hb d_Ma_copyFrom_17 rfl (lv_at hl 1 rfl) ?_
  refine gg_3_1 (x := ((g_cpy G 4 6) 3 1)) hC hB rfl fl_Ma_28 d_Ma_copyFrom_18 ?_
  refine gp_5_1 hC hB fl_Ma_28 d_Ma_copyFrom_21 (fun H locs hB => ?_)
  refine lv_aload_n hx hb d_Ma_copyFrom_24 rfl (lv_at hl 0 rfl) ?_
  refine lv_aload_n hx hb d_Ma_copyFrom_25 rfl (lv_at hl 1 rfl) ?_
  refine gg_3_2 (x := ((g_cpy G 4 6) 3 2)) hC hB rfl fl_Ma_31 d_Ma_copyFrom_26 ?_
  refine gp_5_2 hC hB fl_Ma_31 d_Ma_copyFrom_29 (fun H locs hB => ?_)
  refine lv_aload_n hx hb d_Ma_copyFrom_32 rfl (lv_at hl 0 rfl) ?_
  refine lv_aload_n hx hb d_Ma_copyFrom_33 rfl (lv_at hl 1 rfl) ?_
  refine gg_3_3 (x := ((g_cpy G 4 6) 3 3)) hC hB rfl fl_Ma_34 d_Ma_copyFrom_34 ?_
  refine gp_5_3 hC hB fl_Ma_34 d_Ma_copyFrom_37 (fun H locs hB => ?_)
  refine lv_aload_n hx hb d_Ma_copyFrom_40 rfl (lv_at hl 0 rfl) ?_
  refine lv_aload_n hx hb d_Ma_copyFrom_41 rfl (lv_at hl 1 rfl) ?_
  refine gg_3_4 (x := ((g_cpy G 4 6) 3 4)) hC hB rfl fl_Ma_37 d_Ma_copyFrom_42 ?_
  refine gp_5_4 hC hB fl_Ma_37 d_Ma_copyFrom_45 (fun H locs hB => ?_)
  refine lv_aload_n hx hb d_Ma_copyFrom_48 rfl (lv_at hl 0 rfl) ?_
  refine lv_aload_n hx hb d_Ma_copyFrom_49 rfl (lv_at hl 1 rfl) ?_
  refine gg_3_5 (x := ((g_cpy G 4 6) 3 5)) hC hB rfl fl_Ma_15 d_Ma_copyFrom_50 ?_
  refine gp_5_5 hC hB fl_Ma_15 d_Ma_copyFrom_53 (fun H locs hB => ?_)
  exact g_vret hC hB hr hlk (by decide) (by decide) rfl hf d_Ma_copyFrom_56
abbrev rm_BS_replay : Room := { frames := 4, cells := 0, slots := 0, locals := 56 }
def f_BS_replay_L37 (N : Nat) : Nat → gT → Int32 → Int32 × gT
  | 0, G, x1 => (0, G)
  | n + 1, G, x1 => (if (G 7 1) ≤ x1 then ((-1), G) else (if ((f_Ma_advance_5 G (G 3 2)).1) = 0 then (x1 + (1 : Int32), (f_Ma_advance_5 G (G 3 2)).2) else (if (f_Ro_sameNumbersBehind_5 ((f_Ma_advance_5 G (G 3 2)).2) x1) = 0 then (x1 + (1 : Int32), (f_Ma_advance_5 G (G 3 2)).2) else (if (f_BS_sameRestAt N ((f_Ma_advance_5 G (G 3 2)).2) (x1 + (1 : Int32))) = 0 then (x1 + (1 : Int32), (f_Ma_advance_5 G (G 3 2)).2) else f_BS_replay_L37 N n ((f_Ma_advance_5 G (G 3 2)).2) (x1 + 1)))))
def ok_BS_replay_L37 (N : Nat) : Nat → gT → Int32 → Prop
  | 0, G, x1 => False
  | n + 1, G, x1 => (((G 7 1) ≤ x1 → True) ∧ (¬ (G 7 1) ≤ x1 → (ok_Ma_advance_5 G (G 3 2) ∧ ((((f_Ma_advance_5 G (G 3 2)).1) = 0 → True) ∧ (¬ ((f_Ma_advance_5 G (G 3 2)).1) = 0 → (ok_Ro_sameNumbersBehind_5 ((f_Ma_advance_5 G (G 3 2)).2) x1 ∧ (((f_Ro_sameNumbersBehind_5 ((f_Ma_advance_5 G (G 3 2)).2) x1) = 0 → True) ∧ (¬ (f_Ro_sameNumbersBehind_5 ((f_Ma_advance_5 G (G 3 2)).2) x1) = 0 → (ok_BS_sameRestAt N ((f_Ma_advance_5 G (G 3 2)).2) (x1 + (1 : Int32)) ∧ (((f_BS_sameRestAt N ((f_Ma_advance_5 G (G 3 2)).2) (x1 + (1 : Int32))) = 0 → True) ∧ (¬ (f_BS_sameRestAt N ((f_Ma_advance_5 G (G 3 2)).2) (x1 + (1 : Int32))) = 0 → ok_BS_replay_L37 N n ((f_Ma_advance_5 G (G 3 2)).2) (x1 + 1))))))))))))
set_option maxHeartbeats 4000000 in
set_option maxRecDepth 100000 in
theorem w_BS_replay_L37 {p : Program} {l : Launch} {e : Env} {s0 s : State} {m : MethodId} {args : Array Value} {below : List Frame} {meth : Method} {c : Code} {D : va_G} {cI cL : ClassId} {ad : Nat → Nat} {O : Int64} {N : Nat} (hC : CallFix p m c b_BS_replay 3 s args gtb R_BS) (hr : meth.sig.returnType = some .int) (hlk : meth.locks = false) : ∀ (n : Nat) (G : gT) (x1 : Int32), ok_BS_replay_L37 N n G x1 → ∀ (H : Heap) (locs : List Loc), gB s0 s D cI cL ad G O H locs → ∀ ls : Array Slot, lv_has ls 3 [(0, .ref (ad 0)), (1, .int x1)] → W p l e rm_BS_replay s m args below meth c H locs 0 0 (gE s0 below args s D cI cL ad 0 0 (.inl (some (.int (f_BS_replay_L37 N n G x1).1))) ((f_BS_replay_L37 N n G x1).2) O) (F0 m 37 ls []) := by
  have hx := hC.1
  have hb := hC.2.1
  intro n
  induction n with
  | zero =>
    intro G x1 hok
    exact absurd hok (fun h => h)
  | succ n ih =>
    intro G x1 hok H locs hB ls hl
    have hf : f_BS_replay_L37 N (n + 1) G x1 = (if (G 7 1) ≤ x1 then ((-1), G) else (if ((f_Ma_advance_5 G (G 3 2)).1) = 0 then (x1 + (1 : Int32), (f_Ma_advance_5 G (G 3 2)).2) else (if (f_Ro_sameNumbersBehind_5 ((f_Ma_advance_5 G (G 3 2)).2) x1) = 0 then (x1 + (1 : Int32), (f_Ma_advance_5 G (G 3 2)).2) else (if (f_BS_sameRestAt N ((f_Ma_advance_5 G (G 3 2)).2) (x1 + (1 : Int32))) = 0 then (x1 + (1 : Int32), (f_Ma_advance_5 G (G 3 2)).2) else f_BS_replay_L37 N n ((f_Ma_advance_5 G (G 3 2)).2) (x1 + 1))))) := rfl
    have hok : (((G 7 1) ≤ x1 → True) ∧ (¬ (G 7 1) ≤ x1 → (ok_Ma_advance_5 G (G 3 2) ∧ ((((f_Ma_advance_5 G (G 3 2)).1) = 0 → True) ∧ (¬ ((f_Ma_advance_5 G (G 3 2)).1) = 0 → (ok_Ro_sameNumbersBehind_5 ((f_Ma_advance_5 G (G 3 2)).2) x1 ∧ (((f_Ro_sameNumbersBehind_5 ((f_Ma_advance_5 G (G 3 2)).2) x1) = 0 → True) ∧ (¬ (f_Ro_sameNumbersBehind_5 ((f_Ma_advance_5 G (G 3 2)).2) x1) = 0 → (ok_BS_sameRestAt N ((f_Ma_advance_5 G (G 3 2)).2) (x1 + (1 : Int32)) ∧ (((f_BS_sameRestAt N ((f_Ma_advance_5 G (G 3 2)).2) (x1 + (1 : Int32))) = 0 → True) ∧ (¬ (f_BS_sameRestAt N ((f_Ma_advance_5 G (G 3 2)).2) (x1 + (1 : Int32))) = 0 → ok_BS_replay_L37 N n ((f_Ma_advance_5 G (G 3 2)).2) (x1 + 1)))))))))))) := hok
    refine lv_iload_n hx hb d_BS_replay_37 rfl (lv_at hl 1 rfl) ?_
    refine lv_aload_n hx hb d_BS_replay_38 rfl (lv_at hl 0 rfl) ?_
    refine gr_0_6 hC hB fl_BS_37 d_BS_replay_39 ?_
    refine gg_7_1 (x := (G 7 1)) hC hB rfl fl_BS_88 d_BS_replay_42 ?_
    refine lv_icmp_ge (tgt := 110) hx hb d_BS_replay_45 (by decide) (fun c1 => ?_) (fun c1 => ?_)
    · replace hf := hf.trans (if_pos c1)
      replace hok := hok.1 c1
      refine lv_iconst (v := (-1)) hx hb d_BS_replay_110 (by decide) ?_
      exact g_iret hC hB hr hlk (by decide) (by decide) (by rw [hf]) (by rw [hf]) d_BS_replay_111
    · replace hf := hf.trans (if_neg c1)
      replace hok := hok.2 c1
      refine lv_aload_n hx hb d_BS_replay_48 rfl (lv_at hl 0 rfl) ?_
      refine gr_0_5 hC hB fl_BS_23 d_BS_replay_49 ?_
      refine lv_aload_n hx hb d_BS_replay_52 rfl (lv_at hl 0 rfl) ?_
      refine gr_0_1 hC hB fl_BS_9 d_BS_replay_53 ?_
      refine lv_aload_n hx hb d_BS_replay_56 rfl (lv_at hl 0 rfl) ?_
      refine gr_0_2 hC hB fl_BS_13 d_BS_replay_57 ?_
      refine lv_aload_n hx hb d_BS_replay_60 rfl (lv_at hl 0 rfl) ?_
      refine gr_0_4 hC hB fl_BS_19 d_BS_replay_61 ?_
      refine gg_3_2 (x := (G 3 2)) hC hB rfl fl_BS_60 d_BS_replay_64 ?_
      refine g_callVi (b := ad 5) (As := [.ref (ad 1), .ref (ad 2), .int (G 3 2)]) (rest := []) hC hB (c_Ma_advance_5 l G (G 3 2) O hok.1) rfl key_Ma_advance rfl ins_Ma_advance sel_Ma_advance ml_BS_77 (g_rec5 hB) rfl hl.1 ⟨Nat.le_of_ble_eq_true rfl, Nat.le_of_ble_eq_true rfl, Nat.le_of_ble_eq_true rfl, Nat.le_of_ble_eq_true rfl⟩ d_BS_replay_67 (fun H locs hB => ?_)
      replace hok := hok.2
      refine lv_istore_n (lv' := [(2, .int ((f_Ma_advance_5 G (G 3 2)).1)), (0, .ref (ad 0)), (1, .int x1)]) hx hb d_BS_replay_70 rfl hl (by decide) rfl (fun ls hl => ?_)
      refine lv_iload_n hx hb d_BS_replay_71 rfl (lv_at hl 0 rfl) ?_
      refine lv_if_eq (tgt := 100) hx hb d_BS_replay_72 (by decide) (fun c2 => ?_) (fun c2 => ?_)
      · replace hf := hf.trans (if_pos c2)
        replace hok := hok.1 c2
        refine lv_iload_n hx hb d_BS_replay_100 rfl (lv_at hl 2 rfl) ?_
        refine lv_iconst (v := 1) hx hb d_BS_replay_101 (by decide) ?_
        refine lv_iadd hx hb d_BS_replay_102 ?_
        exact g_iret hC hB hr hlk (by decide) (by decide) (by rw [hf]) (by rw [hf]) d_BS_replay_103
      · replace hf := hf.trans (if_neg c2)
        replace hok := hok.2 c2
        refine lv_aload_n hx hb d_BS_replay_75 rfl (lv_at hl 1 rfl) ?_
        refine gr_0_6 hC hB fl_BS_37 d_BS_replay_76 ?_
        refine lv_iload_n hx hb d_BS_replay_79 rfl (lv_at hl 2 rfl) ?_
        refine lv_aload_n hx hb d_BS_replay_80 rfl (lv_at hl 1 rfl) ?_
        refine gr_0_5 hC hB fl_BS_23 d_BS_replay_81 ?_
        refine g_callVi (b := ad 7) (As := [.int x1, .ref (ad 5)]) (rest := []) hC hB (c_Ro_sameNumbersBehind_5 l ((f_Ma_advance_5 G (G 3 2)).2) x1 O hok.1) rfl key_Ro_sameNumbersBehind rfl ins_Ro_sameNumbersBehind sel_Ro_sameNumbersBehind ml_BS_120 (g_rec7 hB) rfl hl.1 ⟨Nat.le_of_ble_eq_true rfl, Nat.le_of_ble_eq_true rfl, Nat.le_of_ble_eq_true rfl, Nat.le_of_ble_eq_true rfl⟩ d_BS_replay_84 (fun H locs hB => ?_)
        replace hok := hok.2
        refine lv_if_eq (tgt := 100) hx hb d_BS_replay_87 (by decide) (fun c3 => ?_) (fun c3 => ?_)
        · replace hf := hf.trans (if_pos c3)
          replace hok := hok.1 c3
          refine lv_iload_n hx hb d_BS_replay_100 rfl (lv_at hl 2 rfl) ?_
          refine lv_iconst (v := 1) hx hb d_BS_replay_101 (by decide) ?_
          refine lv_iadd hx hb d_BS_replay_102 ?_
          exact g_iret hC hB hr hlk (by decide) (by decide) (by rw [hf]) (by rw [hf]) d_BS_replay_103
        · replace hf := hf.trans (if_neg c3)
          replace hok := hok.2 c3
          refine lv_aload_n hx hb d_BS_replay_90 rfl (lv_at hl 1 rfl) ?_
          refine lv_iload_n hx hb d_BS_replay_91 rfl (lv_at hl 2 rfl) ?_
          refine lv_iconst (v := 1) hx hb d_BS_replay_92 (by decide) ?_
          refine lv_iadd hx hb d_BS_replay_93 ?_
          refine g_callVi (b := ad 0) (As := [.int (x1 + (1 : Int32))]) (rest := []) hC hB (c_BS_sameRestAt l N ((f_Ma_advance_5 G (G 3 2)).2) (x1 + (1 : Int32)) O hok.1) rfl key_BS_sameRestAt rfl ins_BS_sameRestAt sel_BS_sameRestAt ml_BS_124 (g_rec0 hB) rfl hl.1 ⟨Nat.le_of_ble_eq_true rfl, Nat.le_of_ble_eq_true rfl, Nat.le_of_ble_eq_true rfl, Nat.le_of_ble_eq_true rfl⟩ d_BS_replay_94 (fun H locs hB => ?_)
          replace hok := hok.2
          refine lv_if_ne (tgt := 104) hx hb d_BS_replay_97 (by decide) (fun c4 => ?_) (fun c4 => ?_)
          · replace hf := hf.trans (if_neg c4)
            replace hok := hok.2 c4
            refine lv_iinc (v := x1 + 1) (lv' := [(1, .int (x1 + 1)), (2, .int ((f_Ma_advance_5 G (G 3 2)).1)), (0, .ref (ad 0))]) hx hb d_BS_replay_104 hl (k := 2) rfl rfl (by decide) rfl (fun ls hl => ?_)
            refine lv_goto (tgt := 37) hx hb d_BS_replay_107 (by decide) ?_
            rw [hf]
            exact ih ((f_Ma_advance_5 G (G 3 2)).2) (x1 + 1) hok _ _ hB ls (lv_sub hl [2, 0] rfl)
          · replace hf := hf.trans (if_pos c4)
            replace hok := hok.1 c4
            refine lv_iload_n hx hb d_BS_replay_100 rfl (lv_at hl 2 rfl) ?_
            refine lv_iconst (v := 1) hx hb d_BS_replay_101 (by decide) ?_
            refine lv_iadd hx hb d_BS_replay_102 ?_
            exact g_iret hC hB hr hlk (by decide) (by decide) (by rw [hf]) (by rw [hf]) d_BS_replay_103
def f_BS_replay (N : Nat) (G : gT) : Int32 × gT := f_BS_replay_L37 N N (f_Ro_undoDownTo_5 N (f_Ma_copyFrom_5 G) ((f_Ma_copyFrom_5 G) 7 2)) ((f_Ro_undoDownTo_5 N (f_Ma_copyFrom_5 G) ((f_Ma_copyFrom_5 G) 7 2)) 7 2)
def ok_BS_replay (N : Nat) (G : gT) : Prop := (ok_Ro_undoDownTo_5 N (f_Ma_copyFrom_5 G) ((f_Ma_copyFrom_5 G) 7 2) ∧ ok_BS_replay_L37 N N (f_Ro_undoDownTo_5 N (f_Ma_copyFrom_5 G) ((f_Ma_copyFrom_5 G) 7 2)) ((f_Ro_undoDownTo_5 N (f_Ma_copyFrom_5 G) ((f_Ma_copyFrom_5 G) 7 2)) 7 2))
set_option maxHeartbeats 4000000 in
set_option maxRecDepth 100000 in
theorem c_BS_replay (l : Launch) (N : Nat) (G : gT) (O : Int64) (hok : ok_BS_replay N G) : gMet l y_BS_replay w_BS_replay rm_BS_replay (fun ad => [.ref (ad 0)]) G O (.inl (some (.int (f_BS_replay N G).1))) ((f_BS_replay N G).2) O := by
  refine g_body (by decide) (gCode_of _ _ _ _) (fun ad => by simp [lg_sl, Value.category]) ?_
  intro p e s0 s m args below meth c D cI cL ad hC hr hlk htb hB ls hl
  have hC : CallFix p m c b_BS_replay 3 s args gtb R_BS := hC
  have hl : lv_has ls 3 [(0, .ref (ad 0))] := hl
  have hx := hC.1
  have hb := hC.2.1
  have hf : f_BS_replay N G = f_BS_replay_L37 N N (f_Ro_undoDownTo_5 N (f_Ma_copyFrom_5 G) ((f_Ma_copyFrom_5 G) 7 2)) ((f_Ro_undoDownTo_5 N (f_Ma_copyFrom_5 G) ((f_Ma_copyFrom_5 G) 7 2)) 7 2) := rfl
  have hok : (ok_Ro_undoDownTo_5 N (f_Ma_copyFrom_5 G) ((f_Ma_copyFrom_5 G) 7 2) ∧ ok_BS_replay_L37 N N (f_Ro_undoDownTo_5 N (f_Ma_copyFrom_5 G) ((f_Ma_copyFrom_5 G) 7 2)) ((f_Ro_undoDownTo_5 N (f_Ma_copyFrom_5 G) ((f_Ma_copyFrom_5 G) 7 2)) 7 2)) := hok
  refine lv_aload_n hx hb d_BS_replay_0 rfl (lv_at hl 0 rfl) ?_
  refine gr_0_5 hC hB fl_BS_23 d_BS_replay_1 ?_
  refine lv_aload_n hx hb d_BS_replay_4 rfl (lv_at hl 0 rfl) ?_
  refine gr_0_4 hC hB fl_BS_19 d_BS_replay_5 ?_
  refine g_callVv (b := ad 5) (As := [.ref (ad 3)]) (rest := []) hC hB (c_Ma_copyFrom_5 l G O) rfl key_Ma_copyFrom rfl ins_Ma_copyFrom sel_Ma_copyFrom ml_BS_117 (g_rec5 hB) rfl hl.1 ⟨Nat.le_of_ble_eq_true rfl, Nat.le_of_ble_eq_true rfl, Nat.le_of_ble_eq_true rfl, Nat.le_of_ble_eq_true rfl⟩ d_BS_replay_8 (fun H locs hB => ?_)
  refine lv_aload_n hx hb d_BS_replay_11 rfl (lv_at hl 0 rfl) ?_
  refine gr_0_6 hC hB fl_BS_37 d_BS_replay_12 ?_
  refine lv_aload_n hx hb d_BS_replay_15 rfl (lv_at hl 0 rfl) ?_
  refine gr_0_6 hC hB fl_BS_37 d_BS_replay_16 ?_
  refine gg_7_2 (x := ((f_Ma_copyFrom_5 G) 7 2)) hC hB rfl fl_BS_106 d_BS_replay_19 ?_
  refine lv_aload_n hx hb d_BS_replay_22 rfl (lv_at hl 0 rfl) ?_
  refine gr_0_5 hC hB fl_BS_23 d_BS_replay_23 ?_
  refine g_callVv (b := ad 7) (As := [.int ((f_Ma_copyFrom_5 G) 7 2), .ref (ad 5)]) (rest := []) hC hB (c_Ro_undoDownTo_5 l N (f_Ma_copyFrom_5 G) ((f_Ma_copyFrom_5 G) 7 2) O hok.1) rfl key_Ro_undoDownTo rfl ins_Ro_undoDownTo sel_Ro_undoDownTo ml_BS_91 (g_rec7 hB) rfl hl.1 ⟨Nat.le_of_ble_eq_true rfl, Nat.le_of_ble_eq_true rfl, Nat.le_of_ble_eq_true rfl, Nat.le_of_ble_eq_true rfl⟩ d_BS_replay_26 (fun H locs hB => ?_)
  replace hok := hok.2
  refine lv_aload_n hx hb d_BS_replay_29 rfl (lv_at hl 0 rfl) ?_
  refine gr_0_6 hC hB fl_BS_37 d_BS_replay_30 ?_
  refine gg_7_2 (x := ((f_Ro_undoDownTo_5 N (f_Ma_copyFrom_5 G) ((f_Ma_copyFrom_5 G) 7 2)) 7 2)) hC hB rfl fl_BS_106 d_BS_replay_33 ?_
  refine lv_istore_n (lv' := [(1, .int ((f_Ro_undoDownTo_5 N (f_Ma_copyFrom_5 G) ((f_Ma_copyFrom_5 G) 7 2)) 7 2)), (0, .ref (ad 0))]) hx hb d_BS_replay_36 rfl hl (by decide) rfl (fun ls hl => ?_)
  rw [hf]
  refine W.widen (k := 0) (n := 0) (by decide) (by decide) ?_
  exact w_BS_replay_L37 hC hr hlk N (f_Ro_undoDownTo_5 N (f_Ma_copyFrom_5 G) ((f_Ma_copyFrom_5 G) 7 2)) ((f_Ro_undoDownTo_5 N (f_Ma_copyFrom_5 G) ((f_Ma_copyFrom_5 G) 7 2)) 7 2) hok _ _ hB ls (lv_sub hl [1, 0] rfl)
