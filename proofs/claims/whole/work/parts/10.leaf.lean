abbrev g_ush (x y : Int32) : Int32 := (x.toUInt32 >>> (y.toUInt32 &&& Int32.toUInt32 31)).toInt32
abbrev rm_Ma_register : Room := { frames := 0, cells := 0, slots := 0, locals := 0 }
def f_Ma_register (G : gT) (p0 : Int32) (p1 : Int32) : Int32 := (g_ush p0 p1) &&& (7 : Int32)
set_option maxHeartbeats 4000000 in
set_option maxRecDepth 100000 in
theorem c_Ma_register (l : Launch) (G : gT) (p0 : Int32) (p1 : Int32) (O : Int64) : gMet l y_Ma_register w_Ma_register rm_Ma_register (fun ad => [.int p0, .int p1]) G O (.inl (some (.int (f_Ma_register G p0 p1)))) G O := by
  refine g_body (by decide) (gCode_of _ _ _ _) (fun ad => by simp [lg_sl, Value.category]) ?_
  intro p e s0 s m args below meth c D cI cL ad hC hr hlk htb hB ls hl
  have hC : CallFix p m c b_Ma_register 2 s args gtb R_Ma := hC
  have hl : lv_has ls 2 [(0, .int p0), (1, .int p1)] := hl
  have hx := hC.1
  have hb := hC.2.1
  have hf : f_Ma_register G p0 p1 = (g_ush p0 p1) &&& (7 : Int32) := rfl
  refine lv_iload_n hx hb d_Ma_register_0 rfl (lv_at hl 0 rfl) ?_
  refine lv_iload_n hx hb d_Ma_register_1 rfl (lv_at hl 1 rfl) ?_
  refine lv_iushr (v := g_ush p0 p1) hx hb d_Ma_register_2 rfl ?_
  refine lv_bipush (v := 7) hx hb d_Ma_register_3 (by decide) ?_
  refine lv_iand hx hb d_Ma_register_5 ?_
  exact g_iret hC hB hr hlk (by decide) (by decide) (by rw [hf]) rfl d_Ma_register_6
abbrev rm_Ma_write_3 : Room := { frames := 0, cells := 0, slots := 0, locals := 0 }
def f_Ma_write_3 (G : gT) (p1 : Int32) (p2 : Int32) : gT := (g_up (g_up (g_up G 3 6 p1) 3 7 (G 4 p1.toNatClampNeg)) 4 p1.toNatClampNeg p2)
def ok_Ma_write_3 (G : gT) (p1 : Int32) (p2 : Int32) : Prop := (vp_in p1 264 ∧ (vp_in p1 264 ∧ True))
set_option maxHeartbeats 4000000 in
set_option maxRecDepth 100000 in
theorem c_Ma_write_3 (l : Launch) (G : gT) (p1 : Int32) (p2 : Int32) (O : Int64) (hok : ok_Ma_write_3 G p1 p2) : gMet l y_Ma_write w_Ma_write rm_Ma_write_3 (fun ad => [.ref (ad 3), .int p1, .int p2]) G O (.inl (none)) (f_Ma_write_3 G p1 p2) O := by
  refine g_body (by decide) (gCode_of _ _ _ _) (fun ad => by simp [lg_sl, Value.category]) ?_
  intro p e s0 s m args below meth c D cI cL ad hC hr hlk htb hB ls hl
  have hC : CallFix p m c b_Ma_write 3 s args gtb R_Ma := hC
  have hl : lv_has ls 3 [(0, .ref (ad 3)), (1, .int p1), (2, .int p2)] := hl
  have hx := hC.1
  have hb := hC.2.1
  have hf : f_Ma_write_3 G p1 p2 = (g_up (g_up (g_up G 3 6 p1) 3 7 (G 4 p1.toNatClampNeg)) 4 p1.toNatClampNeg p2) := rfl
  have hok : (vp_in p1 264 ∧ (vp_in p1 264 ∧ True)) := hok
  refine lv_aload_n hx hb d_Ma_write_0 rfl (lv_at hl 0 rfl) ?_
  refine lv_iload_n hx hb d_Ma_write_1 rfl (lv_at hl 1 rfl) ?_
  refine gp_3_6 hC hB fl_Ma_19 d_Ma_write_2 (fun H locs hB => ?_)
  refine lv_aload_n hx hb d_Ma_write_5 rfl (lv_at hl 0 rfl) ?_
  refine lv_aload_n hx hb d_Ma_write_6 rfl (lv_at hl 0 rfl) ?_
  refine gr_3_0 hC hB fl_Ma_9 d_Ma_write_7 ?_
  refine lv_iload_n hx hb d_Ma_write_10 rfl (lv_at hl 1 rfl) ?_
  refine ga_4 (x := (G 4 p1.toNatClampNeg)) hC hB hok.1 rfl d_Ma_write_11 ?_
  replace hok := hok.2
  refine gp_3_7 hC hB fl_Ma_77 d_Ma_write_12 (fun H locs hB => ?_)
  refine lv_aload_n hx hb d_Ma_write_15 rfl (lv_at hl 0 rfl) ?_
  refine gr_3_0 hC hB fl_Ma_9 d_Ma_write_16 ?_
  refine lv_iload_n hx hb d_Ma_write_19 rfl (lv_at hl 1 rfl) ?_
  refine lv_iload_n hx hb d_Ma_write_20 rfl (lv_at hl 2 rfl) ?_
  refine gs_4 hC hB hok.1 d_Ma_write_21 (fun H locs hB => ?_)
  replace hok := hok.2
  exact g_vret hC hB hr hlk (by decide) (by decide) rfl hf d_Ma_write_22
abbrev rm_Ma_stop_3 : Room := { frames := 0, cells := 0, slots := 0, locals := 0 }
def f_Ma_stop_3 (G : gT) (p1 : Int32) : gT := (g_up (g_up G 3 5 p1) 3 1 (G 3 8))
set_option maxHeartbeats 4000000 in
set_option maxRecDepth 100000 in
theorem c_Ma_stop_3 (l : Launch) (G : gT) (p1 : Int32) (O : Int64) : gMet l y_Ma_stop w_Ma_stop rm_Ma_stop_3 (fun ad => [.ref (ad 3), .int p1]) G O (.inl (none)) (f_Ma_stop_3 G p1) O := by
  refine g_body (by decide) (gCode_of _ _ _ _) (fun ad => by simp [lg_sl, Value.category]) ?_
  intro p e s0 s m args below meth c D cI cL ad hC hr hlk htb hB ls hl
  have hC : CallFix p m c b_Ma_stop 2 s args gtb R_Ma := hC
  have hl : lv_has ls 2 [(0, .ref (ad 3)), (1, .int p1)] := hl
  have hx := hC.1
  have hb := hC.2.1
  have hf : f_Ma_stop_3 G p1 = (g_up (g_up G 3 5 p1) 3 1 (G 3 8)) := rfl
  refine lv_aload_n hx hb d_Ma_stop_0 rfl (lv_at hl 0 rfl) ?_
  refine lv_iload_n hx hb d_Ma_stop_1 rfl (lv_at hl 1 rfl) ?_
  refine gp_3_5 hC hB fl_Ma_15 d_Ma_stop_2 (fun H locs hB => ?_)
  refine lv_aload_n hx hb d_Ma_stop_5 rfl (lv_at hl 0 rfl) ?_
  refine lv_aload_n hx hb d_Ma_stop_6 rfl (lv_at hl 0 rfl) ?_
  refine gg_3_8 (x := (G 3 8)) hC hB rfl fl_Ma_61 d_Ma_stop_7 ?_
  refine gp_3_1 hC hB fl_Ma_28 d_Ma_stop_10 (fun H locs hB => ?_)
  exact g_vret hC hB hr hlk (by decide) (by decide) rfl hf d_Ma_stop_13
abbrev rm_Ma_rest_3 : Room := { frames := 0, cells := 0, slots := 0, locals := 0 }
def f_Ma_rest_3 (G : gT) (p1 : Int32) : Int32 := (if p1 = 264 then (G 3 1) else (if p1 = 265 then (G 3 2) else (if p1 = 266 then (G 3 3) else (if p1 = 267 then (G 3 4) else (G 3 5)))))
set_option maxHeartbeats 4000000 in
set_option maxRecDepth 100000 in
theorem c_Ma_rest_3 (l : Launch) (G : gT) (p1 : Int32) (O : Int64) : gMet l y_Ma_rest w_Ma_rest rm_Ma_rest_3 (fun ad => [.ref (ad 3), .int p1]) G O (.inl (some (.int (f_Ma_rest_3 G p1)))) G O := by
  refine g_body (by decide) (gCode_of _ _ _ _) (fun ad => by simp [lg_sl, Value.category]) ?_
  intro p e s0 s m args below meth c D cI cL ad hC hr hlk htb hB ls hl
  have hC : CallFix p m c b_Ma_rest 2 s args gtb R_Ma := hC
  have hl : lv_has ls 2 [(0, .ref (ad 3)), (1, .int p1)] := hl
  have hx := hC.1
  have hb := hC.2.1
  have hf : f_Ma_rest_3 G p1 = (if p1 = 264 then (G 3 1) else (if p1 = 265 then (G 3 2) else (if p1 = 266 then (G 3 3) else (if p1 = 267 then (G 3 4) else (G 3 5))))) := rfl
  refine lv_iload_n hx hb d_Ma_rest_0 rfl (lv_at hl 1 rfl) ?_
  by_cases c1 : p1 = 264
  · replace hf := hf.trans (if_pos c1)
    refine g_switch (tgt := 32) hC d_Ma_rest_1 (fun i hi => by show i < 4; omega) (by rw [c1]; decide) ?_
    refine lv_aload_n hx hb d_Ma_rest_32 rfl (lv_at hl 0 rfl) ?_
    refine gg_3_1 (x := (G 3 1)) hC hB rfl fl_Ma_28 d_Ma_rest_33 ?_
    exact g_iret hC hB hr hlk (by decide) (by decide) (by rw [hf]) rfl d_Ma_rest_36
  · replace hf := hf.trans (if_neg c1)
    by_cases c2 : p1 = 265
    · replace hf := hf.trans (if_pos c2)
      refine g_switch (tgt := 37) hC d_Ma_rest_1 (fun i hi => by show i < 4; omega) (by rw [c2]; decide) ?_
      refine lv_aload_n hx hb d_Ma_rest_37 rfl (lv_at hl 0 rfl) ?_
      refine gg_3_2 (x := (G 3 2)) hC hB rfl fl_Ma_31 d_Ma_rest_38 ?_
      exact g_iret hC hB hr hlk (by decide) (by decide) (by rw [hf]) rfl d_Ma_rest_41
    · replace hf := hf.trans (if_neg c2)
      by_cases c3 : p1 = 266
      · replace hf := hf.trans (if_pos c3)
        refine g_switch (tgt := 42) hC d_Ma_rest_1 (fun i hi => by show i < 4; omega) (by rw [c3]; decide) ?_
        refine lv_aload_n hx hb d_Ma_rest_42 rfl (lv_at hl 0 rfl) ?_
        refine gg_3_3 (x := (G 3 3)) hC hB rfl fl_Ma_34 d_Ma_rest_43 ?_
        exact g_iret hC hB hr hlk (by decide) (by decide) (by rw [hf]) rfl d_Ma_rest_46
      · replace hf := hf.trans (if_neg c3)
        by_cases c4 : p1 = 267
        · replace hf := hf.trans (if_pos c4)
          refine g_switch (tgt := 47) hC d_Ma_rest_1 (fun i hi => by show i < 4; omega) (by rw [c4]; decide) ?_
          refine lv_aload_n hx hb d_Ma_rest_47 rfl (lv_at hl 0 rfl) ?_
          refine gg_3_4 (x := (G 3 4)) hC hB rfl fl_Ma_37 d_Ma_rest_48 ?_
          exact g_iret hC hB hr hlk (by decide) (by decide) (by rw [hf]) rfl d_Ma_rest_51
        · replace hf := hf.trans (if_neg c4)
          refine g_switch (tgt := 52) hC d_Ma_rest_1 (fun i hi => by show i < 4; omega) ?_ ?_
          · have e0 := g_ne (k := 264) c1 (by decide)
            have e1 := g_ne (k := 265) c2 (by decide)
            have e2 := g_ne (k := 266) c3 (by decide)
            have e3 := g_ne (k := 267) c4 (by decide)
            have e : (p1).toInt < 264 ∨ 267 < (p1).toInt := by omega
            generalize (p1).toInt = z at e ⊢
            rcases e with e | e
            · rw [g_swt, if_pos (by omega)]; decide
            · rw [g_swt, if_pos (by omega)]; decide
          · refine lv_aload_n hx hb d_Ma_rest_52 rfl (lv_at hl 0 rfl) ?_
            refine gg_3_5 (x := (G 3 5)) hC hB rfl fl_Ma_15 d_Ma_rest_53 ?_
            exact g_iret hC hB hr hlk (by decide) (by decide) (by rw [hf]) rfl d_Ma_rest_56
abbrev rm_Ma_rememberBefore_3 : Room := { frames := 0, cells := 0, slots := 0, locals := 0 }
def f_Ma_rememberBefore_3 (G : gT) : gT := (g_up (g_up (g_up (g_up (g_up G 3 6 (-1)) 3 8 (G 3 1)) 3 9 (G 3 2)) 3 10 (G 3 3)) 3 11 (G 3 4))
set_option maxHeartbeats 4000000 in
set_option maxRecDepth 100000 in
theorem c_Ma_rememberBefore_3 (l : Launch) (G : gT) (O : Int64) : gMet l y_Ma_rememberBefore w_Ma_rememberBefore rm_Ma_rememberBefore_3 (fun ad => [.ref (ad 3)]) G O (.inl (none)) (f_Ma_rememberBefore_3 G) O := by
  refine g_body (by decide) (gCode_of _ _ _ _) (fun ad => by simp [lg_sl, Value.category]) ?_
  intro p e s0 s m args below meth c D cI cL ad hC hr hlk htb hB ls hl
  have hC : CallFix p m c b_Ma_rememberBefore 1 s args gtb R_Ma := hC
  have hl : lv_has ls 1 [(0, .ref (ad 3))] := hl
  have hx := hC.1
  have hb := hC.2.1
  have hf : f_Ma_rememberBefore_3 G = (g_up (g_up (g_up (g_up (g_up G 3 6 (-1)) 3 8 (G 3 1)) 3 9 (G 3 2)) 3 10 (G 3 3)) 3 11 (G 3 4)) := rfl
  refine lv_aload_n hx hb d_Ma_rememberBefore_0 rfl (lv_at hl 0 rfl) ?_
  refine lv_iconst (v := (-1)) hx hb d_Ma_rememberBefore_1 (by decide) ?_
  refine gp_3_6 hC hB fl_Ma_19 d_Ma_rememberBefore_2 (fun H locs hB => ?_)
  refine lv_aload_n hx hb d_Ma_rememberBefore_5 rfl (lv_at hl 0 rfl) ?_
  refine lv_aload_n hx hb d_Ma_rememberBefore_6 rfl (lv_at hl 0 rfl) ?_
  refine gg_3_1 (x := (G 3 1)) hC hB rfl fl_Ma_28 d_Ma_rememberBefore_7 ?_
  refine gp_3_8 hC hB fl_Ma_61 d_Ma_rememberBefore_10 (fun H locs hB => ?_)
  refine lv_aload_n hx hb d_Ma_rememberBefore_13 rfl (lv_at hl 0 rfl) ?_
  refine lv_aload_n hx hb d_Ma_rememberBefore_14 rfl (lv_at hl 0 rfl) ?_
  refine gg_3_2 (x := (G 3 2)) hC hB rfl fl_Ma_31 d_Ma_rememberBefore_15 ?_
  refine gp_3_9 hC hB fl_Ma_64 d_Ma_rememberBefore_18 (fun H locs hB => ?_)
  refine lv_aload_n hx hb d_Ma_rememberBefore_21 rfl (lv_at hl 0 rfl) ?_
  refine lv_aload_n hx hb d_Ma_rememberBefore_22 rfl (lv_at hl 0 rfl) ?_
  refine gg_3_3 (x := (G 3 3)) hC hB rfl fl_Ma_34 d_Ma_rememberBefore_23 ?_
  refine gp_3_10 hC hB fl_Ma_67 d_Ma_rememberBefore_26 (fun H locs hB => ?_)
  refine lv_aload_n hx hb d_Ma_rememberBefore_29 rfl (lv_at hl 0 rfl) ?_
  refine lv_aload_n hx hb d_Ma_rememberBefore_30 rfl (lv_at hl 0 rfl) ?_
  refine gg_3_4 (x := (G 3 4)) hC hB rfl fl_Ma_37 d_Ma_rememberBefore_31 ?_
  refine gp_3_11 hC hB fl_Ma_70 d_Ma_rememberBefore_34 (fun H locs hB => ?_)
  exact g_vret hC hB hr hlk (by decide) (by decide) rfl hf d_Ma_rememberBefore_37
abbrev rm_Ro_slot : Room := { frames := 0, cells := 0, slots := 0, locals := 0 }
def f_Ro_slot (G : gT) (p0 : Int32) : Int32 := p0 &&& (1023 : Int32)
set_option maxHeartbeats 4000000 in
set_option maxRecDepth 100000 in
theorem c_Ro_slot (l : Launch) (G : gT) (p0 : Int32) (O : Int64) : gMet l y_Ro_slot w_Ro_slot rm_Ro_slot (fun ad => [.int p0]) G O (.inl (some (.int (f_Ro_slot G p0)))) G O := by
  refine g_body (by decide) (gCode_of _ _ _ _) (fun ad => by simp [lg_sl, Value.category]) ?_
  intro p e s0 s m args below meth c D cI cL ad hC hr hlk htb hB ls hl
  have hC : CallFix p m c b_Ro_slot 1 s args gtb R_Ro := hC
  have hl : lv_has ls 1 [(0, .int p0)] := hl
  have hx := hC.1
  have hb := hC.2.1
  have hf : f_Ro_slot G p0 = p0 &&& (1023 : Int32) := rfl
  refine lv_iload_n hx hb d_Ro_slot_0 rfl (lv_at hl 0 rfl) ?_
  refine lv_sipush (v := 1023) hx hb d_Ro_slot_1 (by decide) ?_
  refine lv_iand hx hb d_Ro_slot_4 ?_
  exact g_iret hC hB hr hlk (by decide) (by decide) (by rw [hf]) rfl d_Ro_slot_5
abbrev rm_Mo_slot : Room := { frames := 0, cells := 0, slots := 0, locals := 0 }
def f_Mo_slot (G : gT) (p0 : Int32) : Int32 := p0 - p0 / (1025 : Int32) * (1025 : Int32)
set_option maxHeartbeats 4000000 in
set_option maxRecDepth 100000 in
theorem c_Mo_slot (l : Launch) (G : gT) (p0 : Int32) (O : Int64) : gMet l y_Mo_slot w_Mo_slot rm_Mo_slot (fun ad => [.int p0]) G O (.inl (some (.int (f_Mo_slot G p0)))) G O := by
  refine g_body (by decide) (gCode_of _ _ _ _) (fun ad => by simp [lg_sl, Value.category]) ?_
  intro p e s0 s m args below meth c D cI cL ad hC hr hlk htb hB ls hl
  have hC : CallFix p m c b_Mo_slot 1 s args gtb R_Mo := hC
  have hl : lv_has ls 1 [(0, .int p0)] := hl
  have hx := hC.1
  have hb := hC.2.1
  have hf : f_Mo_slot G p0 = p0 - p0 / (1025 : Int32) * (1025 : Int32) := rfl
  refine lv_iload_n hx hb d_Mo_slot_0 rfl (lv_at hl 0 rfl) ?_
  refine lv_sipush (v := 1025) hx hb d_Mo_slot_1 (by decide) ?_
  refine lv_irem hx hb d_Mo_slot_4 (by decide) ?_
  exact g_iret hC hB hr hlk (by decide) (by decide) (by rw [hf]) rfl d_Mo_slot_5
abbrev rm_Mo_kindOf : Room := { frames := 0, cells := 0, slots := 0, locals := 0 }
def f_Mo_kindOf (G : gT) (p0 : Int32) : Int32 := g_ush p0 28
set_option maxHeartbeats 4000000 in
set_option maxRecDepth 100000 in
theorem c_Mo_kindOf (l : Launch) (G : gT) (p0 : Int32) (O : Int64) : gMet l y_Mo_kindOf w_Mo_kindOf rm_Mo_kindOf (fun ad => [.int p0]) G O (.inl (some (.int (f_Mo_kindOf G p0)))) G O := by
  refine g_body (by decide) (gCode_of _ _ _ _) (fun ad => by simp [lg_sl, Value.category]) ?_
  intro p e s0 s m args below meth c D cI cL ad hC hr hlk htb hB ls hl
  have hC : CallFix p m c b_Mo_kindOf 1 s args gtb R_Mo := hC
  have hl : lv_has ls 1 [(0, .int p0)] := hl
  have hx := hC.1
  have hb := hC.2.1
  have hf : f_Mo_kindOf G p0 = g_ush p0 28 := rfl
  refine lv_iload_n hx hb d_Mo_kindOf_0 rfl (lv_at hl 0 rfl) ?_
  refine lv_bipush (v := 28) hx hb d_Mo_kindOf_1 (by decide) ?_
  refine lv_iushr (v := g_ush p0 28) hx hb d_Mo_kindOf_3 rfl ?_
  exact g_iret hC hB hr hlk (by decide) (by decide) (by rw [hf]) rfl d_Mo_kindOf_4
abbrev rm_Mo_modulo : Room := { frames := 0, cells := 0, slots := 0, locals := 0 }
def f_Mo_modulo (G : gT) (p0 : Int32) (p1 : Int32) : Int32 := ((p0 - p0 / p1 * p1) + p1) - ((p0 - p0 / p1 * p1) + p1) / p1 * p1
def ok_Mo_modulo (G : gT) (p0 : Int32) (p1 : Int32) : Prop := (¬ p1 = 0 ∧ (¬ p1 = 0 ∧ True))
set_option maxHeartbeats 4000000 in
set_option maxRecDepth 100000 in
theorem c_Mo_modulo (l : Launch) (G : gT) (p0 : Int32) (p1 : Int32) (O : Int64) (hok : ok_Mo_modulo G p0 p1) : gMet l y_Mo_modulo w_Mo_modulo rm_Mo_modulo (fun ad => [.int p0, .int p1]) G O (.inl (some (.int (f_Mo_modulo G p0 p1)))) G O := by
  refine g_body (by decide) (gCode_of _ _ _ _) (fun ad => by simp [lg_sl, Value.category]) ?_
  intro p e s0 s m args below meth c D cI cL ad hC hr hlk htb hB ls hl
  have hC : CallFix p m c b_Mo_modulo 2 s args gtb R_Mo := hC
  have hl : lv_has ls 2 [(0, .int p0), (1, .int p1)] := hl
  have hx := hC.1
  have hb := hC.2.1
  have hf : f_Mo_modulo G p0 p1 = ((p0 - p0 / p1 * p1) + p1) - ((p0 - p0 / p1 * p1) + p1) / p1 * p1 := rfl
  have hok : (¬ p1 = 0 ∧ (¬ p1 = 0 ∧ True)) := hok
  refine lv_iload_n hx hb d_Mo_modulo_0 rfl (lv_at hl 0 rfl) ?_
  refine lv_iload_n hx hb d_Mo_modulo_1 rfl (lv_at hl 1 rfl) ?_
  refine lv_irem hx hb d_Mo_modulo_2 hok.1 ?_
  replace hok := hok.2
  refine lv_iload_n hx hb d_Mo_modulo_3 rfl (lv_at hl 1 rfl) ?_
  refine lv_iadd hx hb d_Mo_modulo_4 ?_
  refine lv_iload_n hx hb d_Mo_modulo_5 rfl (lv_at hl 1 rfl) ?_
  refine lv_irem hx hb d_Mo_modulo_6 hok.1 ?_
  replace hok := hok.2
  exact g_iret hC hB hr hlk (by decide) (by decide) (by rw [hf]) rfl d_Mo_modulo_7
abbrev rm_Mo_thrown : Room := { frames := 0, cells := 0, slots := 0, locals := 0 }
def f_Mo_thrown (G : gT) : Int32 := (G 16 0)
set_option maxHeartbeats 4000000 in
set_option maxRecDepth 100000 in
theorem c_Mo_thrown (l : Launch) (G : gT) (O : Int64) : gMet l y_Mo_thrown w_Mo_thrown rm_Mo_thrown (fun ad => [.ref (ad 16)]) G O (.inl (some (.int (f_Mo_thrown G)))) G O := by
  refine g_body (by decide) (gCode_of _ _ _ _) (fun ad => by simp [lg_sl, Value.category]) ?_
  intro p e s0 s m args below meth c D cI cL ad hC hr hlk htb hB ls hl
  have hC : CallFix p m c b_Mo_thrown 1 s args gtb R_Mo := hC
  have hl : lv_has ls 1 [(0, .ref (ad 16))] := hl
  have hx := hC.1
  have hb := hC.2.1
  have hf : f_Mo_thrown G = (G 16 0) := rfl
  refine lv_aload_n hx hb d_Mo_thrown_0 rfl (lv_at hl 0 rfl) ?_
  refine gg_16_0 (x := (G 16 0)) hC hB rfl fl_Mo_43 d_Mo_thrown_1 ?_
  exact g_iret hC hB hr hlk (by decide) (by decide) (by rw [hf]) rfl d_Mo_thrown_4
abbrev rm_Mo_fail : Room := { frames := 0, cells := 0, slots := 0, locals := 0 }
def f_Mo_fail (G : gT) (p1 : Int32) : Int32 × gT := (0, (g_up G 16 0 p1))
set_option maxHeartbeats 4000000 in
set_option maxRecDepth 100000 in
theorem c_Mo_fail (l : Launch) (G : gT) (p1 : Int32) (O : Int64) : gMet l y_Mo_fail w_Mo_fail rm_Mo_fail (fun ad => [.ref (ad 16), .int p1]) G O (.inl (some (.int (f_Mo_fail G p1).1))) ((f_Mo_fail G p1).2) O := by
  refine g_body (by decide) (gCode_of _ _ _ _) (fun ad => by simp [lg_sl, Value.category]) ?_
  intro p e s0 s m args below meth c D cI cL ad hC hr hlk htb hB ls hl
  have hC : CallFix p m c b_Mo_fail 2 s args gtb R_Mo := hC
  have hl : lv_has ls 2 [(0, .ref (ad 16)), (1, .int p1)] := hl
  have hx := hC.1
  have hb := hC.2.1
  have hf : f_Mo_fail G p1 = (0, (g_up G 16 0 p1)) := rfl
  refine lv_aload_n hx hb d_Mo_fail_0 rfl (lv_at hl 0 rfl) ?_
  refine lv_iload_n hx hb d_Mo_fail_1 rfl (lv_at hl 1 rfl) ?_
  refine gp_16_0 hC hB fl_Mo_43 d_Mo_fail_2 (fun H locs hB => ?_)
  refine lv_iconst (v := 0) hx hb d_Mo_fail_5 (by decide) ?_
  exact g_iret hC hB hr hlk (by decide) (by decide) (by rw [hf]) (by rw [hf]) d_Mo_fail_6
abbrev rm_Mo_within : Room := { frames := 0, cells := 0, slots := 0, locals := 0 }
def f_Mo_within (G : gT) (p0 : Int32) (p1 : Int32) (p2 : Int32) : Int32 := (if p0 < p1 then 0 else (if p2 < p0 then 0 else 1))
set_option maxHeartbeats 4000000 in
set_option maxRecDepth 100000 in
theorem c_Mo_within (l : Launch) (G : gT) (p0 : Int32) (p1 : Int32) (p2 : Int32) (O : Int64) : gMet l y_Mo_within w_Mo_within rm_Mo_within (fun ad => [.int p0, .int p1, .int p2]) G O (.inl (some (.int (f_Mo_within G p0 p1 p2)))) G O := by
  refine g_body (by decide) (gCode_of _ _ _ _) (fun ad => by simp [lg_sl, Value.category]) ?_
  intro p e s0 s m args below meth c D cI cL ad hC hr hlk htb hB ls hl
  have hC : CallFix p m c b_Mo_within 3 s args gtb R_Mo := hC
  have hl : lv_has ls 3 [(0, .int p0), (1, .int p1), (2, .int p2)] := hl
  have hx := hC.1
  have hb := hC.2.1
  have hf : f_Mo_within G p0 p1 p2 = (if p0 < p1 then 0 else (if p2 < p0 then 0 else 1)) := rfl
  refine lv_iload_n hx hb d_Mo_within_0 rfl (lv_at hl 0 rfl) ?_
  refine lv_iload_n hx hb d_Mo_within_1 rfl (lv_at hl 1 rfl) ?_
  refine lv_icmp_lt (tgt := 14) hx hb d_Mo_within_2 (by decide) (fun c1 => ?_) (fun c1 => ?_)
  · replace hf := hf.trans (if_pos c1)
    refine lv_iconst (v := 0) hx hb d_Mo_within_14 (by decide) ?_
    exact g_zret hC hB hr hlk (by decide) (by decide) (by decide) (by rw [hf]) rfl d_Mo_within_15
  · replace hf := hf.trans (if_neg c1)
    refine lv_iload_n hx hb d_Mo_within_5 rfl (lv_at hl 0 rfl) ?_
    refine lv_iload_n hx hb d_Mo_within_6 rfl (lv_at hl 2 rfl) ?_
    refine lv_icmp_gt (tgt := 14) hx hb d_Mo_within_7 (by decide) (fun c2 => ?_) (fun c2 => ?_)
    · replace hf := hf.trans (if_pos c2)
      refine lv_iconst (v := 0) hx hb d_Mo_within_14 (by decide) ?_
      exact g_zret hC hB hr hlk (by decide) (by decide) (by decide) (by rw [hf]) rfl d_Mo_within_15
    · replace hf := hf.trans (if_neg c2)
      refine lv_iconst (v := 1) hx hb d_Mo_within_10 (by decide) ?_
      refine lv_goto (tgt := 15) hx hb d_Mo_within_11 (by decide) ?_
      exact g_zret hC hB hr hlk (by decide) (by decide) (by decide) (by rw [hf]) rfl d_Mo_within_15
