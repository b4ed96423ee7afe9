abbrev rm_Ma_wouldWait_5 : Room := { frames := 0, cells := 0, slots := 0, locals := 0 }
def f_Ma_wouldWait_5 (G : gT) (p2 : Int32) : Int32 := (if (G 5 5) = 0 then (if (g_ush (G 1 ((G 5 1).toNatClampNeg)) 28) = 8 then (if (G 5 2) < p2 then 0 else 1) else 0) else 0)
def ok_Ma_wouldWait_5 (G : gT) (p2 : Int32) : Prop := (((G 5 5) = 0 → (vp_in (G 5 1) 64 ∧ True)) ∧ (¬ (G 5 5) = 0 → True))
set_option maxHeartbeats 4000000 in
set_option maxRecDepth 100000 in
theorem c_Ma_wouldWait_5 (l : Launch) (G : gT) (p2 : Int32) (O : Int64) (hok : ok_Ma_wouldWait_5 G p2) : gMet l y_Ma_wouldWait w_Ma_wouldWait rm_Ma_wouldWait_5 (fun ad => [.ref (ad 5), .ref (ad 1), .int p2]) G O (.inl (some (.int (f_Ma_wouldWait_5 G p2)))) G O := by
  refine g_body (by decide) (gCode_of _ _ _ _) (fun ad => by simp [lg_sl, Value.category]) ?_
  intro p e s0 s m args below meth c D cI cL ad hC hr hlk htb hB ls hl
  have hC : CallFix p m c b_Ma_wouldWait 3 s args gtb R_Ma := hC
  have hl : lv_has ls 3 [(0, .ref (ad 5)), (1, .ref (ad 1)), (2, .int p2)] := hl
  have hx := hC.1
  have hb := hC.2.1
  have hf : f_Ma_wouldWait_5 G p2 = (if (G 5 5) = 0 then (if (g_ush (G 1 ((G 5 1).toNatClampNeg)) 28) = 8 then (if (G 5 2) < p2 then 0 else 1) else 0) else 0) := rfl
  have hok : (((G 5 5) = 0 → (vp_in (G 5 1) 64 ∧ True)) ∧ (¬ (G 5 5) = 0 → True)) := hok
  refine lv_aload_n hx hb d_Ma_wouldWait_0 rfl (lv_at hl 0 rfl) ?_
  refine gg_5_5 (x := (G 5 5)) hC hB rfl fl_Ma_15 d_Ma_wouldWait_1 ?_
  refine lv_if_ne (tgt := 33) hx hb d_Ma_wouldWait_4 (by decide) (fun c1 => ?_) (fun c1 => ?_)
  · replace hf := hf.trans (if_neg c1)
    replace hok := hok.2 c1
    refine lv_iconst (v := 0) hx hb d_Ma_wouldWait_33 (by decide) ?_
    exact g_zret hC hB hr hlk (by decide) (by decide) (by decide) (by rw [hf]) rfl d_Ma_wouldWait_34
  · replace hf := hf.trans (if_pos c1)
    replace hok := hok.1 c1
    refine lv_aload_n hx hb d_Ma_wouldWait_7 rfl (lv_at hl 1 rfl) ?_
    refine lv_aload_n hx hb d_Ma_wouldWait_8 rfl (lv_at hl 0 rfl) ?_
    refine gg_5_1 (x := (G 5 1)) hC hB rfl fl_Ma_28 d_Ma_wouldWait_9 ?_
    refine ga_1 (x := (G 1 ((G 5 1).toNatClampNeg))) hC hB hok.1 rfl d_Ma_wouldWait_12 ?_
    replace hok := hok.2
    refine lv_bipush (v := 28) hx hb d_Ma_wouldWait_13 (by decide) ?_
    refine lv_iushr (v := g_ush (G 1 ((G 5 1).toNatClampNeg)) 28) hx hb d_Ma_wouldWait_15 rfl ?_
    refine lv_bipush (v := 8) hx hb d_Ma_wouldWait_16 (by decide) ?_
    refine lv_icmp_ne (tgt := 33) hx hb d_Ma_wouldWait_18 (by decide) (fun c2 => ?_) (fun c2 => ?_)
    · replace hf := hf.trans (if_neg c2)
      refine lv_iconst (v := 0) hx hb d_Ma_wouldWait_33 (by decide) ?_
      exact g_zret hC hB hr hlk (by decide) (by decide) (by decide) (by rw [hf]) rfl d_Ma_wouldWait_34
    · replace hf := hf.trans (if_pos c2)
      refine lv_aload_n hx hb d_Ma_wouldWait_21 rfl (lv_at hl 0 rfl) ?_
      refine gg_5_2 (x := (G 5 2)) hC hB rfl fl_Ma_31 d_Ma_wouldWait_22 ?_
      refine lv_iload_n hx hb d_Ma_wouldWait_25 rfl (lv_at hl 2 rfl) ?_
      refine lv_icmp_lt (tgt := 33) hx hb d_Ma_wouldWait_26 (by decide) (fun c3 => ?_) (fun c3 => ?_)
      · replace hf := hf.trans (if_pos c3)
        refine lv_iconst (v := 0) hx hb d_Ma_wouldWait_33 (by decide) ?_
        exact g_zret hC hB hr hlk (by decide) (by decide) (by decide) (by rw [hf]) rfl d_Ma_wouldWait_34
      · replace hf := hf.trans (if_neg c3)
        refine lv_iconst (v := 1) hx hb d_Ma_wouldWait_29 (by decide) ?_
        refine lv_goto (tgt := 34) hx hb d_Ma_wouldWait_30 (by decide) ?_
        exact g_zret hC hB hr hlk (by decide) (by decide) (by decide) (by rw [hf]) rfl d_Ma_wouldWait_34
abbrev rm_Ma_rememberBefore_5 : Room := { frames := 0, cells := 0, slots := 0, locals := 0 }
def f_Ma_rememberBefore_5 (G : gT) : gT := (g_up (g_up (g_up (g_up (g_up G 5 6 (-1)) 5 8 (G 5 1)) 5 9 (G 5 2)) 5 10 (G 5 3)) 5 11 (G 5 4))
set_option maxHeartbeats 4000000 in
set_option maxRecDepth 100000 in
theorem c_Ma_rememberBefore_5 (l : Launch) (G : gT) (O : Int64) : gMet l y_Ma_rememberBefore w_Ma_rememberBefore rm_Ma_rememberBefore_5 (fun ad => [.ref (ad 5)]) G O (.inl (none)) (f_Ma_rememberBefore_5 G) O := by
  refine g_body (by decide) (gCode_of _ _ _ _) (fun ad => by simp [lg_sl, Value.category]) ?_
  intro p e s0 s m args below meth c D cI cL ad hC hr hlk htb hB ls hl
  have hC : CallFix p m c b_Ma_rememberBefore 1 s args gtb R_Ma := hC
  have hl : lv_has ls 1 [(0, .ref (ad 5))] := hl
  have hx := hC.1
  have hb := hC.2.1
  have hf : f_Ma_rememberBefore_5 G = (g_up (g_up (g_up (g_up (g_up G 5 6 (-1)) 5 8 (G 5 1)) 5 9 (G 5 2)) 5 10 (G 5 3)) 5 11 (G 5 4)) := rfl
  refine lv_aload_n hx hb d_Ma_rememberBefore_0 rfl (lv_at hl 0 rfl) ?_
  refine lv_iconst (v := (-1)) hx hb d_Ma_rememberBefore_1 (by decide) ?_
  refine gp_5_6 hC hB fl_Ma_19 d_Ma_rememberBefore_2 (fun H locs hB => ?_)
  refine lv_aload_n hx hb d_Ma_rememberBefore_5 rfl (lv_at hl 0 rfl) ?_
  refine lv_aload_n hx hb d_Ma_rememberBefore_6 rfl (lv_at hl 0 rfl) ?_
  refine gg_5_1 (x := (G 5 1)) hC hB rfl fl_Ma_28 d_Ma_rememberBefore_7 ?_
  refine gp_5_8 hC hB fl_Ma_61 d_Ma_rememberBefore_10 (fun H locs hB => ?_)
  refine lv_aload_n hx hb d_Ma_rememberBefore_13 rfl (lv_at hl 0 rfl) ?_
  refine lv_aload_n hx hb d_Ma_rememberBefore_14 rfl (lv_at hl 0 rfl) ?_
  refine gg_5_2 (x := (G 5 2)) hC hB rfl fl_Ma_31 d_Ma_rememberBefore_15 ?_
  refine gp_5_9 hC hB fl_Ma_64 d_Ma_rememberBefore_18 (fun H locs hB => ?_)
  refine lv_aload_n hx hb d_Ma_rememberBefore_21 rfl (lv_at hl 0 rfl) ?_
  refine lv_aload_n hx hb d_Ma_rememberBefore_22 rfl (lv_at hl 0 rfl) ?_
  refine gg_5_3 (x := (G 5 3)) hC hB rfl fl_Ma_34 d_Ma_rememberBefore_23 ?_
  refine gp_5_10 hC hB fl_Ma_67 d_Ma_rememberBefore_26 (fun H locs hB => ?_)
  refine lv_aload_n hx hb d_Ma_rememberBefore_29 rfl (lv_at hl 0 rfl) ?_
  refine lv_aload_n hx hb d_Ma_rememberBefore_30 rfl (lv_at hl 0 rfl) ?_
  refine gg_5_4 (x := (G 5 4)) hC hB rfl fl_Ma_37 d_Ma_rememberBefore_31 ?_
  refine gp_5_11 hC hB fl_Ma_70 d_Ma_rememberBefore_34 (fun H locs hB => ?_)
  exact g_vret hC hB hr hlk (by decide) (by decide) rfl hf d_Ma_rememberBefore_37
abbrev rm_Ma_stop_5 : Room := { frames := 0, cells := 0, slots := 0, locals := 0 }
def f_Ma_stop_5 (G : gT) (p1 : Int32) : gT := (g_up (g_up G 5 5 p1) 5 1 (G 5 8))
set_option maxHeartbeats 4000000 in
set_option maxRecDepth 100000 in
theorem c_Ma_stop_5 (l : Launch) (G : gT) (p1 : Int32) (O : Int64) : gMet l y_Ma_stop w_Ma_stop rm_Ma_stop_5 (fun ad => [.ref (ad 5), .int p1]) G O (.inl (none)) (f_Ma_stop_5 G p1) O := by
  refine g_body (by decide) (gCode_of _ _ _ _) (fun ad => by simp [lg_sl, Value.category]) ?_
  intro p e s0 s m args below meth c D cI cL ad hC hr hlk htb hB ls hl
  have hC : CallFix p m c b_Ma_stop 2 s args gtb R_Ma := hC
  have hl : lv_has ls 2 [(0, .ref (ad 5)), (1, .int p1)] := hl
  have hx := hC.1
  have hb := hC.2.1
  have hf : f_Ma_stop_5 G p1 = (g_up (g_up G 5 5 p1) 5 1 (G 5 8)) := rfl
  refine lv_aload_n hx hb d_Ma_stop_0 rfl (lv_at hl 0 rfl) ?_
  refine lv_iload_n hx hb d_Ma_stop_1 rfl (lv_at hl 1 rfl) ?_
  refine gp_5_5 hC hB fl_Ma_15 d_Ma_stop_2 (fun H locs hB => ?_)
  refine lv_aload_n hx hb d_Ma_stop_5 rfl (lv_at hl 0 rfl) ?_
  refine lv_aload_n hx hb d_Ma_stop_6 rfl (lv_at hl 0 rfl) ?_
  refine gg_5_8 (x := (G 5 8)) hC hB rfl fl_Ma_61 d_Ma_stop_7 ?_
  refine gp_5_1 hC hB fl_Ma_28 d_Ma_stop_10 (fun H locs hB => ?_)
  exact g_vret hC hB hr hlk (by decide) (by decide) rfl hf d_Ma_stop_13
abbrev rm_Ma_write_5 : Room := { frames := 0, cells := 0, slots := 0, locals := 0 }
def f_Ma_write_5 (G : gT) (p1 : Int32) (p2 : Int32) : gT := (g_up (g_up (g_up G 5 6 p1) 5 7 (G 6 p1.toNatClampNeg)) 6 p1.toNatClampNeg p2)
def ok_Ma_write_5 (G : gT) (p1 : Int32) (p2 : Int32) : Prop := (vp_in p1 264 ∧ (vp_in p1 264 ∧ True))
set_option maxHeartbeats 4000000 in
set_option maxRecDepth 100000 in
theorem c_Ma_write_5 (l : Launch) (G : gT) (p1 : Int32) (p2 : Int32) (O : Int64) (hok : ok_Ma_write_5 G p1 p2) : gMet l y_Ma_write w_Ma_write rm_Ma_write_5 (fun ad => [.ref (ad 5), .int p1, .int p2]) G O (.inl (none)) (f_Ma_write_5 G p1 p2) O := by
  refine g_body (by decide) (gCode_of _ _ _ _) (fun ad => by simp [lg_sl, Value.category]) ?_
  intro p e s0 s m args below meth c D cI cL ad hC hr hlk htb hB ls hl
  have hC : CallFix p m c b_Ma_write 3 s args gtb R_Ma := hC
  have hl : lv_has ls 3 [(0, .ref (ad 5)), (1, .int p1), (2, .int p2)] := hl
  have hx := hC.1
  have hb := hC.2.1
  have hf : f_Ma_write_5 G p1 p2 = (g_up (g_up (g_up G 5 6 p1) 5 7 (G 6 p1.toNatClampNeg)) 6 p1.toNatClampNeg p2) := rfl
  have hok : (vp_in p1 264 ∧ (vp_in p1 264 ∧ True)) := hok
  refine lv_aload_n hx hb d_Ma_write_0 rfl (lv_at hl 0 rfl) ?_
  refine lv_iload_n hx hb d_Ma_write_1 rfl (lv_at hl 1 rfl) ?_
  refine gp_5_6 hC hB fl_Ma_19 d_Ma_write_2 (fun H locs hB => ?_)
  refine lv_aload_n hx hb d_Ma_write_5 rfl (lv_at hl 0 rfl) ?_
  refine lv_aload_n hx hb d_Ma_write_6 rfl (lv_at hl 0 rfl) ?_
  refine gr_5_0 hC hB fl_Ma_9 d_Ma_write_7 ?_
  refine lv_iload_n hx hb d_Ma_write_10 rfl (lv_at hl 1 rfl) ?_
  refine ga_6 (x := (G 6 p1.toNatClampNeg)) hC hB hok.1 rfl d_Ma_write_11 ?_
  replace hok := hok.2
  refine gp_5_7 hC hB fl_Ma_77 d_Ma_write_12 (fun H locs hB => ?_)
  refine lv_aload_n hx hb d_Ma_write_15 rfl (lv_at hl 0 rfl) ?_
  refine gr_5_0 hC hB fl_Ma_9 d_Ma_write_16 ?_
  refine lv_iload_n hx hb d_Ma_write_19 rfl (lv_at hl 1 rfl) ?_
  refine lv_iload_n hx hb d_Ma_write_20 rfl (lv_at hl 2 rfl) ?_
  refine gs_6 hC hB hok.1 d_Ma_write_21 (fun H locs hB => ?_)
  replace hok := hok.2
  exact g_vret hC hB hr hlk (by decide) (by decide) rfl hf d_Ma_write_22
abbrev rm_Ma_compute_5 : Room := { frames := 1, cells := 0, slots := 0, locals := 14 }
def f_Ma_compute_5 (G : gT) (p1 : Int32) (p2 : Int32) : gT := (if p1 = 0 then (f_Ma_stop_5 G 1) else (if p1 = 1 then (f_Ma_write_5 G (f_Ma_register G p2 24) p2.toInt16.toInt32) else (if p1 = 2 then (f_Ma_write_5 G (f_Ma_register G p2 24) ((G 6 ((f_Ma_register G p2 20).toNatClampNeg)) + (G 6 ((f_Ma_register G p2 16).toNatClampNeg)))) else (if p1 = 3 then (f_Ma_write_5 G (f_Ma_register G p2 24) ((G 6 ((f_Ma_register G p2 20).toNatClampNeg)) - (G 6 ((f_Ma_register G p2 16).toNatClampNeg)))) else (if p1 = 4 then (f_Ma_write_5 G (f_Ma_register G p2 24) ((G 6 ((f_Ma_register G p2 20).toNatClampNeg)) ^^^ (G 6 ((f_Ma_register G p2 16).toNatClampNeg)))) else (if p1 = 10 then (f_Ma_write_5 G (f_Ma_register G p2 24) (g_ush (G 6 ((f_Ma_register G p2 20).toNatClampNeg)) ((G 6 ((f_Ma_register G p2 16).toNatClampNeg)) &&& (31 : Int32)))) else (if p1 = 11 then (f_Ma_write_5 G (f_Ma_register G p2 24) ((G 6 ((f_Ma_register G p2 20).toNatClampNeg)) * (G 6 ((f_Ma_register G p2 16).toNatClampNeg)))) else (if p1 = 12 then (if (G 6 ((f_Ma_register G p2 16).toNatClampNeg)) ≤ (G 6 ((f_Ma_register G p2 20).toNatClampNeg)) then (f_Ma_write_5 G (f_Ma_register G p2 24) 0) else (f_Ma_write_5 G (f_Ma_register G p2 24) 1)) else (f_Ma_stop_5 G 2)))))))))
def ok_Ma_compute_5 (G : gT) (p1 : Int32) (p2 : Int32) : Prop := (vp_in (f_Ma_register G p2 20) 264 ∧ (vp_in (f_Ma_register G p2 16) 264 ∧ ((p1 = 0 → True) ∧ (¬ p1 = 0 → ((p1 = 1 → (ok_Ma_write_5 G (f_Ma_register G p2 24) p2.toInt16.toInt32 ∧ True)) ∧ (¬ p1 = 1 → ((p1 = 2 → (ok_Ma_write_5 G (f_Ma_register G p2 24) ((G 6 ((f_Ma_register G p2 20).toNatClampNeg)) + (G 6 ((f_Ma_register G p2 16).toNatClampNeg))) ∧ True)) ∧ (¬ p1 = 2 → ((p1 = 3 → (ok_Ma_write_5 G (f_Ma_register G p2 24) ((G 6 ((f_Ma_register G p2 20).toNatClampNeg)) - (G 6 ((f_Ma_register G p2 16).toNatClampNeg))) ∧ True)) ∧ (¬ p1 = 3 → ((p1 = 4 → (ok_Ma_write_5 G (f_Ma_register G p2 24) ((G 6 ((f_Ma_register G p2 20).toNatClampNeg)) ^^^ (G 6 ((f_Ma_register G p2 16).toNatClampNeg))) ∧ True)) ∧ (¬ p1 = 4 → ((p1 = 10 → (ok_Ma_write_5 G (f_Ma_register G p2 24) (g_ush (G 6 ((f_Ma_register G p2 20).toNatClampNeg)) ((G 6 ((f_Ma_register G p2 16).toNatClampNeg)) &&& (31 : Int32))) ∧ True)) ∧ (¬ p1 = 10 → ((p1 = 11 → (ok_Ma_write_5 G (f_Ma_register G p2 24) ((G 6 ((f_Ma_register G p2 20).toNatClampNeg)) * (G 6 ((f_Ma_register G p2 16).toNatClampNeg))) ∧ True)) ∧ (¬ p1 = 11 → ((p1 = 12 → (((G 6 ((f_Ma_register G p2 16).toNatClampNeg)) ≤ (G 6 ((f_Ma_register G p2 20).toNatClampNeg)) → (ok_Ma_write_5 G (f_Ma_register G p2 24) 0 ∧ True)) ∧ (¬ (G 6 ((f_Ma_register G p2 16).toNatClampNeg)) ≤ (G 6 ((f_Ma_register G p2 20).toNatClampNeg)) → (ok_Ma_write_5 G (f_Ma_register G p2 24) 1 ∧ True)))) ∧ (¬ p1 = 12 → True))))))))))))))))))
set_option maxHeartbeats 4000000 in
set_option maxRecDepth 100000 in
theorem c_Ma_compute_5 (l : Launch) (G : gT) (p1 : Int32) (p2 : Int32) (O : Int64) (hok : ok_Ma_compute_5 G p1 p2) : gMet l y_Ma_compute w_Ma_compute rm_Ma_compute_5 (fun ad => [.ref (ad 5), .int p1, .int p2]) G O (.inl (none)) (f_Ma_compute_5 G p1 p2) O := by
  refine g_body (by decide) (gCode_of _ _ _ _) (fun ad => by simp [lg_sl, Value.category]) ?_
  intro p e s0 s m args below meth c D cI cL ad hC hr hlk htb hB ls hl
  have hC : CallFix p m c b_Ma_compute 6 s args gtb R_Ma := hC
  have hl : lv_has ls 6 [(0, .ref (ad 5)), (1, .int p1), (2, .int p2)] := hl
  have hx := hC.1
  have hb := hC.2.1
  have hf : f_Ma_compute_5 G p1 p2 = (if p1 = 0 then (f_Ma_stop_5 G 1) else (if p1 = 1 then (f_Ma_write_5 G (f_Ma_register G p2 24) p2.toInt16.toInt32) else (if p1 = 2 then (f_Ma_write_5 G (f_Ma_register G p2 24) ((G 6 ((f_Ma_register G p2 20).toNatClampNeg)) + (G 6 ((f_Ma_register G p2 16).toNatClampNeg)))) else (if p1 = 3 then (f_Ma_write_5 G (f_Ma_register G p2 24) ((G 6 ((f_Ma_register G p2 20).toNatClampNeg)) - (G 6 ((f_Ma_register G p2 16).toNatClampNeg)))) else (if p1 = 4 then (f_Ma_write_5 G (f_Ma_register G p2 24) ((G 6 ((f_Ma_register G p2 20).toNatClampNeg)) ^^^ (G 6 ((f_Ma_register G p2 16).toNatClampNeg)))) else (if p1 = 10 then (f_Ma_write_5 G (f_Ma_register G p2 24) (g_ush (G 6 ((f_Ma_register G p2 20).toNatClampNeg)) ((G 6 ((f_Ma_register G p2 16).toNatClampNeg)) &&& (31 : Int32)))) else (if p1 = 11 then (f_Ma_write_5 G (f_Ma_register G p2 24) ((G 6 ((f_Ma_register G p2 20).toNatClampNeg)) * (G 6 ((f_Ma_register G p2 16).toNatClampNeg)))) else (if p1 = 12 then (if (G 6 ((f_Ma_register G p2 16).toNatClampNeg)) ≤ (G 6 ((f_Ma_register G p2 20).toNatClampNeg)) then (f_Ma_write_5 G (f_Ma_register G p2 24) 0) else (f_Ma_write_5 G (f_Ma_register G p2 24) 1)) else (f_Ma_stop_5 G 2))))))))) := rfl
  have hok : (vp_in (f_Ma_register G p2 20) 264 ∧ (vp_in (f_Ma_register G p2 16) 264 ∧ ((p1 = 0 → True) ∧ (¬ p1 = 0 → ((p1 = 1 → (ok_Ma_write_5 G (f_Ma_register G p2 24) p2.toInt16.toInt32 ∧ True)) ∧ (¬ p1 = 1 → ((p1 = 2 → (ok_Ma_write_5 G (f_Ma_register G p2 24) ((G 6 ((f_Ma_register G p2 20).toNatClampNeg)) + (G 6 ((f_Ma_register G p2 16).toNatClampNeg))) ∧ True)) ∧ (¬ p1 = 2 → ((p1 = 3 → (ok_Ma_write_5 G (f_Ma_register G p2 24) ((G 6 ((f_Ma_register G p2 20).toNatClampNeg)) - (G 6 ((f_Ma_register G p2 16).toNatClampNeg))) ∧ True)) ∧ (¬ p1 = 3 → ((p1 = 4 → (ok_Ma_write_5 G (f_Ma_register G p2 24) ((G 6 ((f_Ma_register G p2 20).toNatClampNeg)) ^^^ (G 6 ((f_Ma_register G p2 16).toNatClampNeg))) ∧ True)) ∧ (¬ p1 = 4 → ((p1 = 10 → (ok_Ma_write_5 G (f_Ma_register G p2 24) (g_ush (G 6 ((f_Ma_register G p2 20).toNatClampNeg)) ((G 6 ((f_Ma_register G p2 16).toNatClampNeg)) &&& (31 : Int32))) ∧ True)) ∧ (¬ p1 = 10 → ((p1 = 11 → (ok_Ma_write_5 G (f_Ma_register G p2 24) ((G 6 ((f_Ma_register G p2 20).toNatClampNeg)) * (G 6 ((f_Ma_register G p2 16).toNatClampNeg))) ∧ True)) ∧ (¬ p1 = 11 → ((p1 = 12 → (((G 6 ((f_Ma_register G p2 16).toNatClampNeg)) ≤ (G 6 ((f_Ma_register G p2 20).toNatClampNeg)) → (ok_Ma_write_5 G (f_Ma_register G p2 24) 0 ∧ True)) ∧ (¬ (G 6 ((f_Ma_register G p2 16).toNatClampNeg)) ≤ (G 6 ((f_Ma_register G p2 20).toNatClampNeg)) → (ok_Ma_write_5 G (f_Ma_register G p2 24) 1 ∧ True)))) ∧ (¬ p1 = 12 → True)))))))))))))))))) := hok
  refine lv_iload_n hx hb d_Ma_compute_0 rfl (lv_at hl 2 rfl) ?_
  refine lv_bipush (v := 24) hx hb d_Ma_compute_1 (by decide) ?_
  refine g_callSi (As := [.int p2, .int 24]) (rest := []) hC hB (c_Ma_register l G p2 24 O) rfl key_Ma_register rfl sta_Ma_register ml_Ma_47 rfl hl.1 ⟨Nat.le_of_ble_eq_true rfl, Nat.le_of_ble_eq_true rfl, Nat.le_of_ble_eq_true rfl, Nat.le_of_ble_eq_true rfl⟩ d_Ma_compute_3 (fun H locs hB => ?_)
  refine lv_istore_n (lv' := [(3, .int (f_Ma_register G p2 24)), (0, .ref (ad 5)), (1, .int p1), (2, .int p2)]) hx hb d_Ma_compute_6 rfl hl (by decide) rfl (fun ls hl => ?_)
  refine lv_aload_n hx hb d_Ma_compute_7 rfl (lv_at hl 1 rfl) ?_
  refine gr_5_0 hC hB fl_Ma_9 d_Ma_compute_8 ?_
  refine lv_iload_n hx hb d_Ma_compute_11 rfl (lv_at hl 3 rfl) ?_
  refine lv_bipush (v := 20) hx hb d_Ma_compute_12 (by decide) ?_
  refine g_callSi (As := [.int p2, .int 20]) (rest := [.ref (ad 6)]) hC hB (c_Ma_register l G p2 20 O) rfl key_Ma_register rfl sta_Ma_register ml_Ma_47 rfl hl.1 ⟨Nat.le_of_ble_eq_true rfl, Nat.le_of_ble_eq_true rfl, Nat.le_of_ble_eq_true rfl, Nat.le_of_ble_eq_true rfl⟩ d_Ma_compute_14 (fun H locs hB => ?_)
  refine ga_6 (x := (G 6 ((f_Ma_register G p2 20).toNatClampNeg))) hC hB hok.1 rfl d_Ma_compute_17 ?_
  replace hok := hok.2
  refine lv_istore (lv' := [(4, .int (G 6 ((f_Ma_register G p2 20).toNatClampNeg))), (3, .int (f_Ma_register G p2 24)), (0, .ref (ad 5)), (1, .int p1), (2, .int p2)]) hx hb d_Ma_compute_18 hl (by decide) rfl (fun ls hl => ?_)
  refine lv_aload_n hx hb d_Ma_compute_20 rfl (lv_at hl 2 rfl) ?_
  refine gr_5_0 hC hB fl_Ma_9 d_Ma_compute_21 ?_
  refine lv_iload_n hx hb d_Ma_compute_24 rfl (lv_at hl 4 rfl) ?_
  refine lv_bipush (v := 16) hx hb d_Ma_compute_25 (by decide) ?_
  refine g_callSi (As := [.int p2, .int 16]) (rest := [.ref (ad 6)]) hC hB (c_Ma_register l G p2 16 O) rfl key_Ma_register rfl sta_Ma_register ml_Ma_47 rfl hl.1 ⟨Nat.le_of_ble_eq_true rfl, Nat.le_of_ble_eq_true rfl, Nat.le_of_ble_eq_true rfl, Nat.le_of_ble_eq_true rfl⟩ d_Ma_compute_27 (fun H locs hB => ?_)
  refine ga_6 (x := (G 6 ((f_Ma_register G p2 16).toNatClampNeg))) hC hB hok.1 rfl d_Ma_compute_30 ?_
  replace hok := hok.2
  refine lv_istore (lv' := [(5, .int (G 6 ((f_Ma_register G p2 16).toNatClampNeg))), (4, .int (G 6 ((f_Ma_register G p2 20).toNatClampNeg))), (3, .int (f_Ma_register G p2 24)), (0, .ref (ad 5)), (1, .int p1), (2, .int p2)]) hx hb d_Ma_compute_31 hl (by decide) rfl (fun ls hl => ?_)
  refine lv_iload_n hx hb d_Ma_compute_33 rfl (lv_at hl 4 rfl) ?_
  by_cases c2 : p1 = 0
  · replace hf := hf.trans (if_pos c2)
    replace hok := hok.1 c2
    refine g_switch (tgt := 100) hC d_Ma_compute_34 (fun i hi => by show i < 13; omega) (by rw [c2]; decide) ?_
    refine lv_aload_n hx hb d_Ma_compute_100 rfl (lv_at hl 3 rfl) ?_
    refine lv_iconst (v := 1) hx hb d_Ma_compute_101 (by decide) ?_
    refine g_callVv (b := ad 5) (As := [.int 1]) (rest := []) hC hB (c_Ma_stop_5 l G 1 O) rfl key_Ma_stop rfl ins_Ma_stop sel_Ma_stop ml_Ma_73 (g_rec5 hB) rfl hl.1 ⟨Nat.le_of_ble_eq_true rfl, Nat.le_of_ble_eq_true rfl, Nat.le_of_ble_eq_true rfl, Nat.le_of_ble_eq_true rfl⟩ d_Ma_compute_102 (fun H locs hB => ?_)
    refine lv_goto (tgt := 211) hx hb d_Ma_compute_105 (by decide) ?_
    exact g_vret hC hB hr hlk (by decide) (by decide) rfl hf d_Ma_compute_211
  · replace hf := hf.trans (if_neg c2)
    replace hok := hok.2 c2
    by_cases c3 : p1 = 1
    · replace hf := hf.trans (if_pos c3)
      replace hok := hok.1 c3
      refine g_switch (tgt := 108) hC d_Ma_compute_34 (fun i hi => by show i < 13; omega) (by rw [c3]; decide) ?_
      refine lv_aload_n hx hb d_Ma_compute_108 rfl (lv_at hl 3 rfl) ?_
      refine lv_iload_n hx hb d_Ma_compute_109 rfl (lv_at hl 2 rfl) ?_
      refine lv_iload_n hx hb d_Ma_compute_110 rfl (lv_at hl 5 rfl) ?_
      refine lv_i2s (v := p2.toInt16.toInt32) hx hb d_Ma_compute_111 rfl ?_
      refine g_callVv (b := ad 5) (As := [.int (f_Ma_register G p2 24), .int p2.toInt16.toInt32]) (rest := []) hC hB (c_Ma_write_5 l G (f_Ma_register G p2 24) p2.toInt16.toInt32 O hok.1) rfl key_Ma_write rfl ins_Ma_write sel_Ma_write ml_Ma_51 (g_rec5 hB) rfl hl.1 ⟨Nat.le_of_ble_eq_true rfl, Nat.le_of_ble_eq_true rfl, Nat.le_of_ble_eq_true rfl, Nat.le_of_ble_eq_true rfl⟩ d_Ma_compute_112 (fun H locs hB => ?_)
      replace hok := hok.2
      refine lv_goto (tgt := 211) hx hb d_Ma_compute_115 (by decide) ?_
      exact g_vret hC hB hr hlk (by decide) (by decide) rfl hf d_Ma_compute_211
    · replace hf := hf.trans (if_neg c3)
      replace hok := hok.2 c3
      by_cases c4 : p1 = 2
      · replace hf := hf.trans (if_pos c4)
        replace hok := hok.1 c4
        refine g_switch (tgt := 118) hC d_Ma_compute_34 (fun i hi => by show i < 13; omega) (by rw [c4]; decide) ?_
        refine lv_aload_n hx hb d_Ma_compute_118 rfl (lv_at hl 3 rfl) ?_
        refine lv_iload_n hx hb d_Ma_compute_119 rfl (lv_at hl 2 rfl) ?_
        refine lv_iload hx hb d_Ma_compute_120 (lv_at hl 1 rfl) ?_
        refine lv_iload hx hb d_Ma_compute_122 (lv_at hl 0 rfl) ?_
        refine lv_iadd hx hb d_Ma_compute_124 ?_
        refine g_callVv (b := ad 5) (As := [.int (f_Ma_register G p2 24), .int ((G 6 ((f_Ma_register G p2 20).toNatClampNeg)) + (G 6 ((f_Ma_register G p2 16).toNatClampNeg)))]) (rest := []) hC hB (c_Ma_write_5 l G (f_Ma_register G p2 24) ((G 6 ((f_Ma_register G p2 20).toNatClampNeg)) + (G 6 ((f_Ma_register G p2 16).toNatClampNeg))) O hok.1) rfl key_Ma_write rfl ins_Ma_write sel_Ma_write ml_Ma_51 (g_rec5 hB) rfl hl.1 ⟨Nat.le_of_ble_eq_true rfl, Nat.le_of_ble_eq_true rfl, Nat.le_of_ble_eq_true rfl, Nat.le_of_ble_eq_true rfl⟩ d_Ma_compute_125 (fun H locs hB => ?_)
        replace hok := hok.2
        refine lv_goto (tgt := 211) hx hb d_Ma_compute_128 (by decide) ?_
        exact g_vret hC hB hr hlk (by decide) (by decide) rfl hf d_Ma_compute_211
      · replace hf := hf.trans (if_neg c4)
        replace hok := hok.2 c4
        by_cases c5 : p1 = 3
        · replace hf := hf.trans (if_pos c5)
          replace hok := hok.1 c5
          refine g_switch (tgt := 131) hC d_Ma_compute_34 (fun i hi => by show i < 13; omega) (by rw [c5]; decide) ?_
          refine lv_aload_n hx hb d_Ma_compute_131 rfl (lv_at hl 3 rfl) ?_
          refine lv_iload_n hx hb d_Ma_compute_132 rfl (lv_at hl 2 rfl) ?_
          refine lv_iload hx hb d_Ma_compute_133 (lv_at hl 1 rfl) ?_
          refine lv_iload hx hb d_Ma_compute_135 (lv_at hl 0 rfl) ?_
          refine lv_isub hx hb d_Ma_compute_137 ?_
          refine g_callVv (b := ad 5) (As := [.int (f_Ma_register G p2 24), .int ((G 6 ((f_Ma_register G p2 20).toNatClampNeg)) - (G 6 ((f_Ma_register G p2 16).toNatClampNeg)))]) (rest := []) hC hB (c_Ma_write_5 l G (f_Ma_register G p2 24) ((G 6 ((f_Ma_register G p2 20).toNatClampNeg)) - (G 6 ((f_Ma_register G p2 16).toNatClampNeg))) O hok.1) rfl key_Ma_write rfl ins_Ma_write sel_Ma_write ml_Ma_51 (g_rec5 hB) rfl hl.1 ⟨Nat.le_of_ble_eq_true rfl, Nat.le_of_ble_eq_true rfl, Nat.le_of_ble_eq_true rfl, Nat.le_of_ble_eq_true rfl⟩ d_Ma_compute_138 (fun H locs hB => ?_)
          replace hok := hok.2
          refine lv_goto (tgt := 211) hx hb d_Ma_compute_141 (by decide) ?_
          exact g_vret hC hB hr hlk (by decide) (by decide) rfl hf d_Ma_compute_211
        · replace hf := hf.trans (if_neg c5)
          replace hok := hok.2 c5
          by_cases c6 : p1 = 4
          · replace hf := hf.trans (if_pos c6)
            replace hok := hok.1 c6
            refine g_switch (tgt := 144) hC d_Ma_compute_34 (fun i hi => by show i < 13; omega) (by rw [c6]; decide) ?_
            refine lv_aload_n hx hb d_Ma_compute_144 rfl (lv_at hl 3 rfl) ?_
            refine lv_iload_n hx hb d_Ma_compute_145 rfl (lv_at hl 2 rfl) ?_
            refine lv_iload hx hb d_Ma_compute_146 (lv_at hl 1 rfl) ?_
            refine lv_iload hx hb d_Ma_compute_148 (lv_at hl 0 rfl) ?_
            refine lv_ixor hx hb d_Ma_compute_150 ?_
            refine g_callVv (b := ad 5) (As := [.int (f_Ma_register G p2 24), .int ((G 6 ((f_Ma_register G p2 20).toNatClampNeg)) ^^^ (G 6 ((f_Ma_register G p2 16).toNatClampNeg)))]) (rest := []) hC hB (c_Ma_write_5 l G (f_Ma_register G p2 24) ((G 6 ((f_Ma_register G p2 20).toNatClampNeg)) ^^^ (G 6 ((f_Ma_register G p2 16).toNatClampNeg))) O hok.1) rfl key_Ma_write rfl ins_Ma_write sel_Ma_write ml_Ma_51 (g_rec5 hB) rfl hl.1 ⟨Nat.le_of_ble_eq_true rfl, Nat.le_of_ble_eq_true rfl, Nat.le_of_ble_eq_true rfl, Nat.le_of_ble_eq_true rfl⟩ d_Ma_compute_151 (fun H locs hB => ?_)
            replace hok := hok.2
            refine lv_goto (tgt := 211) hx hb d_Ma_compute_154 (by decide) ?_
            exact g_vret hC hB hr hlk (by decide) (by decide) rfl hf d_Ma_compute_211
          · replace hf := hf.trans (if_neg c6)
            replace hok := hok.2 c6
            by_cases c7 : p1 = 10
            · replace hf := hf.trans (if_pos c7)
              replace hok := hok.1 c7
              refine g_switch (tgt := 157) hC d_Ma_compute_34 (fun i hi => by show i < 13; omega) (by rw [c7]; decide) ?_
              refine lv_aload_n hx hb d_Ma_compute_157 rfl (lv_at hl 3 rfl) ?_
              refine lv_iload_n hx hb d_Ma_compute_158 rfl (lv_at hl 2 rfl) ?_
              refine lv_iload hx hb d_Ma_compute_159 (lv_at hl 1 rfl) ?_
              refine lv_iload hx hb d_Ma_compute_161 (lv_at hl 0 rfl) ?_
              refine lv_bipush (v := 31) hx hb d_Ma_compute_163 (by decide) ?_
              refine lv_iand hx hb d_Ma_compute_165 ?_
              refine lv_iushr (v := g_ush (G 6 ((f_Ma_register G p2 20).toNatClampNeg)) ((G 6 ((f_Ma_register G p2 16).toNatClampNeg)) &&& (31 : Int32))) hx hb d_Ma_compute_166 rfl ?_
              refine g_callVv (b := ad 5) (As := [.int (f_Ma_register G p2 24), .int (g_ush (G 6 ((f_Ma_register G p2 20).toNatClampNeg)) ((G 6 ((f_Ma_register G p2 16).toNatClampNeg)) &&& (31 : Int32)))]) (rest := []) hC hB (c_Ma_write_5 l G (f_Ma_register G p2 24) (g_ush (G 6 ((f_Ma_register G p2 20).toNatClampNeg)) ((G 6 ((f_Ma_register G p2 16).toNatClampNeg)) &&& (31 : Int32))) O hok.1) rfl key_Ma_write rfl ins_Ma_write sel_Ma_write ml_Ma_51 (g_rec5 hB) rfl hl.1 ⟨Nat.le_of_ble_eq_true rfl, Nat.le_of_ble_eq_true rfl, Nat.le_of_ble_eq_true rfl, Nat.le_of_ble_eq_true rfl⟩ d_Ma_compute_167 (fun H locs hB => ?_)
              replace hok := hok.2
              refine lv_goto (tgt := 211) hx hb d_Ma_compute_170 (by decide) ?_
              exact g_vret hC hB hr hlk (by decide) (by decide) rfl hf d_Ma_compute_211
            · replace hf := hf.trans (if_neg c7)
              replace hok := hok.2 c7
              by_cases c8 : p1 = 11
              · replace hf := hf.trans (if_pos c8)
                replace hok := hok.1 c8
                refine g_switch (tgt := 173) hC d_Ma_compute_34 (fun i hi => by show i < 13; omega) (by rw [c8]; decide) ?_
                refine lv_aload_n hx hb d_Ma_compute_173 rfl (lv_at hl 3 rfl) ?_
                refine lv_iload_n hx hb d_Ma_compute_174 rfl (lv_at hl 2 rfl) ?_
                refine lv_iload hx hb d_Ma_compute_175 (lv_at hl 1 rfl) ?_
                refine lv_iload hx hb d_Ma_compute_177 (lv_at hl 0 rfl) ?_
                refine lv_imul hx hb d_Ma_compute_179 ?_
                refine g_callVv (b := ad 5) (As := [.int (f_Ma_register G p2 24), .int ((G 6 ((f_Ma_register G p2 20).toNatClampNeg)) * (G 6 ((f_Ma_register G p2 16).toNatClampNeg)))]) (rest := []) hC hB (c_Ma_write_5 l G (f_Ma_register G p2 24) ((G 6 ((f_Ma_register G p2 20).toNatClampNeg)) * (G 6 ((f_Ma_register G p2 16).toNatClampNeg))) O hok.1) rfl key_Ma_write rfl ins_Ma_write sel_Ma_write ml_Ma_51 (g_rec5 hB) rfl hl.1 ⟨Nat.le_of_ble_eq_true rfl, Nat.le_of_ble_eq_true rfl, Nat.le_of_ble_eq_true rfl, Nat.le_of_ble_eq_true rfl⟩ d_Ma_compute_180 (fun H locs hB => ?_)
                replace hok := hok.2
                refine lv_goto (tgt := 211) hx hb d_Ma_compute_183 (by decide) ?_
                exact g_vret hC hB hr hlk (by decide) (by decide) rfl hf d_Ma_compute_211
              · replace hf := hf.trans (if_neg c8)
                replace hok := hok.2 c8
                by_cases c9 : p1 = 12
                · replace hf := hf.trans (if_pos c9)
                  replace hok := hok.1 c9
                  refine g_switch (tgt := 186) hC d_Ma_compute_34 (fun i hi => by show i < 13; omega) (by rw [c9]; decide) ?_
                  refine lv_aload_n hx hb d_Ma_compute_186 rfl (lv_at hl 3 rfl) ?_
                  refine lv_iload_n hx hb d_Ma_compute_187 rfl (lv_at hl 2 rfl) ?_
                  refine lv_iload hx hb d_Ma_compute_188 (lv_at hl 1 rfl) ?_
                  refine lv_iload hx hb d_Ma_compute_190 (lv_at hl 0 rfl) ?_
                  refine lv_icmp_ge (tgt := 199) hx hb d_Ma_compute_192 (by decide) (fun c1 => ?_) (fun c1 => ?_)
                  · replace hf := hf.trans (if_pos c1)
                    replace hok := hok.1 c1
                    refine lv_iconst (v := 0) hx hb d_Ma_compute_199 (by decide) ?_
                    refine g_callVv (b := ad 5) (As := [.int (f_Ma_register G p2 24), .int 0]) (rest := []) hC hB (c_Ma_write_5 l G (f_Ma_register G p2 24) 0 O hok.1) rfl key_Ma_write rfl ins_Ma_write sel_Ma_write ml_Ma_51 (g_rec5 hB) rfl hl.1 ⟨Nat.le_of_ble_eq_true rfl, Nat.le_of_ble_eq_true rfl, Nat.le_of_ble_eq_true rfl, Nat.le_of_ble_eq_true rfl⟩ d_Ma_compute_200 (fun H locs hB => ?_)
                    replace hok := hok.2
                    refine lv_goto (tgt := 211) hx hb d_Ma_compute_203 (by decide) ?_
                    exact g_vret hC hB hr hlk (by decide) (by decide) rfl hf d_Ma_compute_211
                  · replace hf := hf.trans (if_neg c1)
                    replace hok := hok.2 c1
                    refine lv_iconst (v := 1) hx hb d_Ma_compute_195 (by decide) ?_
                    refine lv_goto (tgt := 200) hx hb d_Ma_compute_196 (by decide) ?_
                    refine g_callVv (b := ad 5) (As := [.int (f_Ma_register G p2 24), .int 1]) (rest := []) hC hB (c_Ma_write_5 l G (f_Ma_register G p2 24) 1 O hok.1) rfl key_Ma_write rfl ins_Ma_write sel_Ma_write ml_Ma_51 (g_rec5 hB) rfl hl.1 ⟨Nat.le_of_ble_eq_true rfl, Nat.le_of_ble_eq_true rfl, Nat.le_of_ble_eq_true rfl, Nat.le_of_ble_eq_true rfl⟩ d_Ma_compute_200 (fun H locs hB => ?_)
                    replace hok := hok.2
                    refine lv_goto (tgt := 211) hx hb d_Ma_compute_203 (by decide) ?_
                    exact g_vret hC hB hr hlk (by decide) (by decide) rfl hf d_Ma_compute_211
                · replace hf := hf.trans (if_neg c9)
                  replace hok := hok.2 c9
                  refine g_switch (tgt := 206) hC d_Ma_compute_34 (fun i hi => by show i < 13; omega) ?_ ?_
                  · have e0 := g_ne (k := 0) c2 (by decide)
                    have e1 := g_ne (k := 1) c3 (by decide)
                    have e2 := g_ne (k := 2) c4 (by decide)
                    have e3 := g_ne (k := 3) c5 (by decide)
                    have e4 := g_ne (k := 4) c6 (by decide)
                    have e5 := g_ne (k := 10) c7 (by decide)
                    have e6 := g_ne (k := 11) c8 (by decide)
                    have e7 := g_ne (k := 12) c9 (by decide)
                    have e : (p1).toInt < 0 ∨ (p1).toInt = 5 ∨ (p1).toInt = 6 ∨ (p1).toInt = 7 ∨ (p1).toInt = 8 ∨ (p1).toInt = 9 ∨ 12 < (p1).toInt := by omega
                    generalize (p1).toInt = z at e ⊢
                    rcases e with e | e | e | e | e | e | e
                    · rw [g_swt, if_pos (by omega)]; decide
                    · rw [e]; decide
                    · rw [e]; decide
                    · rw [e]; decide
                    · rw [e]; decide
                    · rw [e]; decide
                    · rw [g_swt, if_pos (by omega)]; decide
                  · refine lv_aload_n hx hb d_Ma_compute_206 rfl (lv_at hl 3 rfl) ?_
                    refine lv_iconst (v := 2) hx hb d_Ma_compute_207 (by decide) ?_
                    refine g_callVv (b := ad 5) (As := [.int 2]) (rest := []) hC hB (c_Ma_stop_5 l G 2 O) rfl key_Ma_stop rfl ins_Ma_stop sel_Ma_stop ml_Ma_73 (g_rec5 hB) rfl hl.1 ⟨Nat.le_of_ble_eq_true rfl, Nat.le_of_ble_eq_true rfl, Nat.le_of_ble_eq_true rfl, Nat.le_of_ble_eq_true rfl⟩ d_Ma_compute_208 (fun H locs hB => ?_)
                    exact g_vret hC hB hr hlk (by decide) (by decide) rfl hf d_Ma_compute_211
abbrev rm_Ma_moveNumbers_5 : Room := { frames := 1, cells := 0, slots := 0, locals := 15 }
def f_Ma_moveNumbers_5 (G : gT) (p1 : Int32) (p2 : Int32) : gT := (if p1 = 5 then (f_Ma_write_5 G (f_Ma_register G p2 24) (G 6 (((8 : Int32) + (((G 6 ((f_Ma_register G p2 20).toNatClampNeg)) + p2.toInt16.toInt32) &&& (255 : Int32))).toNatClampNeg))) else (if p1 = 6 then (f_Ma_write_5 G ((8 : Int32) + (((G 6 ((f_Ma_register G p2 20).toNatClampNeg)) + p2.toInt16.toInt32) &&& (255 : Int32))) (G 6 ((f_Ma_register G p2 24).toNatClampNeg))) else (if p1 = 7 then (if (G 6 ((f_Ma_register G p2 24).toNatClampNeg)) = 0 then G else (g_up G 5 1 (((G 5 8) + p2.toInt16.toInt32) &&& (63 : Int32)))) else (g_up (g_up G 5 3 ((G 5 3) + (1 : Int32))) 5 4 (((31 : Int32) * (G 5 4)) + (G 6 ((f_Ma_register G p2 24).toNatClampNeg)))))))
def ok_Ma_moveNumbers_5 (G : gT) (p1 : Int32) (p2 : Int32) : Prop := (vp_in (f_Ma_register G p2 20) 264 ∧ ((p1 = 5 → (vp_in ((8 : Int32) + (((G 6 ((f_Ma_register G p2 20).toNatClampNeg)) + p2.toInt16.toInt32) &&& (255 : Int32))) 264 ∧ (ok_Ma_write_5 G (f_Ma_register G p2 24) (G 6 (((8 : Int32) + (((G 6 ((f_Ma_register G p2 20).toNatClampNeg)) + p2.toInt16.toInt32) &&& (255 : Int32))).toNatClampNeg)) ∧ True))) ∧ (¬ p1 = 5 → ((p1 = 6 → (vp_in (f_Ma_register G p2 24) 264 ∧ (ok_Ma_write_5 G ((8 : Int32) + (((G 6 ((f_Ma_register G p2 20).toNatClampNeg)) + p2.toInt16.toInt32) &&& (255 : Int32))) (G 6 ((f_Ma_register G p2 24).toNatClampNeg)) ∧ True))) ∧ (¬ p1 = 6 → ((p1 = 7 → (vp_in (f_Ma_register G p2 24) 264 ∧ True)) ∧ (¬ p1 = 7 → (vp_in (f_Ma_register G p2 24) 264 ∧ True))))))))
set_option maxHeartbeats 4000000 in
set_option maxRecDepth 100000 in
theorem c_Ma_moveNumbers_5 (l : Launch) (G : gT) (p1 : Int32) (p2 : Int32) (O : Int64) (hok : ok_Ma_moveNumbers_5 G p1 p2) : gMet l y_Ma_moveNumbers w_Ma_moveNumbers rm_Ma_moveNumbers_5 (fun ad => [.ref (ad 5), .int p1, .int p2]) G O (.inl (none)) (f_Ma_moveNumbers_5 G p1 p2) O := by
  refine g_body (by decide) (gCode_of _ _ _ _) (fun ad => by simp [lg_sl, Value.category]) ?_
  intro p e s0 s m args below meth c D cI cL ad hC hr hlk htb hB ls hl
  have hC : CallFix p m c b_Ma_moveNumbers 6 s args gtb R_Ma := hC
  have hl : lv_has ls 6 [(0, .ref (ad 5)), (1, .int p1), (2, .int p2)] := hl
  have hx := hC.1
  have hb := hC.2.1
  have hf : f_Ma_moveNumbers_5 G p1 p2 = (if p1 = 5 then (f_Ma_write_5 G (f_Ma_register G p2 24) (G 6 (((8 : Int32) + (((G 6 ((f_Ma_register G p2 20).toNatClampNeg)) + p2.toInt16.toInt32) &&& (255 : Int32))).toNatClampNeg))) else (if p1 = 6 then (f_Ma_write_5 G ((8 : Int32) + (((G 6 ((f_Ma_register G p2 20).toNatClampNeg)) + p2.toInt16.toInt32) &&& (255 : Int32))) (G 6 ((f_Ma_register G p2 24).toNatClampNeg))) else (if p1 = 7 then (if (G 6 ((f_Ma_register G p2 24).toNatClampNeg)) = 0 then G else (g_up G 5 1 (((G 5 8) + p2.toInt16.toInt32) &&& (63 : Int32)))) else (g_up (g_up G 5 3 ((G 5 3) + (1 : Int32))) 5 4 (((31 : Int32) * (G 5 4)) + (G 6 ((f_Ma_register G p2 24).toNatClampNeg))))))) := rfl
  have hok : (vp_in (f_Ma_register G p2 20) 264 ∧ ((p1 = 5 → (vp_in ((8 : Int32) + (((G 6 ((f_Ma_register G p2 20).toNatClampNeg)) + p2.toInt16.toInt32) &&& (255 : Int32))) 264 ∧ (ok_Ma_write_5 G (f_Ma_register G p2 24) (G 6 (((8 : Int32) + (((G 6 ((f_Ma_register G p2 20).toNatClampNeg)) + p2.toInt16.toInt32) &&& (255 : Int32))).toNatClampNeg)) ∧ True))) ∧ (¬ p1 = 5 → ((p1 = 6 → (vp_in (f_Ma_register G p2 24) 264 ∧ (ok_Ma_write_5 G ((8 : Int32) + (((G 6 ((f_Ma_register G p2 20).toNatClampNeg)) + p2.toInt16.toInt32) &&& (255 : Int32))) (G 6 ((f_Ma_register G p2 24).toNatClampNeg)) ∧ True))) ∧ (¬ p1 = 6 → ((p1 = 7 → (vp_in (f_Ma_register G p2 24) 264 ∧ True)) ∧ (¬ p1 = 7 → (vp_in (f_Ma_register G p2 24) 264 ∧ True)))))))) := hok
  refine lv_iload_n hx hb d_Ma_moveNumbers_0 rfl (lv_at hl 2 rfl) ?_
  refine lv_bipush (v := 24) hx hb d_Ma_moveNumbers_1 (by decide) ?_
  refine g_callSi (As := [.int p2, .int 24]) (rest := []) hC hB (c_Ma_register l G p2 24 O) rfl key_Ma_register rfl sta_Ma_register ml_Ma_47 rfl hl.1 ⟨Nat.le_of_ble_eq_true rfl, Nat.le_of_ble_eq_true rfl, Nat.le_of_ble_eq_true rfl, Nat.le_of_ble_eq_true rfl⟩ d_Ma_moveNumbers_3 (fun H locs hB => ?_)
  refine lv_istore_n (lv' := [(3, .int (f_Ma_register G p2 24)), (0, .ref (ad 5)), (1, .int p1), (2, .int p2)]) hx hb d_Ma_moveNumbers_6 rfl hl (by decide) rfl (fun ls hl => ?_)
  refine lv_iload_n hx hb d_Ma_moveNumbers_7 rfl (lv_at hl 3 rfl) ?_
  refine lv_i2s (v := p2.toInt16.toInt32) hx hb d_Ma_moveNumbers_8 rfl ?_
  refine lv_istore (lv' := [(4, .int p2.toInt16.toInt32), (3, .int (f_Ma_register G p2 24)), (0, .ref (ad 5)), (1, .int p1), (2, .int p2)]) hx hb d_Ma_moveNumbers_9 hl (by decide) rfl (fun ls hl => ?_)
  refine lv_bipush (v := 8) hx hb d_Ma_moveNumbers_11 (by decide) ?_
  refine lv_aload_n hx hb d_Ma_moveNumbers_13 rfl (lv_at hl 2 rfl) ?_
  refine gr_5_0 hC hB fl_Ma_9 d_Ma_moveNumbers_14 ?_
  refine lv_iload_n hx hb d_Ma_moveNumbers_17 rfl (lv_at hl 4 rfl) ?_
  refine lv_bipush (v := 20) hx hb d_Ma_moveNumbers_18 (by decide) ?_
  refine g_callSi (As := [.int p2, .int 20]) (rest := [.ref (ad 6), .int 8]) hC hB (c_Ma_register l G p2 20 O) rfl key_Ma_register rfl sta_Ma_register ml_Ma_47 rfl hl.1 ⟨Nat.le_of_ble_eq_true rfl, Nat.le_of_ble_eq_true rfl, Nat.le_of_ble_eq_true rfl, Nat.le_of_ble_eq_true rfl⟩ d_Ma_moveNumbers_20 (fun H locs hB => ?_)
  refine ga_6 (x := (G 6 ((f_Ma_register G p2 20).toNatClampNeg))) hC hB hok.1 rfl d_Ma_moveNumbers_23 ?_
  replace hok := hok.2
  refine lv_iload hx hb d_Ma_moveNumbers_24 (lv_at hl 0 rfl) ?_
  refine lv_iadd hx hb d_Ma_moveNumbers_26 ?_
  refine lv_sipush (v := 255) hx hb d_Ma_moveNumbers_27 (by decide) ?_
  refine lv_iand hx hb d_Ma_moveNumbers_30 ?_
  refine lv_iadd hx hb d_Ma_moveNumbers_31 ?_
  refine lv_istore (lv' := [(5, .int ((8 : Int32) + (((G 6 ((f_Ma_register G p2 20).toNatClampNeg)) + p2.toInt16.toInt32) &&& (255 : Int32)))), (4, .int p2.toInt16.toInt32), (3, .int (f_Ma_register G p2 24)), (0, .ref (ad 5)), (1, .int p1), (2, .int p2)]) hx hb d_Ma_moveNumbers_32 hl (by decide) rfl (fun ls hl => ?_)
  refine lv_iload_n hx hb d_Ma_moveNumbers_34 rfl (lv_at hl 4 rfl) ?_
  by_cases c2 : p1 = 5
  · replace hf := hf.trans (if_pos c2)
    replace hok := hok.1 c2
    refine g_switch (tgt := 60) hC d_Ma_moveNumbers_35 (fun i hi => by show i < 3; omega) (by rw [c2]; decide) ?_
    refine lv_aload_n hx hb d_Ma_moveNumbers_60 rfl (lv_at hl 3 rfl) ?_
    refine lv_iload_n hx hb d_Ma_moveNumbers_61 rfl (lv_at hl 2 rfl) ?_
    refine lv_aload_n hx hb d_Ma_moveNumbers_62 rfl (lv_at hl 3 rfl) ?_
    refine gr_5_0 hC hB fl_Ma_9 d_Ma_moveNumbers_63 ?_
    refine lv_iload hx hb d_Ma_moveNumbers_66 (lv_at hl 0 rfl) ?_
    refine ga_6 (x := (G 6 (((8 : Int32) + (((G 6 ((f_Ma_register G p2 20).toNatClampNeg)) + p2.toInt16.toInt32) &&& (255 : Int32))).toNatClampNeg))) hC hB hok.1 rfl d_Ma_moveNumbers_68 ?_
    replace hok := hok.2
    refine g_callVv (b := ad 5) (As := [.int (f_Ma_register G p2 24), .int (G 6 (((8 : Int32) + (((G 6 ((f_Ma_register G p2 20).toNatClampNeg)) + p2.toInt16.toInt32) &&& (255 : Int32))).toNatClampNeg))]) (rest := []) hC hB (c_Ma_write_5 l G (f_Ma_register G p2 24) (G 6 (((8 : Int32) + (((G 6 ((f_Ma_register G p2 20).toNatClampNeg)) + p2.toInt16.toInt32) &&& (255 : Int32))).toNatClampNeg)) O hok.1) rfl key_Ma_write rfl ins_Ma_write sel_Ma_write ml_Ma_51 (g_rec5 hB) rfl hl.1 ⟨Nat.le_of_ble_eq_true rfl, Nat.le_of_ble_eq_true rfl, Nat.le_of_ble_eq_true rfl, Nat.le_of_ble_eq_true rfl⟩ d_Ma_moveNumbers_69 (fun H locs hB => ?_)
    replace hok := hok.2
    refine lv_goto (tgt := 144) hx hb d_Ma_moveNumbers_72 (by decide) ?_
    exact g_vret hC hB hr hlk (by decide) (by decide) rfl hf d_Ma_moveNumbers_144
  · replace hf := hf.trans (if_neg c2)
    replace hok := hok.2 c2
    by_cases c3 : p1 = 6
    · replace hf := hf.trans (if_pos c3)
      replace hok := hok.1 c3
      refine g_switch (tgt := 75) hC d_Ma_moveNumbers_35 (fun i hi => by show i < 3; omega) (by rw [c3]; decide) ?_
      refine lv_aload_n hx hb d_Ma_moveNumbers_75 rfl (lv_at hl 3 rfl) ?_
      refine lv_iload hx hb d_Ma_moveNumbers_76 (lv_at hl 0 rfl) ?_
      refine lv_aload_n hx hb d_Ma_moveNumbers_78 rfl (lv_at hl 3 rfl) ?_
      refine gr_5_0 hC hB fl_Ma_9 d_Ma_moveNumbers_79 ?_
      refine lv_iload_n hx hb d_Ma_moveNumbers_82 rfl (lv_at hl 2 rfl) ?_
      refine ga_6 (x := (G 6 ((f_Ma_register G p2 24).toNatClampNeg))) hC hB hok.1 rfl d_Ma_moveNumbers_83 ?_
      replace hok := hok.2
      refine g_callVv (b := ad 5) (As := [.int ((8 : Int32) + (((G 6 ((f_Ma_register G p2 20).toNatClampNeg)) + p2.toInt16.toInt32) &&& (255 : Int32))), .int (G 6 ((f_Ma_register G p2 24).toNatClampNeg))]) (rest := []) hC hB (c_Ma_write_5 l G ((8 : Int32) + (((G 6 ((f_Ma_register G p2 20).toNatClampNeg)) + p2.toInt16.toInt32) &&& (255 : Int32))) (G 6 ((f_Ma_register G p2 24).toNatClampNeg)) O hok.1) rfl key_Ma_write rfl ins_Ma_write sel_Ma_write ml_Ma_51 (g_rec5 hB) rfl hl.1 ⟨Nat.le_of_ble_eq_true rfl, Nat.le_of_ble_eq_true rfl, Nat.le_of_ble_eq_true rfl, Nat.le_of_ble_eq_true rfl⟩ d_Ma_moveNumbers_84 (fun H locs hB => ?_)
      replace hok := hok.2
      refine lv_goto (tgt := 144) hx hb d_Ma_moveNumbers_87 (by decide) ?_
      exact g_vret hC hB hr hlk (by decide) (by decide) rfl hf d_Ma_moveNumbers_144
    · replace hf := hf.trans (if_neg c3)
      replace hok := hok.2 c3
      by_cases c4 : p1 = 7
      · replace hf := hf.trans (if_pos c4)
        replace hok := hok.1 c4
        refine g_switch (tgt := 90) hC d_Ma_moveNumbers_35 (fun i hi => by show i < 3; omega) (by rw [c4]; decide) ?_
        refine lv_aload_n hx hb d_Ma_moveNumbers_90 rfl (lv_at hl 3 rfl) ?_
        refine gr_5_0 hC hB fl_Ma_9 d_Ma_moveNumbers_91 ?_
        refine lv_iload_n hx hb d_Ma_moveNumbers_94 rfl (lv_at hl 2 rfl) ?_
        refine ga_6 (x := (G 6 ((f_Ma_register G p2 24).toNatClampNeg))) hC hB hok.1 rfl d_Ma_moveNumbers_95 ?_
        replace hok := hok.2
        refine lv_if_eq (tgt := 144) hx hb d_Ma_moveNumbers_96 (by decide) (fun c1 => ?_) (fun c1 => ?_)
        · replace hf := hf.trans (if_pos c1)
          exact g_vret hC hB hr hlk (by decide) (by decide) rfl hf d_Ma_moveNumbers_144
        · replace hf := hf.trans (if_neg c1)
          refine lv_aload_n hx hb d_Ma_moveNumbers_99 rfl (lv_at hl 3 rfl) ?_
          refine lv_aload_n hx hb d_Ma_moveNumbers_100 rfl (lv_at hl 3 rfl) ?_
          refine gg_5_8 (x := (G 5 8)) hC hB rfl fl_Ma_61 d_Ma_moveNumbers_101 ?_
          refine lv_iload hx hb d_Ma_moveNumbers_104 (lv_at hl 1 rfl) ?_
          refine lv_iadd hx hb d_Ma_moveNumbers_106 ?_
          refine lv_bipush (v := 63) hx hb d_Ma_moveNumbers_107 (by decide) ?_
          refine lv_iand hx hb d_Ma_moveNumbers_109 ?_
          refine gp_5_1 hC hB fl_Ma_28 d_Ma_moveNumbers_110 (fun H locs hB => ?_)
          refine lv_goto (tgt := 144) hx hb d_Ma_moveNumbers_113 (by decide) ?_
          exact g_vret hC hB hr hlk (by decide) (by decide) rfl hf d_Ma_moveNumbers_144
      · replace hf := hf.trans (if_neg c4)
        replace hok := hok.2 c4
        refine g_switch (tgt := 116) hC d_Ma_moveNumbers_35 (fun i hi => by show i < 3; omega) ?_ ?_
        · have e0 := g_ne (k := 5) c2 (by decide)
          have e1 := g_ne (k := 6) c3 (by decide)
          have e2 := g_ne (k := 7) c4 (by decide)
          have e : (p1).toInt < 5 ∨ 7 < (p1).toInt := by omega
          generalize (p1).toInt = z at e ⊢
          rcases e with e | e
          · rw [g_swt, if_pos (by omega)]; decide
          · rw [g_swt, if_pos (by omega)]; decide
        · refine lv_aload_n hx hb d_Ma_moveNumbers_116 rfl (lv_at hl 3 rfl) ?_
          refine lv_dup hx hb d_Ma_moveNumbers_117 rfl ?_
          refine gg_5_3 (x := (G 5 3)) hC hB rfl fl_Ma_34 d_Ma_moveNumbers_118 ?_
          refine lv_iconst (v := 1) hx hb d_Ma_moveNumbers_121 (by decide) ?_
          refine lv_iadd hx hb d_Ma_moveNumbers_122 ?_
          refine gp_5_3 hC hB fl_Ma_34 d_Ma_moveNumbers_123 (fun H locs hB => ?_)
          refine lv_aload_n hx hb d_Ma_moveNumbers_126 rfl (lv_at hl 3 rfl) ?_
          refine lv_bipush (v := 31) hx hb d_Ma_moveNumbers_127 (by decide) ?_
          refine lv_aload_n hx hb d_Ma_moveNumbers_129 rfl (lv_at hl 3 rfl) ?_
          refine gg_5_4 (x := (G 5 4)) hC hB rfl fl_Ma_37 d_Ma_moveNumbers_130 ?_
          refine lv_imul hx hb d_Ma_moveNumbers_133 ?_
          refine lv_aload_n hx hb d_Ma_moveNumbers_134 rfl (lv_at hl 3 rfl) ?_
          refine gr_5_0 hC hB fl_Ma_9 d_Ma_moveNumbers_135 ?_
          refine lv_iload_n hx hb d_Ma_moveNumbers_138 rfl (lv_at hl 2 rfl) ?_
          refine ga_6 (x := (G 6 ((f_Ma_register G p2 24).toNatClampNeg))) hC hB hok.1 rfl d_Ma_moveNumbers_139 ?_
          replace hok := hok.2
          refine lv_iadd hx hb d_Ma_moveNumbers_140 ?_
          refine gp_5_4 hC hB fl_Ma_37 d_Ma_moveNumbers_141 (fun H locs hB => ?_)
          exact g_vret hC hB hr hlk (by decide) (by decide) rfl hf d_Ma_moveNumbers_144
abbrev rm_Ma_advance_5 : Room := { frames := 2, cells := 0, slots := 0, locals := 32 }
def f_Ma_advance_5 (G : gT) (p3 : Int32) : Int32 × gT := (if (G 5 5) = 0 then (if (f_Ma_wouldWait_5 G p3) = 0 then (if (g_ush (G 1 ((G 5 1).toNatClampNeg)) 28) = 8 then (1, (g_up (f_Ma_write_5 (g_up (f_Ma_rememberBefore_5 G) 5 1 ((((f_Ma_rememberBefore_5 G) 5 1) + (1 : Int32)) &&& (63 : Int32))) (f_Ma_register (g_up (f_Ma_rememberBefore_5 G) 5 1 ((((f_Ma_rememberBefore_5 G) 5 1) + (1 : Int32)) &&& (63 : Int32))) (G 1 ((G 5 1).toNatClampNeg)) 24) ((f_Ma_rememberBefore_5 G) 2 (((f_Ma_rememberBefore_5 G) 5 2).toNatClampNeg))) 5 2 (((f_Ma_write_5 (g_up (f_Ma_rememberBefore_5 G) 5 1 ((((f_Ma_rememberBefore_5 G) 5 1) + (1 : Int32)) &&& (63 : Int32))) (f_Ma_register (g_up (f_Ma_rememberBefore_5 G) 5 1 ((((f_Ma_rememberBefore_5 G) 5 1) + (1 : Int32)) &&& (63 : Int32))) (G 1 ((G 5 1).toNatClampNeg)) 24) ((f_Ma_rememberBefore_5 G) 2 (((f_Ma_rememberBefore_5 G) 5 2).toNatClampNeg))) 5 2) + (1 : Int32)))) else (if (g_ush (G 1 ((G 5 1).toNatClampNeg)) 28) < 5 then (1, (f_Ma_compute_5 (g_up (f_Ma_rememberBefore_5 G) 5 1 ((((f_Ma_rememberBefore_5 G) 5 1) + (1 : Int32)) &&& (63 : Int32))) (g_ush (G 1 ((G 5 1).toNatClampNeg)) 28) (G 1 ((G 5 1).toNatClampNeg)))) else (if (9 : Int32) < (g_ush (G 1 ((G 5 1).toNatClampNeg)) 28) then (1, (f_Ma_compute_5 (g_up (f_Ma_rememberBefore_5 G) 5 1 ((((f_Ma_rememberBefore_5 G) 5 1) + (1 : Int32)) &&& (63 : Int32))) (g_ush (G 1 ((G 5 1).toNatClampNeg)) 28) (G 1 ((G 5 1).toNatClampNeg)))) else (1, (f_Ma_moveNumbers_5 (g_up (f_Ma_rememberBefore_5 G) 5 1 ((((f_Ma_rememberBefore_5 G) 5 1) + (1 : Int32)) &&& (63 : Int32))) (g_ush (G 1 ((G 5 1).toNatClampNeg)) 28) (G 1 ((G 5 1).toNatClampNeg))))))) else (0, G)) else (0, G))
def ok_Ma_advance_5 (G : gT) (p3 : Int32) : Prop := (((G 5 5) = 0 → (ok_Ma_wouldWait_5 G p3 ∧ (((f_Ma_wouldWait_5 G p3) = 0 → (vp_in (G 5 1) 64 ∧ (((g_ush (G 1 ((G 5 1).toNatClampNeg)) 28) = 8 → (vp_in ((f_Ma_rememberBefore_5 G) 5 2) 200 ∧ (ok_Ma_write_5 (g_up (f_Ma_rememberBefore_5 G) 5 1 ((((f_Ma_rememberBefore_5 G) 5 1) + (1 : Int32)) &&& (63 : Int32))) (f_Ma_register (g_up (f_Ma_rememberBefore_5 G) 5 1 ((((f_Ma_rememberBefore_5 G) 5 1) + (1 : Int32)) &&& (63 : Int32))) (G 1 ((G 5 1).toNatClampNeg)) 24) ((f_Ma_rememberBefore_5 G) 2 (((f_Ma_rememberBefore_5 G) 5 2).toNatClampNeg)) ∧ True))) ∧ (¬ (g_ush (G 1 ((G 5 1).toNatClampNeg)) 28) = 8 → (((g_ush (G 1 ((G 5 1).toNatClampNeg)) 28) < 5 → (ok_Ma_compute_5 (g_up (f_Ma_rememberBefore_5 G) 5 1 ((((f_Ma_rememberBefore_5 G) 5 1) + (1 : Int32)) &&& (63 : Int32))) (g_ush (G 1 ((G 5 1).toNatClampNeg)) 28) (G 1 ((G 5 1).toNatClampNeg)) ∧ True)) ∧ (¬ (g_ush (G 1 ((G 5 1).toNatClampNeg)) 28) < 5 → (((9 : Int32) < (g_ush (G 1 ((G 5 1).toNatClampNeg)) 28) → (ok_Ma_compute_5 (g_up (f_Ma_rememberBefore_5 G) 5 1 ((((f_Ma_rememberBefore_5 G) 5 1) + (1 : Int32)) &&& (63 : Int32))) (g_ush (G 1 ((G 5 1).toNatClampNeg)) 28) (G 1 ((G 5 1).toNatClampNeg)) ∧ True)) ∧ (¬ (9 : Int32) < (g_ush (G 1 ((G 5 1).toNatClampNeg)) 28) → (ok_Ma_moveNumbers_5 (g_up (f_Ma_rememberBefore_5 G) 5 1 ((((f_Ma_rememberBefore_5 G) 5 1) + (1 : Int32)) &&& (63 : Int32))) (g_ush (G 1 ((G 5 1).toNatClampNeg)) 28) (G 1 ((G 5 1).toNatClampNeg)) ∧ True))))))))) ∧ (¬ (f_Ma_wouldWait_5 G p3) = 0 → True)))) ∧ (¬ (G 5 5) = 0 → True))
set_option maxHeartbeats 4000000 in
set_option maxRecDepth 100000 in
theorem c_Ma_advance_5 (l : Launch) (G : gT) (p3 : Int32) (O : Int64) (hok : ok_Ma_advance_5 G p3) : gMet l y_Ma_advance w_Ma_advance rm_Ma_advance_5 (fun ad => [.ref (ad 5), .ref (ad 1), .ref (ad 2), .int p3]) G O (.inl (some (.int (f_Ma_advance_5 G p3).1))) ((f_Ma_advance_5 G p3).2) O := by
  refine g_body (by decide) (gCode_of _ _ _ _) (fun ad => by simp [lg_sl, Value.category]) ?_
  intro p e s0 s m args below meth c D cI cL ad hC hr hlk htb hB ls hl
  have hC : CallFix p m c b_Ma_advance 6 s args gtb R_Ma := hC
  have hl : lv_has ls 6 [(0, .ref (ad 5)), (1, .ref (ad 1)), (2, .ref (ad 2)), (3, .int p3)] := hl
  have hx := hC.1
  have hb := hC.2.1
  have hf : f_Ma_advance_5 G p3 = (if (G 5 5) = 0 then (if (f_Ma_wouldWait_5 G p3) = 0 then (if (g_ush (G 1 ((G 5 1).toNatClampNeg)) 28) = 8 then (1, (g_up (f_Ma_write_5 (g_up (f_Ma_rememberBefore_5 G) 5 1 ((((f_Ma_rememberBefore_5 G) 5 1) + (1 : Int32)) &&& (63 : Int32))) (f_Ma_register (g_up (f_Ma_rememberBefore_5 G) 5 1 ((((f_Ma_rememberBefore_5 G) 5 1) + (1 : Int32)) &&& (63 : Int32))) (G 1 ((G 5 1).toNatClampNeg)) 24) ((f_Ma_rememberBefore_5 G) 2 (((f_Ma_rememberBefore_5 G) 5 2).toNatClampNeg))) 5 2 (((f_Ma_write_5 (g_up (f_Ma_rememberBefore_5 G) 5 1 ((((f_Ma_rememberBefore_5 G) 5 1) + (1 : Int32)) &&& (63 : Int32))) (f_Ma_register (g_up (f_Ma_rememberBefore_5 G) 5 1 ((((f_Ma_rememberBefore_5 G) 5 1) + (1 : Int32)) &&& (63 : Int32))) (G 1 ((G 5 1).toNatClampNeg)) 24) ((f_Ma_rememberBefore_5 G) 2 (((f_Ma_rememberBefore_5 G) 5 2).toNatClampNeg))) 5 2) + (1 : Int32)))) else (if (g_ush (G 1 ((G 5 1).toNatClampNeg)) 28) < 5 then (1, (f_Ma_compute_5 (g_up (f_Ma_rememberBefore_5 G) 5 1 ((((f_Ma_rememberBefore_5 G) 5 1) + (1 : Int32)) &&& (63 : Int32))) (g_ush (G 1 ((G 5 1).toNatClampNeg)) 28) (G 1 ((G 5 1).toNatClampNeg)))) else (if (9 : Int32) < (g_ush (G 1 ((G 5 1).toNatClampNeg)) 28) then (1, (f_Ma_compute_5 (g_up (f_Ma_rememberBefore_5 G) 5 1 ((((f_Ma_rememberBefore_5 G) 5 1) + (1 : Int32)) &&& (63 : Int32))) (g_ush (G 1 ((G 5 1).toNatClampNeg)) 28) (G 1 ((G 5 1).toNatClampNeg)))) else (1, (f_Ma_moveNumbers_5 (g_up (f_Ma_rememberBefore_5 G) 5 1 ((((f_Ma_rememberBefore_5 G) 5 1) + (1 : Int32)) &&& (63 : Int32))) (g_ush (G 1 ((G 5 1).toNatClampNeg)) 28) (G 1 ((G 5 1).toNatClampNeg))))))) else (0, G)) else (0, G)) := rfl
  have hok : (((G 5 5) = 0 → (ok_Ma_wouldWait_5 G p3 ∧ (((f_Ma_wouldWait_5 G p3) = 0 → (vp_in (G 5 1) 64 ∧ (((g_ush (G 1 ((G 5 1).toNatClampNeg)) 28) = 8 → (vp_in ((f_Ma_rememberBefore_5 G) 5 2) 200 ∧ (ok_Ma_write_5 (g_up (f_Ma_rememberBefore_5 G) 5 1 ((((f_Ma_rememberBefore_5 G) 5 1) + (1 : Int32)) &&& (63 : Int32))) (f_Ma_register (g_up (f_Ma_rememberBefore_5 G) 5 1 ((((f_Ma_rememberBefore_5 G) 5 1) + (1 : Int32)) &&& (63 : Int32))) (G 1 ((G 5 1).toNatClampNeg)) 24) ((f_Ma_rememberBefore_5 G) 2 (((f_Ma_rememberBefore_5 G) 5 2).toNatClampNeg)) ∧ True))) ∧ (¬ (g_ush (G 1 ((G 5 1).toNatClampNeg)) 28) = 8 → (((g_ush (G 1 ((G 5 1).toNatClampNeg)) 28) < 5 → (ok_Ma_compute_5 (g_up (f_Ma_rememberBefore_5 G) 5 1 ((((f_Ma_rememberBefore_5 G) 5 1) + (1 : Int32)) &&& (63 : Int32))) (g_ush (G 1 ((G 5 1).toNatClampNeg)) 28) (G 1 ((G 5 1).toNatClampNeg)) ∧ True)) ∧ (¬ (g_ush (G 1 ((G 5 1).toNatClampNeg)) 28) < 5 → (((9 : Int32) < (g_ush (G 1 ((G 5 1).toNatClampNeg)) 28) → (ok_Ma_compute_5 (g_up (f_Ma_rememberBefore_5 G) 5 1 ((((f_Ma_rememberBefore_5 G) 5 1) + (1 : Int32)) &&& (63 : Int32))) (g_ush (G 1 ((G 5 1).toNatClampNeg)) 28) (G 1 ((G 5 1).toNatClampNeg)) ∧ True)) ∧ (¬ (9 : Int32) < (g_ush (G 1 ((G 5 1).toNatClampNeg)) 28) → (ok_Ma_moveNumbers_5 (g_up (f_Ma_rememberBefore_5 G) 5 1 ((((f_Ma_rememberBefore_5 G) 5 1) + (1 : Int32)) &&& (63 : Int32))) (g_ush (G 1 ((G 5 1).toNatClampNeg)) 28) (G 1 ((G 5 1).toNatClampNeg)) ∧ True))))))))) ∧ (¬ (f_Ma_wouldWait_5 G p3) = 0 → True)))) ∧ (¬ (G 5 5) = 0 → True)) := hok
  refine lv_aload_n hx hb d_Ma_advance_0 rfl (lv_at hl 0 rfl) ?_
  refine gg_5_5 (x := (G 5 5)) hC hB rfl fl_Ma_15 d_Ma_advance_1 ?_
  refine lv_if_ne (tgt := 16) hx hb d_Ma_advance_4 (by decide) (fun c1 => ?_) (fun c1 => ?_)
  · replace hf := hf.trans (if_neg c1)
    replace hok := hok.2 c1
    refine lv_iconst (v := 0) hx hb d_Ma_advance_16 (by decide) ?_
    exact g_zret hC hB hr hlk (by decide) (by decide) (by decide) (by rw [hf]) (by rw [hf]) d_Ma_advance_17
  · replace hf := hf.trans (if_pos c1)
    replace hok := hok.1 c1
    refine lv_aload_n hx hb d_Ma_advance_7 rfl (lv_at hl 0 rfl) ?_
    refine lv_aload_n hx hb d_Ma_advance_8 rfl (lv_at hl 1 rfl) ?_
    refine lv_iload_n hx hb d_Ma_advance_9 rfl (lv_at hl 3 rfl) ?_
    refine g_callVi (b := ad 5) (As := [.ref (ad 1), .int p3]) (rest := []) hC hB (c_Ma_wouldWait_5 l G p3 O hok.1) rfl key_Ma_wouldWait rfl ins_Ma_wouldWait sel_Ma_wouldWait ml_Ma_40 (g_rec5 hB) rfl hl.1 ⟨Nat.le_of_ble_eq_true rfl, Nat.le_of_ble_eq_true rfl, Nat.le_of_ble_eq_true rfl, Nat.le_of_ble_eq_true rfl⟩ d_Ma_advance_10 (fun H locs hB => ?_)
    replace hok := hok.2
    refine lv_if_eq (tgt := 18) hx hb d_Ma_advance_13 (by decide) (fun c2 => ?_) (fun c2 => ?_)
    · replace hf := hf.trans (if_pos c2)
      replace hok := hok.1 c2
      refine lv_aload_n hx hb d_Ma_advance_18 rfl (lv_at hl 1 rfl) ?_
      refine lv_aload_n hx hb d_Ma_advance_19 rfl (lv_at hl 0 rfl) ?_
      refine gg_5_1 (x := (G 5 1)) hC hB rfl fl_Ma_28 d_Ma_advance_20 ?_
      refine ga_1 (x := (G 1 ((G 5 1).toNatClampNeg))) hC hB hok.1 rfl d_Ma_advance_23 ?_
      replace hok := hok.2
      refine lv_istore (lv' := [(4, .int (G 1 ((G 5 1).toNatClampNeg))), (0, .ref (ad 5)), (1, .ref (ad 1)), (2, .ref (ad 2)), (3, .int p3)]) hx hb d_Ma_advance_24 hl (by decide) rfl (fun ls hl => ?_)
      refine lv_aload_n hx hb d_Ma_advance_26 rfl (lv_at hl 1 rfl) ?_
      refine g_callVv (b := ad 5) (As := []) (rest := []) hC hB (c_Ma_rememberBefore_5 l G O) rfl key_Ma_rememberBefore rfl ins_Ma_rememberBefore sel_Ma_rememberBefore ml_Ma_44 (g_rec5 hB) rfl hl.1 ⟨Nat.le_of_ble_eq_true rfl, Nat.le_of_ble_eq_true rfl, Nat.le_of_ble_eq_true rfl, Nat.le_of_ble_eq_true rfl⟩ d_Ma_advance_27 (fun H locs hB => ?_)
      refine lv_aload_n hx hb d_Ma_advance_30 rfl (lv_at hl 1 rfl) ?_
      refine lv_aload_n hx hb d_Ma_advance_31 rfl (lv_at hl 1 rfl) ?_
      refine gg_5_1 (x := ((f_Ma_rememberBefore_5 G) 5 1)) hC hB rfl fl_Ma_28 d_Ma_advance_32 ?_
      refine lv_iconst (v := 1) hx hb d_Ma_advance_35 (by decide) ?_
      refine lv_iadd hx hb d_Ma_advance_36 ?_
      refine lv_bipush (v := 63) hx hb d_Ma_advance_37 (by decide) ?_
      refine lv_iand hx hb d_Ma_advance_39 ?_
      refine gp_5_1 hC hB fl_Ma_28 d_Ma_advance_40 (fun H locs hB => ?_)
      refine lv_iload hx hb d_Ma_advance_43 (lv_at hl 0 rfl) ?_
      refine lv_bipush (v := 28) hx hb d_Ma_advance_45 (by decide) ?_
      refine lv_iushr (v := g_ush (G 1 ((G 5 1).toNatClampNeg)) 28) hx hb d_Ma_advance_47 rfl ?_
      refine lv_istore (lv' := [(5, .int (g_ush (G 1 ((G 5 1).toNatClampNeg)) 28)), (4, .int (G 1 ((G 5 1).toNatClampNeg))), (0, .ref (ad 5)), (1, .ref (ad 1)), (2, .ref (ad 2)), (3, .int p3)]) hx hb d_Ma_advance_48 hl (by decide) rfl (fun ls hl => ?_)
      refine lv_iload hx hb d_Ma_advance_50 (lv_at hl 0 rfl) ?_
      refine lv_bipush (v := 8) hx hb d_Ma_advance_52 (by decide) ?_
      refine lv_icmp_ne (tgt := 87) hx hb d_Ma_advance_54 (by decide) (fun c3 => ?_) (fun c3 => ?_)
      · replace hf := hf.trans (if_neg c3)
        replace hok := hok.2 c3
        refine lv_iload hx hb d_Ma_advance_87 (lv_at hl 0 rfl) ?_
        refine lv_iconst (v := 5) hx hb d_Ma_advance_89 (by decide) ?_
        refine lv_icmp_lt (tgt := 111) hx hb d_Ma_advance_90 (by decide) (fun c4 => ?_) (fun c4 => ?_)
        · replace hf := hf.trans (if_pos c4)
          replace hok := hok.1 c4
          refine lv_aload_n hx hb d_Ma_advance_111 rfl (lv_at hl 2 rfl) ?_
          refine lv_iload hx hb d_Ma_advance_112 (lv_at hl 0 rfl) ?_
          refine lv_iload hx hb d_Ma_advance_114 (lv_at hl 1 rfl) ?_
          refine g_callVv (b := ad 5) (As := [.int (g_ush (G 1 ((G 5 1).toNatClampNeg)) 28), .int (G 1 ((G 5 1).toNatClampNeg))]) (rest := []) hC hB (c_Ma_compute_5 l (g_up (f_Ma_rememberBefore_5 G) 5 1 ((((f_Ma_rememberBefore_5 G) 5 1) + (1 : Int32)) &&& (63 : Int32))) (g_ush (G 1 ((G 5 1).toNatClampNeg)) 28) (G 1 ((G 5 1).toNatClampNeg)) O hok.1) rfl key_Ma_compute rfl ins_Ma_compute sel_Ma_compute ml_Ma_58 (g_rec5 hB) rfl hl.1 ⟨Nat.le_of_ble_eq_true rfl, Nat.le_of_ble_eq_true rfl, Nat.le_of_ble_eq_true rfl, Nat.le_of_ble_eq_true rfl⟩ d_Ma_advance_116 (fun H locs hB => ?_)
          replace hok := hok.2
          refine lv_iconst (v := 1) hx hb d_Ma_advance_119 (by decide) ?_
          exact g_zret hC hB hr hlk (by decide) (by decide) (by decide) (by rw [hf]) (by rw [hf]) d_Ma_advance_120
        · replace hf := hf.trans (if_neg c4)
          replace hok := hok.2 c4
          refine lv_iload hx hb d_Ma_advance_93 (lv_at hl 0 rfl) ?_
          refine lv_bipush (v := 9) hx hb d_Ma_advance_95 (by decide) ?_
          refine lv_icmp_gt (tgt := 111) hx hb d_Ma_advance_97 (by decide) (fun c5 => ?_) (fun c5 => ?_)
          · replace hf := hf.trans (if_pos c5)
            replace hok := hok.1 c5
            refine lv_aload_n hx hb d_Ma_advance_111 rfl (lv_at hl 2 rfl) ?_
            refine lv_iload hx hb d_Ma_advance_112 (lv_at hl 0 rfl) ?_
            refine lv_iload hx hb d_Ma_advance_114 (lv_at hl 1 rfl) ?_
            refine g_callVv (b := ad 5) (As := [.int (g_ush (G 1 ((G 5 1).toNatClampNeg)) 28), .int (G 1 ((G 5 1).toNatClampNeg))]) (rest := []) hC hB (c_Ma_compute_5 l (g_up (f_Ma_rememberBefore_5 G) 5 1 ((((f_Ma_rememberBefore_5 G) 5 1) + (1 : Int32)) &&& (63 : Int32))) (g_ush (G 1 ((G 5 1).toNatClampNeg)) 28) (G 1 ((G 5 1).toNatClampNeg)) O hok.1) rfl key_Ma_compute rfl ins_Ma_compute sel_Ma_compute ml_Ma_58 (g_rec5 hB) rfl hl.1 ⟨Nat.le_of_ble_eq_true rfl, Nat.le_of_ble_eq_true rfl, Nat.le_of_ble_eq_true rfl, Nat.le_of_ble_eq_true rfl⟩ d_Ma_advance_116 (fun H locs hB => ?_)
            replace hok := hok.2
            refine lv_iconst (v := 1) hx hb d_Ma_advance_119 (by decide) ?_
            exact g_zret hC hB hr hlk (by decide) (by decide) (by decide) (by rw [hf]) (by rw [hf]) d_Ma_advance_120
          · replace hf := hf.trans (if_neg c5)
            replace hok := hok.2 c5
            refine lv_aload_n hx hb d_Ma_advance_100 rfl (lv_at hl 2 rfl) ?_
            refine lv_iload hx hb d_Ma_advance_101 (lv_at hl 0 rfl) ?_
            refine lv_iload hx hb d_Ma_advance_103 (lv_at hl 1 rfl) ?_
            refine g_callVv (b := ad 5) (As := [.int (g_ush (G 1 ((G 5 1).toNatClampNeg)) 28), .int (G 1 ((G 5 1).toNatClampNeg))]) (rest := []) hC hB (c_Ma_moveNumbers_5 l (g_up (f_Ma_rememberBefore_5 G) 5 1 ((((f_Ma_rememberBefore_5 G) 5 1) + (1 : Int32)) &&& (63 : Int32))) (g_ush (G 1 ((G 5 1).toNatClampNeg)) 28) (G 1 ((G 5 1).toNatClampNeg)) O hok.1) rfl key_Ma_moveNumbers rfl ins_Ma_moveNumbers sel_Ma_moveNumbers ml_Ma_55 (g_rec5 hB) rfl hl.1 ⟨Nat.le_of_ble_eq_true rfl, Nat.le_of_ble_eq_true rfl, Nat.le_of_ble_eq_true rfl, Nat.le_of_ble_eq_true rfl⟩ d_Ma_advance_105 (fun H locs hB => ?_)
            replace hok := hok.2
            refine lv_goto (tgt := 119) hx hb d_Ma_advance_108 (by decide) ?_
            refine lv_iconst (v := 1) hx hb d_Ma_advance_119 (by decide) ?_
            exact g_zret hC hB hr hlk (by decide) (by decide) (by decide) (by rw [hf]) (by rw [hf]) d_Ma_advance_120
      · replace hf := hf.trans (if_pos c3)
        replace hok := hok.1 c3
        refine lv_aload_n hx hb d_Ma_advance_57 rfl (lv_at hl 2 rfl) ?_
        refine lv_iload hx hb d_Ma_advance_58 (lv_at hl 1 rfl) ?_
        refine lv_bipush (v := 24) hx hb d_Ma_advance_60 (by decide) ?_
        refine g_callSi (As := [.int (G 1 ((G 5 1).toNatClampNeg)), .int 24]) (rest := [.ref (ad 5)]) hC hB (c_Ma_register l (g_up (f_Ma_rememberBefore_5 G) 5 1 ((((f_Ma_rememberBefore_5 G) 5 1) + (1 : Int32)) &&& (63 : Int32))) (G 1 ((G 5 1).toNatClampNeg)) 24 O) rfl key_Ma_register rfl sta_Ma_register ml_Ma_47 rfl hl.1 ⟨Nat.le_of_ble_eq_true rfl, Nat.le_of_ble_eq_true rfl, Nat.le_of_ble_eq_true rfl, Nat.le_of_ble_eq_true rfl⟩ d_Ma_advance_62 (fun H locs hB => ?_)
        refine lv_aload_n hx hb d_Ma_advance_65 rfl (lv_at hl 4 rfl) ?_
        refine lv_aload_n hx hb d_Ma_advance_66 rfl (lv_at hl 2 rfl) ?_
        refine gg_5_2 (x := ((f_Ma_rememberBefore_5 G) 5 2)) hC hB rfl fl_Ma_31 d_Ma_advance_67 ?_
        refine ga_2 (x := ((f_Ma_rememberBefore_5 G) 2 (((f_Ma_rememberBefore_5 G) 5 2).toNatClampNeg))) hC hB hok.1 rfl d_Ma_advance_70 ?_
        replace hok := hok.2
        refine g_callVv (b := ad 5) (As := [.int (f_Ma_register (g_up (f_Ma_rememberBefore_5 G) 5 1 ((((f_Ma_rememberBefore_5 G) 5 1) + (1 : Int32)) &&& (63 : Int32))) (G 1 ((G 5 1).toNatClampNeg)) 24), .int ((f_Ma_rememberBefore_5 G) 2 (((f_Ma_rememberBefore_5 G) 5 2).toNatClampNeg))]) (rest := []) hC hB (c_Ma_write_5 l (g_up (f_Ma_rememberBefore_5 G) 5 1 ((((f_Ma_rememberBefore_5 G) 5 1) + (1 : Int32)) &&& (63 : Int32))) (f_Ma_register (g_up (f_Ma_rememberBefore_5 G) 5 1 ((((f_Ma_rememberBefore_5 G) 5 1) + (1 : Int32)) &&& (63 : Int32))) (G 1 ((G 5 1).toNatClampNeg)) 24) ((f_Ma_rememberBefore_5 G) 2 (((f_Ma_rememberBefore_5 G) 5 2).toNatClampNeg)) O hok.1) rfl key_Ma_write rfl ins_Ma_write sel_Ma_write ml_Ma_51 (g_rec5 hB) rfl hl.1 ⟨Nat.le_of_ble_eq_true rfl, Nat.le_of_ble_eq_true rfl, Nat.le_of_ble_eq_true rfl, Nat.le_of_ble_eq_true rfl⟩ d_Ma_advance_71 (fun H locs hB => ?_)
        replace hok := hok.2
        refine lv_aload_n hx hb d_Ma_advance_74 rfl (lv_at hl 2 rfl) ?_
        refine lv_dup hx hb d_Ma_advance_75 rfl ?_
        refine gg_5_2 (x := ((f_Ma_write_5 (g_up (f_Ma_rememberBefore_5 G) 5 1 ((((f_Ma_rememberBefore_5 G) 5 1) + (1 : Int32)) &&& (63 : Int32))) (f_Ma_register (g_up (f_Ma_rememberBefore_5 G) 5 1 ((((f_Ma_rememberBefore_5 G) 5 1) + (1 : Int32)) &&& (63 : Int32))) (G 1 ((G 5 1).toNatClampNeg)) 24) ((f_Ma_rememberBefore_5 G) 2 (((f_Ma_rememberBefore_5 G) 5 2).toNatClampNeg))) 5 2)) hC hB rfl fl_Ma_31 d_Ma_advance_76 ?_
        refine lv_iconst (v := 1) hx hb d_Ma_advance_79 (by decide) ?_
        refine lv_iadd hx hb d_Ma_advance_80 ?_
        refine gp_5_2 hC hB fl_Ma_31 d_Ma_advance_81 (fun H locs hB => ?_)
        refine lv_goto (tgt := 119) hx hb d_Ma_advance_84 (by decide) ?_
        refine lv_iconst (v := 1) hx hb d_Ma_advance_119 (by decide) ?_
        exact g_zret hC hB hr hlk (by decide) (by decide) (by decide) (by rw [hf]) (by rw [hf]) d_Ma_advance_120
    · replace hf := hf.trans (if_neg c2)
      replace hok := hok.2 c2
      refine lv_iconst (v := 0) hx hb d_Ma_advance_16 (by decide) ?_
      exact g_zret hC hB hr hlk (by decide) (by decide) (by decide) (by rw [hf]) (by rw [hf]) d_Ma_advance_17
abbrev rm_Ma_rest_5 : Room := { frames := 0, cells := 0, slots := 0, locals := 0 }
def f_Ma_rest_5 (G : gT) (p1 : Int32) : Int32 := (if p1 = 264 then (G 5 1) else (if p1 = 265 then (G 5 2) else (if p1 = 266 then (G 5 3) else (if p1 = 267 then (G 5 4) else (G 5 5)))))
set_option maxHeartbeats 4000000 in
set_option maxRecDepth 100000 in
theorem c_Ma_rest_5 (l : Launch) (G : gT) (p1 : Int32) (O : Int64) : gMet l y_Ma_rest w_Ma_rest rm_Ma_rest_5 (fun ad => [.ref (ad 5), .int p1]) G O (.inl (some (.int (f_Ma_rest_5 G p1)))) G O := by
  refine g_body (by decide) (gCode_of _ _ _ _) (fun ad => by simp [lg_sl, Value.category]) ?_
  intro p e s0 s m args below meth c D cI cL ad hC hr hlk htb hB ls hl
  have hC : CallFix p m c b_Ma_rest 2 s args gtb R_Ma := hC
  have hl : lv_has ls 2 [(0, .ref (ad 5)), (1, .int p1)] := hl
  have hx := hC.1
  have hb := hC.2.1
  have hf : f_Ma_rest_5 G p1 = (if p1 = 264 then (G 5 1) else (if p1 = 265 then (G 5 2) else (if p1 = 266 then (G 5 3) else (if p1 = 267 then (G 5 4) else (G 5 5))))) := rfl
  refine lv_iload_n hx hb d_Ma_rest_0 rfl (lv_at hl 1 rfl) ?_
  by_cases c1 : p1 = 264
  · replace hf := hf.trans (if_pos c1)
    refine g_switch (tgt := 32) hC d_Ma_rest_1 (fun i hi => by show i < 4; omega) (by rw [c1]; decide) ?_
    refine lv_aload_n hx hb d_Ma_rest_32 rfl (lv_at hl 0 rfl) ?_
    refine gg_5_1 (x := (G 5 1)) hC hB rfl fl_Ma_28 d_Ma_rest_33 ?_
    exact g_iret hC hB hr hlk (by decide) (by decide) (by rw [hf]) rfl d_Ma_rest_36
  · replace hf := hf.trans (if_neg c1)
    by_cases c2 : p1 = 265
    · replace hf := hf.trans (if_pos c2)
      refine g_switch (tgt := 37) hC d_Ma_rest_1 (fun i hi => by show i < 4; omega) (by rw [c2]; decide) ?_
      refine lv_aload_n hx hb d_Ma_rest_37 rfl (lv_at hl 0 rfl) ?_
      refine gg_5_2 (x := (G 5 2)) hC hB rfl fl_Ma_31 d_Ma_rest_38 ?_
      exact g_iret hC hB hr hlk (by decide) (by decide) (by rw [hf]) rfl d_Ma_rest_41
    · replace hf := hf.trans (if_neg c2)
      by_cases c3 : p1 = 266
      · replace hf := hf.trans (if_pos c3)
        refine g_switch (tgt := 42) hC d_Ma_rest_1 (fun i hi => by show i < 4; omega) (by rw [c3]; decide) ?_
        refine lv_aload_n hx hb d_Ma_rest_42 rfl (lv_at hl 0 rfl) ?_
        refine gg_5_3 (x := (G 5 3)) hC hB rfl fl_Ma_34 d_Ma_rest_43 ?_
        exact g_iret hC hB hr hlk (by decide) (by decide) (by rw [hf]) rfl d_Ma_rest_46
      · replace hf := hf.trans (if_neg c3)
        by_cases c4 : p1 = 267
        · replace hf := hf.trans (if_pos c4)
          refine g_switch (tgt := 47) hC d_Ma_rest_1 (fun i hi => by show i < 4; omega) (by rw [c4]; decide) ?_
          refine lv_aload_n hx hb d_Ma_rest_47 rfl (lv_at hl 0 rfl) ?_
          refine gg_5_4 (x := (G 5 4)) hC hB rfl fl_Ma_37 d_Ma_rest_48 ?_
          exact g_iret hC hB hr hlk (by decide) (by decide) (by rw [hf]) rfl d_Ma_rest_51
        · replace hf := hf.trans (if_neg c4)
          refine g_switch (tgt := 52) hC d_Ma_rest_1 (fun i hi => by show i < 4; omega) ?_ ?_
          · have e0 := g_ne (k := 264) c1 (by decide)
            have e1 := g_ne (k := 265) c2 (by decide)
            have e2 := g_ne (k := 266) c3 (by decide)
            have e3 := g_ne (k := 267) c4 (by decide)
            have e : (p1).toInt < 264 ∨ 267 < (p1).toInt := by omega
            generalize (p1).toInt = z at e ⊢
            rcases e with e | e
            · rw [g_swt, if_pos (by omega)]; decide
            · rw [g_swt, if_pos (by omega)]; decide
          · refine lv_aload_n hx hb d_Ma_rest_52 rfl (lv_at hl 0 rfl) ?_
            refine gg_5_5 (x := (G 5 5)) hC hB rfl fl_Ma_15 d_Ma_rest_53 ?_
            exact g_iret hC hB hr hlk (by decide) (by decide) (by rw [hf]) rfl d_Ma_rest_56
abbrev rm_Ma_changedNumber_5 : Room := { frames := 0, cells := 0, slots := 0, locals := 0 }
def f_Ma_changedNumber_5 (G : gT) : Int32 := (if (G 5 6) = (-1) then 0 else (if (G 6 ((G 5 6).toNatClampNeg)) = (G 5 7) then 0 else 1))
def ok_Ma_changedNumber_5 (G : gT) : Prop := (((G 5 6) = (-1) → True) ∧ (¬ (G 5 6) = (-1) → (vp_in (G 5 6) 264 ∧ True)))
set_option maxHeartbeats 4000000 in
set_option maxRecDepth 100000 in
theorem c_Ma_changedNumber_5 (l : Launch) (G : gT) (O : Int64) (hok : ok_Ma_changedNumber_5 G) : gMet l y_Ma_changedNumber w_Ma_changedNumber rm_Ma_changedNumber_5 (fun ad => [.ref (ad 5)]) G O (.inl (some (.int (f_Ma_changedNumber_5 G)))) G O := by
  refine g_body (by decide) (gCode_of _ _ _ _) (fun ad => by simp [lg_sl, Value.category]) ?_
  intro p e s0 s m args below meth c D cI cL ad hC hr hlk htb hB ls hl
  have hC : CallFix p m c b_Ma_changedNumber 1 s args gtb R_Ma := hC
  have hl : lv_has ls 1 [(0, .ref (ad 5))] := hl
  have hx := hC.1
  have hb := hC.2.1
  have hf : f_Ma_changedNumber_5 G = (if (G 5 6) = (-1) then 0 else (if (G 6 ((G 5 6).toNatClampNeg)) = (G 5 7) then 0 else 1)) := rfl
  have hok : (((G 5 6) = (-1) → True) ∧ (¬ (G 5 6) = (-1) → (vp_in (G 5 6) 264 ∧ True))) := hok
  refine lv_aload_n hx hb d_Ma_changedNumber_0 rfl (lv_at hl 0 rfl) ?_
  refine gg_5_6 (x := (G 5 6)) hC hB rfl fl_Ma_19 d_Ma_changedNumber_1 ?_
  refine lv_iconst (v := (-1)) hx hb d_Ma_changedNumber_4 (by decide) ?_
  refine lv_icmp_eq (tgt := 28) hx hb d_Ma_changedNumber_5 (by decide) (fun c1 => ?_) (fun c1 => ?_)
  · replace hf := hf.trans (if_pos c1)
    replace hok := hok.1 c1
    refine lv_iconst (v := 0) hx hb d_Ma_changedNumber_28 (by decide) ?_
    exact g_zret hC hB hr hlk (by decide) (by decide) (by decide) (by rw [hf]) rfl d_Ma_changedNumber_29
  · replace hf := hf.trans (if_neg c1)
    replace hok := hok.2 c1
    refine lv_aload_n hx hb d_Ma_changedNumber_8 rfl (lv_at hl 0 rfl) ?_
    refine gr_5_0 hC hB fl_Ma_9 d_Ma_changedNumber_9 ?_
    refine lv_aload_n hx hb d_Ma_changedNumber_12 rfl (lv_at hl 0 rfl) ?_
    refine gg_5_6 (x := (G 5 6)) hC hB rfl fl_Ma_19 d_Ma_changedNumber_13 ?_
    refine ga_6 (x := (G 6 ((G 5 6).toNatClampNeg))) hC hB hok.1 rfl d_Ma_changedNumber_16 ?_
    replace hok := hok.2
    refine lv_aload_n hx hb d_Ma_changedNumber_17 rfl (lv_at hl 0 rfl) ?_
    refine gg_5_7 (x := (G 5 7)) hC hB rfl fl_Ma_77 d_Ma_changedNumber_18 ?_
    refine lv_icmp_eq (tgt := 28) hx hb d_Ma_changedNumber_21 (by decide) (fun c2 => ?_) (fun c2 => ?_)
    · replace hf := hf.trans (if_pos c2)
      refine lv_iconst (v := 0) hx hb d_Ma_changedNumber_28 (by decide) ?_
      exact g_zret hC hB hr hlk (by decide) (by decide) (by decide) (by rw [hf]) rfl d_Ma_changedNumber_29
    · replace hf := hf.trans (if_neg c2)
      refine lv_iconst (v := 1) hx hb d_Ma_changedNumber_24 (by decide) ?_
      refine lv_goto (tgt := 29) hx hb d_Ma_changedNumber_25 (by decide) ?_
      exact g_zret hC hB hr hlk (by decide) (by decide) (by decide) (by rw [hf]) rfl d_Ma_changedNumber_29
abbrev rm_Ma_changedNothingBut_5 : Room := { frames := 1, cells := 0, slots := 0, locals := 12 }
def f_Ma_changedNothingBut_5 (G : gT) (p1 : Int32) : Int32 := (if (f_Ma_changedNumber_5 G) = 0 then 1 else (if (G 5 6) = p1 then 1 else 0))
def ok_Ma_changedNothingBut_5 (G : gT) (p1 : Int32) : Prop := (ok_Ma_changedNumber_5 G ∧ True)
set_option maxHeartbeats 4000000 in
set_option maxRecDepth 100000 in
theorem c_Ma_changedNothingBut_5 (l : Launch) (G : gT) (p1 : Int32) (O : Int64) (hok : ok_Ma_changedNothingBut_5 G p1) : gMet l y_Ma_changedNothingBut w_Ma_changedNothingBut rm_Ma_changedNothingBut_5 (fun ad => [.ref (ad 5), .int p1]) G O (.inl (some (.int (f_Ma_changedNothingBut_5 G p1)))) G O := by
  refine g_body (by decide) (gCode_of _ _ _ _) (fun ad => by simp [lg_sl, Value.category]) ?_
  intro p e s0 s m args below meth c D cI cL ad hC hr hlk htb hB ls hl
  have hC : CallFix p m c b_Ma_changedNothingBut 2 s args gtb R_Ma := hC
  have hl : lv_has ls 2 [(0, .ref (ad 5)), (1, .int p1)] := hl
  have hx := hC.1
  have hb := hC.2.1
  have hf : f_Ma_changedNothingBut_5 G p1 = (if (f_Ma_changedNumber_5 G) = 0 then 1 else (if (G 5 6) = p1 then 1 else 0)) := rfl
  have hok : (ok_Ma_changedNumber_5 G ∧ True) := hok
  refine lv_aload_n hx hb d_Ma_changedNothingBut_0 rfl (lv_at hl 0 rfl) ?_
  refine g_callVi (b := ad 5) (As := []) (rest := []) hC hB (c_Ma_changedNumber_5 l G O hok.1) rfl key_Ma_changedNumber rfl ins_Ma_changedNumber sel_Ma_changedNumber ml_Ma_80 (g_rec5 hB) rfl hl.1 ⟨Nat.le_of_ble_eq_true rfl, Nat.le_of_ble_eq_true rfl, Nat.le_of_ble_eq_true rfl, Nat.le_of_ble_eq_true rfl⟩ d_Ma_changedNothingBut_1 (fun H locs hB => ?_)
  replace hok := hok.2
  refine lv_if_eq (tgt := 15) hx hb d_Ma_changedNothingBut_4 (by decide) (fun c1 => ?_) (fun c1 => ?_)
  · replace hf := hf.trans (if_pos c1)
    refine lv_iconst (v := 1) hx hb d_Ma_changedNothingBut_15 (by decide) ?_
    refine lv_goto (tgt := 20) hx hb d_Ma_changedNothingBut_16 (by decide) ?_
    exact g_zret hC hB hr hlk (by decide) (by decide) (by decide) (by rw [hf]) rfl d_Ma_changedNothingBut_20
  · replace hf := hf.trans (if_neg c1)
    refine lv_aload_n hx hb d_Ma_changedNothingBut_7 rfl (lv_at hl 0 rfl) ?_
    refine gg_5_6 (x := (G 5 6)) hC hB rfl fl_Ma_19 d_Ma_changedNothingBut_8 ?_
    refine lv_iload_n hx hb d_Ma_changedNothingBut_11 rfl (lv_at hl 1 rfl) ?_
    refine lv_icmp_ne (tgt := 19) hx hb d_Ma_changedNothingBut_12 (by decide) (fun c2 => ?_) (fun c2 => ?_)
    · replace hf := hf.trans (if_neg c2)
      refine lv_iconst (v := 0) hx hb d_Ma_changedNothingBut_19 (by decide) ?_
      exact g_zret hC hB hr hlk (by decide) (by decide) (by decide) (by rw [hf]) rfl d_Ma_changedNothingBut_20
    · replace hf := hf.trans (if_pos c2)
      refine lv_iconst (v := 1) hx hb d_Ma_changedNothingBut_15 (by decide) ?_
      refine lv_goto (tgt := 20) hx hb d_Ma_changedNothingBut_16 (by decide) ?_
      exact g_zret hC hB hr hlk (by decide) (by decide) (by decide) (by rw [hf]) rfl d_Ma_changedNothingBut_20
abbrev rm_Ro_undo_5 : Room := { frames := 0, cells := 0, slots := 0, locals := 0 }
def f_Ro_undo_5 (G : gT) (p1 : Int32) : gT := (if (G 9 p1.toNatClampNeg) = (-1) then (g_up (g_up (g_up (g_up (g_up G 5 1 (G 12 p1.toNatClampNeg)) 5 2 (G 13 p1.toNatClampNeg)) 5 3 (G 14 p1.toNatClampNeg)) 5 4 (G 15 p1.toNatClampNeg)) 5 5 0) else (g_up (g_up (g_up (g_up (g_up (g_up G 6 ((G 9 p1.toNatClampNeg).toNatClampNeg) (G 10 p1.toNatClampNeg)) 5 1 (G 12 p1.toNatClampNeg)) 5 2 (G 13 p1.toNatClampNeg)) 5 3 (G 14 p1.toNatClampNeg)) 5 4 (G 15 p1.toNatClampNeg)) 5 5 0))
def ok_Ro_undo_5 (G : gT) (p1 : Int32) : Prop := (vp_in p1 1024 ∧ (((G 9 p1.toNatClampNeg) = (-1) → (vp_in p1 1024 ∧ (vp_in p1 1024 ∧ (vp_in p1 1024 ∧ (vp_in p1 1024 ∧ True))))) ∧ (¬ (G 9 p1.toNatClampNeg) = (-1) → (vp_in p1 1024 ∧ (vp_in p1 1024 ∧ (vp_in (G 9 p1.toNatClampNeg) 264 ∧ (vp_in p1 1024 ∧ (vp_in p1 1024 ∧ (vp_in p1 1024 ∧ (vp_in p1 1024 ∧ True))))))))))
set_option maxHeartbeats 4000000 in
set_option maxRecDepth 100000 in
theorem c_Ro_undo_5 (l : Launch) (G : gT) (p1 : Int32) (O : Int64) (hok : ok_Ro_undo_5 G p1) : gMet l y_Ro_undo w_Ro_undo rm_Ro_undo_5 (fun ad => [.ref (ad 7), .int p1, .ref (ad 5)]) G O (.inl (none)) (f_Ro_undo_5 G p1) O := by
  refine g_body (by decide) (gCode_of _ _ _ _) (fun ad => by simp [lg_sl, Value.category]) ?_
  intro p e s0 s m args below meth c D cI cL ad hC hr hlk htb hB ls hl
  have hC : CallFix p m c b_Ro_undo 3 s args gtb R_Ro := hC
  have hl : lv_has ls 3 [(0, .ref (ad 7)), (1, .int p1), (2, .ref (ad 5))] := hl
  have hx := hC.1
  have hb := hC.2.1
  have hf : f_Ro_undo_5 G p1 = (if (G 9 p1.toNatClampNeg) = (-1) then (g_up (g_up (g_up (g_up (g_up G 5 1 (G 12 p1.toNatClampNeg)) 5 2 (G 13 p1.toNatClampNeg)) 5 3 (G 14 p1.toNatClampNeg)) 5 4 (G 15 p1.toNatClampNeg)) 5 5 0) else (g_up (g_up (g_up (g_up (g_up (g_up G 6 ((G 9 p1.toNatClampNeg).toNatClampNeg) (G 10 p1.toNatClampNeg)) 5 1 (G 12 p1.toNatClampNeg)) 5 2 (G 13 p1.toNatClampNeg)) 5 3 (G 14 p1.toNatClampNeg)) 5 4 (G 15 p1.toNatClampNeg)) 5 5 0)) := rfl
  have hok : (vp_in p1 1024 ∧ (((G 9 p1.toNatClampNeg) = (-1) → (vp_in p1 1024 ∧ (vp_in p1 1024 ∧ (vp_in p1 1024 ∧ (vp_in p1 1024 ∧ True))))) ∧ (¬ (G 9 p1.toNatClampNeg) = (-1) → (vp_in p1 1024 ∧ (vp_in p1 1024 ∧ (vp_in (G 9 p1.toNatClampNeg) 264 ∧ (vp_in p1 1024 ∧ (vp_in p1 1024 ∧ (vp_in p1 1024 ∧ (vp_in p1 1024 ∧ True)))))))))) := hok
  refine lv_aload_n hx hb d_Ro_undo_0 rfl (lv_at hl 0 rfl) ?_
  refine gr_7_6 hC hB fl_Ro_15 d_Ro_undo_1 ?_
  refine lv_iload_n hx hb d_Ro_undo_4 rfl (lv_at hl 1 rfl) ?_
  refine ga_9 (x := (G 9 p1.toNatClampNeg)) hC hB hok.1 rfl d_Ro_undo_5 ?_
  replace hok := hok.2
  refine lv_iconst (v := (-1)) hx hb d_Ro_undo_6 (by decide) ?_
  refine lv_icmp_eq (tgt := 27) hx hb d_Ro_undo_7 (by decide) (fun c1 => ?_) (fun c1 => ?_)
  · replace hf := hf.trans (if_pos c1)
    replace hok := hok.1 c1
    refine lv_aload_n hx hb d_Ro_undo_27 rfl (lv_at hl 2 rfl) ?_
    refine lv_aload_n hx hb d_Ro_undo_28 rfl (lv_at hl 0 rfl) ?_
    refine gr_7_9 hC hB fl_Ro_24 d_Ro_undo_29 ?_
    refine lv_iload_n hx hb d_Ro_undo_32 rfl (lv_at hl 1 rfl) ?_
    refine ga_12 (x := (G 12 p1.toNatClampNeg)) hC hB hok.1 rfl d_Ro_undo_33 ?_
    replace hok := hok.2
    refine gp_5_1 hC hB fl_Ro_86 d_Ro_undo_34 (fun H locs hB => ?_)
    refine lv_aload_n hx hb d_Ro_undo_37 rfl (lv_at hl 2 rfl) ?_
    refine lv_aload_n hx hb d_Ro_undo_38 rfl (lv_at hl 0 rfl) ?_
    refine gr_7_10 hC hB fl_Ro_27 d_Ro_undo_39 ?_
    refine lv_iload_n hx hb d_Ro_undo_42 rfl (lv_at hl 1 rfl) ?_
    refine ga_13 (x := (G 13 p1.toNatClampNeg)) hC hB hok.1 rfl d_Ro_undo_43 ?_
    replace hok := hok.2
    refine gp_5_2 hC hB fl_Ro_89 d_Ro_undo_44 (fun H locs hB => ?_)
    refine lv_aload_n hx hb d_Ro_undo_47 rfl (lv_at hl 2 rfl) ?_
    refine lv_aload_n hx hb d_Ro_undo_48 rfl (lv_at hl 0 rfl) ?_
    refine gr_7_11 hC hB fl_Ro_30 d_Ro_undo_49 ?_
    refine lv_iload_n hx hb d_Ro_undo_52 rfl (lv_at hl 1 rfl) ?_
    refine ga_14 (x := (G 14 p1.toNatClampNeg)) hC hB hok.1 rfl d_Ro_undo_53 ?_
    replace hok := hok.2
    refine gp_5_3 hC hB fl_Ro_92 d_Ro_undo_54 (fun H locs hB => ?_)
    refine lv_aload_n hx hb d_Ro_undo_57 rfl (lv_at hl 2 rfl) ?_
    refine lv_aload_n hx hb d_Ro_undo_58 rfl (lv_at hl 0 rfl) ?_
    refine gr_7_12 hC hB fl_Ro_33 d_Ro_undo_59 ?_
    refine lv_iload_n hx hb d_Ro_undo_62 rfl (lv_at hl 1 rfl) ?_
    refine ga_15 (x := (G 15 p1.toNatClampNeg)) hC hB hok.1 rfl d_Ro_undo_63 ?_
    replace hok := hok.2
    refine gp_5_4 hC hB fl_Ro_94 d_Ro_undo_64 (fun H locs hB => ?_)
    refine lv_aload_n hx hb d_Ro_undo_67 rfl (lv_at hl 2 rfl) ?_
    refine lv_iconst (v := 0) hx hb d_Ro_undo_68 (by decide) ?_
    refine gp_5_5 hC hB fl_Ro_97 d_Ro_undo_69 (fun H locs hB => ?_)
    exact g_vret hC hB hr hlk (by decide) (by decide) rfl hf d_Ro_undo_72
  · replace hf := hf.trans (if_neg c1)
    replace hok := hok.2 c1
    refine lv_aload_n hx hb d_Ro_undo_10 rfl (lv_at hl 2 rfl) ?_
    refine gr_5_0 hC hB fl_Ro_67 d_Ro_undo_11 ?_
    refine lv_aload_n hx hb d_Ro_undo_14 rfl (lv_at hl 0 rfl) ?_
    refine gr_7_6 hC hB fl_Ro_15 d_Ro_undo_15 ?_
    refine lv_iload_n hx hb d_Ro_undo_18 rfl (lv_at hl 1 rfl) ?_
    refine ga_9 (x := (G 9 p1.toNatClampNeg)) hC hB hok.1 rfl d_Ro_undo_19 ?_
    replace hok := hok.2
    refine lv_aload_n hx hb d_Ro_undo_20 rfl (lv_at hl 0 rfl) ?_
    refine gr_7_7 hC hB fl_Ro_18 d_Ro_undo_21 ?_
    refine lv_iload_n hx hb d_Ro_undo_24 rfl (lv_at hl 1 rfl) ?_
    refine ga_10 (x := (G 10 p1.toNatClampNeg)) hC hB hok.1 rfl d_Ro_undo_25 ?_
    replace hok := hok.2
    refine gs_6 hC hB hok.1 d_Ro_undo_26 (fun H locs hB => ?_)
    replace hok := hok.2
    refine lv_aload_n hx hb d_Ro_undo_27 rfl (lv_at hl 2 rfl) ?_
    refine lv_aload_n hx hb d_Ro_undo_28 rfl (lv_at hl 0 rfl) ?_
    refine gr_7_9 hC hB fl_Ro_24 d_Ro_undo_29 ?_
    refine lv_iload_n hx hb d_Ro_undo_32 rfl (lv_at hl 1 rfl) ?_
    refine ga_12 (x := (G 12 p1.toNatClampNeg)) hC hB hok.1 rfl d_Ro_undo_33 ?_
    replace hok := hok.2
    refine gp_5_1 hC hB fl_Ro_86 d_Ro_undo_34 (fun H locs hB => ?_)
    refine lv_aload_n hx hb d_Ro_undo_37 rfl (lv_at hl 2 rfl) ?_
    refine lv_aload_n hx hb d_Ro_undo_38 rfl (lv_at hl 0 rfl) ?_
    refine gr_7_10 hC hB fl_Ro_27 d_Ro_undo_39 ?_
    refine lv_iload_n hx hb d_Ro_undo_42 rfl (lv_at hl 1 rfl) ?_
    refine ga_13 (x := (G 13 p1.toNatClampNeg)) hC hB hok.1 rfl d_Ro_undo_43 ?_
    replace hok := hok.2
    refine gp_5_2 hC hB fl_Ro_89 d_Ro_undo_44 (fun H locs hB => ?_)
    refine lv_aload_n hx hb d_Ro_undo_47 rfl (lv_at hl 2 rfl) ?_
    refine lv_aload_n hx hb d_Ro_undo_48 rfl (lv_at hl 0 rfl) ?_
    refine gr_7_11 hC hB fl_Ro_30 d_Ro_undo_49 ?_
    refine lv_iload_n hx hb d_Ro_undo_52 rfl (lv_at hl 1 rfl) ?_
    refine ga_14 (x := (G 14 p1.toNatClampNeg)) hC hB hok.1 rfl d_Ro_undo_53 ?_
    replace hok := hok.2
    refine gp_5_3 hC hB fl_Ro_92 d_Ro_undo_54 (fun H locs hB => ?_)
    refine lv_aload_n hx hb d_Ro_undo_57 rfl (lv_at hl 2 rfl) ?_
    refine lv_aload_n hx hb d_Ro_undo_58 rfl (lv_at hl 0 rfl) ?_
    refine gr_7_12 hC hB fl_Ro_33 d_Ro_undo_59 ?_
    refine lv_iload_n hx hb d_Ro_undo_62 rfl (lv_at hl 1 rfl) ?_
    refine ga_15 (x := (G 15 p1.toNatClampNeg)) hC hB hok.1 rfl d_Ro_undo_63 ?_
    replace hok := hok.2
    refine gp_5_4 hC hB fl_Ro_94 d_Ro_undo_64 (fun H locs hB => ?_)
    refine lv_aload_n hx hb d_Ro_undo_67 rfl (lv_at hl 2 rfl) ?_
    refine lv_iconst (v := 0) hx hb d_Ro_undo_68 (by decide) ?_
    refine gp_5_5 hC hB fl_Ro_97 d_Ro_undo_69 (fun H locs hB => ?_)
    exact g_vret hC hB hr hlk (by decide) (by decide) rfl hf d_Ro_undo_72
abbrev rm_Ro_sameNumbersBehind_5 : Room := { frames := 2, cells := 0, slots := 0, locals := 25 }
def f_Ro_sameNumbersBehind_5 (G : gT) (p1 : Int32) : Int32 := (if (f_Ma_changedNothingBut_5 G (G 9 ((f_Ro_slot G p1).toNatClampNeg))) = 0 then 0 else (if (G 9 ((f_Ro_slot G p1).toNatClampNeg)) = (-1) then 1 else (if (G 6 ((G 9 ((f_Ro_slot G p1).toNatClampNeg)).toNatClampNeg)) = (G 11 ((f_Ro_slot G p1).toNatClampNeg)) then 1 else 0)))
def ok_Ro_sameNumbersBehind_5 (G : gT) (p1 : Int32) : Prop := (vp_in (f_Ro_slot G p1) 1024 ∧ (ok_Ma_changedNothingBut_5 G (G 9 ((f_Ro_slot G p1).toNatClampNeg)) ∧ (((f_Ma_changedNothingBut_5 G (G 9 ((f_Ro_slot G p1).toNatClampNeg))) = 0 → True) ∧ (¬ (f_Ma_changedNothingBut_5 G (G 9 ((f_Ro_slot G p1).toNatClampNeg))) = 0 → (((G 9 ((f_Ro_slot G p1).toNatClampNeg)) = (-1) → True) ∧ (¬ (G 9 ((f_Ro_slot G p1).toNatClampNeg)) = (-1) → (vp_in (G 9 ((f_Ro_slot G p1).toNatClampNeg)) 264 ∧ (vp_in (f_Ro_slot G p1) 1024 ∧ True))))))))
set_option maxHeartbeats 4000000 in
set_option maxRecDepth 100000 in
theorem c_Ro_sameNumbersBehind_5 (l : Launch) (G : gT) (p1 : Int32) (O : Int64) (hok : ok_Ro_sameNumbersBehind_5 G p1) : gMet l y_Ro_sameNumbersBehind w_Ro_sameNumbersBehind rm_Ro_sameNumbersBehind_5 (fun ad => [.ref (ad 7), .int p1, .ref (ad 5)]) G O (.inl (some (.int (f_Ro_sameNumbersBehind_5 G p1)))) G O := by
  refine g_body (by decide) (gCode_of _ _ _ _) (fun ad => by simp [lg_sl, Value.category]) ?_
  intro p e s0 s m args below meth c D cI cL ad hC hr hlk htb hB ls hl
  have hC : CallFix p m c b_Ro_sameNumbersBehind 5 s args gtb R_Ro := hC
  have hl : lv_has ls 5 [(0, .ref (ad 7)), (1, .int p1), (2, .ref (ad 5))] := hl
  have hx := hC.1
  have hb := hC.2.1
  have hf : f_Ro_sameNumbersBehind_5 G p1 = (if (f_Ma_changedNothingBut_5 G (G 9 ((f_Ro_slot G p1).toNatClampNeg))) = 0 then 0 else (if (G 9 ((f_Ro_slot G p1).toNatClampNeg)) = (-1) then 1 else (if (G 6 ((G 9 ((f_Ro_slot G p1).toNatClampNeg)).toNatClampNeg)) = (G 11 ((f_Ro_slot G p1).toNatClampNeg)) then 1 else 0))) := rfl
  have hok : (vp_in (f_Ro_slot G p1) 1024 ∧ (ok_Ma_changedNothingBut_5 G (G 9 ((f_Ro_slot G p1).toNatClampNeg)) ∧ (((f_Ma_changedNothingBut_5 G (G 9 ((f_Ro_slot G p1).toNatClampNeg))) = 0 → True) ∧ (¬ (f_Ma_changedNothingBut_5 G (G 9 ((f_Ro_slot G p1).toNatClampNeg))) = 0 → (((G 9 ((f_Ro_slot G p1).toNatClampNeg)) = (-1) → True) ∧ (¬ (G 9 ((f_Ro_slot G p1).toNatClampNeg)) = (-1) → (vp_in (G 9 ((f_Ro_slot G p1).toNatClampNeg)) 264 ∧ (vp_in (f_Ro_slot G p1) 1024 ∧ True)))))))) := hok
  refine lv_iload_n hx hb d_Ro_sameNumbersBehind_0 rfl (lv_at hl 1 rfl) ?_
  refine g_callSi (As := [.int p1]) (rest := []) hC hB (c_Ro_slot l G p1 O) rfl key_Ro_slot rfl sta_Ro_slot ml_Ro_55 rfl hl.1 ⟨Nat.le_of_ble_eq_true rfl, Nat.le_of_ble_eq_true rfl, Nat.le_of_ble_eq_true rfl, Nat.le_of_ble_eq_true rfl⟩ d_Ro_sameNumbersBehind_1 (fun H locs hB => ?_)
  refine lv_istore_n (lv' := [(3, .int (f_Ro_slot G p1)), (0, .ref (ad 7)), (1, .int p1), (2, .ref (ad 5))]) hx hb d_Ro_sameNumbersBehind_4 rfl hl (by decide) rfl (fun ls hl => ?_)
  refine lv_aload_n hx hb d_Ro_sameNumbersBehind_5 rfl (lv_at hl 1 rfl) ?_
  refine gr_7_6 hC hB fl_Ro_15 d_Ro_sameNumbersBehind_6 ?_
  refine lv_iload_n hx hb d_Ro_sameNumbersBehind_9 rfl (lv_at hl 0 rfl) ?_
  refine ga_9 (x := (G 9 ((f_Ro_slot G p1).toNatClampNeg))) hC hB hok.1 rfl d_Ro_sameNumbersBehind_10 ?_
  replace hok := hok.2
  refine lv_istore (lv' := [(4, .int (G 9 ((f_Ro_slot G p1).toNatClampNeg))), (3, .int (f_Ro_slot G p1)), (0, .ref (ad 7)), (1, .int p1), (2, .ref (ad 5))]) hx hb d_Ro_sameNumbersBehind_11 hl (by decide) rfl (fun ls hl => ?_)
  refine lv_aload_n hx hb d_Ro_sameNumbersBehind_13 rfl (lv_at hl 4 rfl) ?_
  refine lv_iload hx hb d_Ro_sameNumbersBehind_14 (lv_at hl 0 rfl) ?_
  refine g_callVi (b := ad 5) (As := [.int (G 9 ((f_Ro_slot G p1).toNatClampNeg))]) (rest := []) hC hB (c_Ma_changedNothingBut_5 l G (G 9 ((f_Ro_slot G p1).toNatClampNeg)) O hok.1) rfl key_Ma_changedNothingBut rfl ins_Ma_changedNothingBut sel_Ma_changedNothingBut ml_Ro_100 (g_rec5 hB) rfl hl.1 ⟨Nat.le_of_ble_eq_true rfl, Nat.le_of_ble_eq_true rfl, Nat.le_of_ble_eq_true rfl, Nat.le_of_ble_eq_true rfl⟩ d_Ro_sameNumbersBehind_16 (fun H locs hB => ?_)
  replace hok := hok.2
  refine lv_if_eq (tgt := 48) hx hb d_Ro_sameNumbersBehind_19 (by decide) (fun c1 => ?_) (fun c1 => ?_)
  · replace hf := hf.trans (if_pos c1)
    replace hok := hok.1 c1
    refine lv_iconst (v := 0) hx hb d_Ro_sameNumbersBehind_48 (by decide) ?_
    exact g_zret hC hB hr hlk (by decide) (by decide) (by decide) (by rw [hf]) rfl d_Ro_sameNumbersBehind_49
  · replace hf := hf.trans (if_neg c1)
    replace hok := hok.2 c1
    refine lv_iload hx hb d_Ro_sameNumbersBehind_22 (lv_at hl 0 rfl) ?_
    refine lv_iconst (v := (-1)) hx hb d_Ro_sameNumbersBehind_24 (by decide) ?_
    refine lv_icmp_eq (tgt := 44) hx hb d_Ro_sameNumbersBehind_25 (by decide) (fun c2 => ?_) (fun c2 => ?_)
    · replace hf := hf.trans (if_pos c2)
      replace hok := hok.1 c2
      refine lv_iconst (v := 1) hx hb d_Ro_sameNumbersBehind_44 (by decide) ?_
      refine lv_goto (tgt := 49) hx hb d_Ro_sameNumbersBehind_45 (by decide) ?_
      exact g_zret hC hB hr hlk (by decide) (by decide) (by decide) (by rw [hf]) rfl d_Ro_sameNumbersBehind_49
    · replace hf := hf.trans (if_neg c2)
      replace hok := hok.2 c2
      refine lv_aload_n hx hb d_Ro_sameNumbersBehind_28 rfl (lv_at hl 4 rfl) ?_
      refine gr_5_0 hC hB fl_Ro_67 d_Ro_sameNumbersBehind_29 ?_
      refine lv_iload hx hb d_Ro_sameNumbersBehind_32 (lv_at hl 0 rfl) ?_
      refine ga_6 (x := (G 6 ((G 9 ((f_Ro_slot G p1).toNatClampNeg)).toNatClampNeg))) hC hB hok.1 rfl d_Ro_sameNumbersBehind_34 ?_
      replace hok := hok.2
      refine lv_aload_n hx hb d_Ro_sameNumbersBehind_35 rfl (lv_at hl 2 rfl) ?_
      refine gr_7_8 hC hB fl_Ro_21 d_Ro_sameNumbersBehind_36 ?_
      refine lv_iload_n hx hb d_Ro_sameNumbersBehind_39 rfl (lv_at hl 1 rfl) ?_
      refine ga_11 (x := (G 11 ((f_Ro_slot G p1).toNatClampNeg))) hC hB hok.1 rfl d_Ro_sameNumbersBehind_40 ?_
      replace hok := hok.2
      refine lv_icmp_ne (tgt := 48) hx hb d_Ro_sameNumbersBehind_41 (by decide) (fun c3 => ?_) (fun c3 => ?_)
      · replace hf := hf.trans (if_neg c3)
        refine lv_iconst (v := 0) hx hb d_Ro_sameNumbersBehind_48 (by decide) ?_
        exact g_zret hC hB hr hlk (by decide) (by decide) (by decide) (by rw [hf]) rfl d_Ro_sameNumbersBehind_49
      · replace hf := hf.trans (if_pos c3)
        refine lv_iconst (v := 1) hx hb d_Ro_sameNumbersBehind_44 (by decide) ?_
        refine lv_goto (tgt := 49) hx hb d_Ro_sameNumbersBehind_45 (by decide) ?_
        exact g_zret hC hB hr hlk (by decide) (by decide) (by decide) (by rw [hf]) rfl d_Ro_sameNumbersBehind_49
