abbrev rm_Ma_wouldWait_3 : Room := { frames := 0, cells := 0, slots := 0, locals := 0 }
def f_Ma_wouldWait_3 (G : gT) (p2 : Int32) : Int32 := (if (G 3 5) = 0 then (if (g_ush (G 1 ((G 3 1).toNatClampNeg)) 28) = 8 then (if (G 3 2) < p2 then 0 else 1) else 0) else 0)
def ok_Ma_wouldWait_3 (G : gT) (p2 : Int32) : Prop := (((G 3 5) = 0 → (vp_in (G 3 1) 64 ∧ True)) ∧ (¬ (G 3 5) = 0 → True))
set_option maxHeartbeats 4000000 in
set_option maxRecDepth 100000 in
theorem c_Ma_wouldWait_3 (l : Launch) (G : gT) (p2 : Int32) (O : Int64) (hok : ok_Ma_wouldWait_3 G p2) : gMet l y_Ma_wouldWait w_Ma_wouldWait rm_Ma_wouldWait_3 (fun ad => [.ref (ad 3), .ref (ad 1), .int p2]) G O (.inl (some (.int (f_Ma_wouldWait_3 G p2)))) G O := by
  refine g_body (by decide) (gCode_of _ _ _ _) (fun ad => by simp [lg_sl, Value.category]) ?_
  intro p e s0 s m args below meth c D cI cL ad hC hr hlk htb hB ls hl
  have hC : CallFix p m c b_Ma_wouldWait 3 s args gtb R_Ma := hC
  have hl : lv_has ls 3 [(0, .ref (ad 3)), (1, .ref (ad 1)), (2, .int p2)] := hl
  have hx := hC.1
  have hb := hC.2.1
  have hf : f_Ma_wouldWait_3 G p2 = (if (G 3 5) = 0 then (if (g_ush (G 1 ((G 3 1).toNatClampNeg)) 28) = 8 then (if (G 3 2) < p2 then 0 else 1) else 0) else 0) := rfl
  have hok : (((G 3 5) = 0 → (vp_in (G 3 1) 64 ∧ True)) ∧ (¬ (G 3 5) = 0 → True)) := hok
  refine lv_aload_n hx hb d_Ma_wouldWait_0 rfl (lv_at hl 0 rfl) ?_
  refine gg_3_5 (x := (G 3 5)) hC hB rfl fl_Ma_15 d_Ma_wouldWait_1 ?_
  refine lv_if_ne (tgt := 33) hx hb d_Ma_wouldWait_4 (by decide) (fun c1 => ?_) (fun c1 => ?_)
  · replace hf := hf.trans (if_neg c1)
    replace hok := hok.2 c1
    refine lv_iconst (v := 0) hx hb d_Ma_wouldWait_33 (by decide) ?_
    exact g_zret hC hB hr hlk (by decide) (by decide) (by decide) (by rw [hf]) rfl d_Ma_wouldWait_34
  · replace hf := hf.trans (if_pos c1)
    replace hok := hok.1 c1
    refine lv_aload_n hx hb d_Ma_wouldWait_7 rfl (lv_at hl 1 rfl) ?_
    refine lv_aload_n hx hb d_Ma_wouldWait_8 rfl (lv_at hl 0 rfl) ?_
    refine gg_3_1 (x := (G 3 1)) hC hB rfl fl_Ma_28 d_Ma_wouldWait_9 ?_
    refine ga_1 (x := (G 1 ((G 3 1).toNatClampNeg))) hC hB hok.1 rfl d_Ma_wouldWait_12 ?_
    replace hok := hok.2
    refine lv_bipush (v := 28) hx hb d_Ma_wouldWait_13 (by decide) ?_
    refine lv_iushr (v := g_ush (G 1 ((G 3 1).toNatClampNeg)) 28) hx hb d_Ma_wouldWait_15 rfl ?_
    refine lv_bipush (v := 8) hx hb d_Ma_wouldWait_16 (by decide) ?_
    refine lv_icmp_ne (tgt := 33) hx hb d_Ma_wouldWait_18 (by decide) (fun c2 => ?_) (fun c2 => ?_)
    · replace hf := hf.trans (if_neg c2)
      refine lv_iconst (v := 0) hx hb d_Ma_wouldWait_33 (by decide) ?_
      exact g_zret hC hB hr hlk (by decide) (by decide) (by decide) (by rw [hf]) rfl d_Ma_wouldWait_34
    · replace hf := hf.trans (if_pos c2)
      refine lv_aload_n hx hb d_Ma_wouldWait_21 rfl (lv_at hl 0 rfl) ?_
      refine gg_3_2 (x := (G 3 2)) hC hB rfl fl_Ma_31 d_Ma_wouldWait_22 ?_
      refine lv_iload_n hx hb d_Ma_wouldWait_25 rfl (lv_at hl 2 rfl) ?_
      refine lv_icmp_lt (tgt := 33) hx hb d_Ma_wouldWait_26 (by decide) (fun c3 => ?_) (fun c3 => ?_)
      · replace hf := hf.trans (if_pos c3)
        refine lv_iconst (v := 0) hx hb d_Ma_wouldWait_33 (by decide) ?_
        exact g_zret hC hB hr hlk (by decide) (by decide) (by decide) (by rw [hf]) rfl d_Ma_wouldWait_34
      · replace hf := hf.trans (if_neg c3)
        refine lv_iconst (v := 1) hx hb d_Ma_wouldWait_29 (by decide) ?_
        refine lv_goto (tgt := 34) hx hb d_Ma_wouldWait_30 (by decide) ?_
        exact g_zret hC hB hr hlk (by decide) (by decide) (by decide) (by rw [hf]) rfl d_Ma_wouldWait_34
abbrev rm_Ma_moveNumbers_3 : Room := { frames := 1, cells := 0, slots := 0, locals := 15 }
def f_Ma_moveNumbers_3 (G : gT) (p1 : Int32) (p2 : Int32) : gT := (if p1 = 5 then (f_Ma_write_3 G (f_Ma_register G p2 24) (G 4 (((8 : Int32) + (((G 4 ((f_Ma_register G p2 20).toNatClampNeg)) + p2.toInt16.toInt32) &&& (255 : Int32))).toNatClampNeg))) else (if p1 = 6 then (f_Ma_write_3 G ((8 : Int32) + (((G 4 ((f_Ma_register G p2 20).toNatClampNeg)) + p2.toInt16.toInt32) &&& (255 : Int32))) (G 4 ((f_Ma_register G p2 24).toNatClampNeg))) else (if p1 = 7 then (if (G 4 ((f_Ma_register G p2 24).toNatClampNeg)) = 0 then G else (g_up G 3 1 (((G 3 8) + p2.toInt16.toInt32) &&& (63 : Int32)))) else (g_up (g_up G 3 3 ((G 3 3) + (1 : Int32))) 3 4 (((31 : Int32) * (G 3 4)) + (G 4 ((f_Ma_register G p2 24).toNatClampNeg)))))))
def ok_Ma_moveNumbers_3 (G : gT) (p1 : Int32) (p2 : Int32) : Prop := (vp_in (f_Ma_register G p2 20) 264 ∧ ((p1 = 5 → (vp_in ((8 : Int32) + (((G 4 ((f_Ma_register G p2 20).toNatClampNeg)) + p2.toInt16.toInt32) &&& (255 : Int32))) 264 ∧ (ok_Ma_write_3 G (f_Ma_register G p2 24) (G 4 (((8 : Int32) + (((G 4 ((f_Ma_register G p2 20).toNatClampNeg)) + p2.toInt16.toInt32) &&& (255 : Int32))).toNatClampNeg)) ∧ True))) ∧ (¬ p1 = 5 → ((p1 = 6 → (vp_in (f_Ma_register G p2 24) 264 ∧ (ok_Ma_write_3 G ((8 : Int32) + (((G 4 ((f_Ma_register G p2 20).toNatClampNeg)) + p2.toInt16.toInt32) &&& (255 : Int32))) (G 4 ((f_Ma_register G p2 24).toNatClampNeg)) ∧ True))) ∧ (¬ p1 = 6 → ((p1 = 7 → (vp_in (f_Ma_register G p2 24) 264 ∧ True)) ∧ (¬ p1 = 7 → (vp_in (f_Ma_register G p2 24) 264 ∧ True))))))))
set_option maxHeartbeats 4000000 in
set_option maxRecDepth 100000 in
theorem c_Ma_moveNumbers_3 (l : Launch) (G : gT) (p1 : Int32) (p2 : Int32) (O : Int64) (hok : ok_Ma_moveNumbers_3 G p1 p2) : gMet l y_Ma_moveNumbers w_Ma_moveNumbers rm_Ma_moveNumbers_3 (fun ad => [.ref (ad 3), .int p1, .int p2]) G O (.inl (none)) (f_Ma_moveNumbers_3 G p1 p2) O := by
  refine g_body (by decide) (gCode_of _ _ _ _) (fun ad => by simp [lg_sl, Value.category]) ?_
  intro p e s0 s m args below meth c D cI cL ad hC hr hlk htb hB ls hl
  have hC : CallFix p m c b_Ma_moveNumbers 6 s args gtb R_Ma := hC
  have hl : lv_has ls 6 [(0, .ref (ad 3)), (1, .int p1), (2, .int p2)] := hl
  have hx := hC.1
  have hb := hC.2.1
  have hf : f_Ma_moveNumbers_3 G p1 p2 = (if p1 = 5 then (f_Ma_write_3 G (f_Ma_register G p2 24) (G 4 (((8 : Int32) + (((G 4 ((f_Ma_register G p2 20).toNatClampNeg)) + p2.toInt16.toInt32) &&& (255 : Int32))).toNatClampNeg))) else (if p1 = 6 then (f_Ma_write_3 G ((8 : Int32) + (((G 4 ((f_Ma_register G p2 20).toNatClampNeg)) + p2.toInt16.toInt32) &&& (255 : Int32))) (G 4 ((f_Ma_register G p2 24).toNatClampNeg))) else (if p1 = 7 then (if (G 4 ((f_Ma_register G p2 24).toNatClampNeg)) = 0 then G else (g_up G 3 1 (((G 3 8) + p2.toInt16.toInt32) &&& (63 : Int32)))) else (g_up (g_up G 3 3 ((G 3 3) + (1 : Int32))) 3 4 (((31 : Int32) * (G 3 4)) + (G 4 ((f_Ma_register G p2 24).toNatClampNeg))))))) := rfl
  have hok : (vp_in (f_Ma_register G p2 20) 264 ∧ ((p1 = 5 → (vp_in ((8 : Int32) + (((G 4 ((f_Ma_register G p2 20).toNatClampNeg)) + p2.toInt16.toInt32) &&& (255 : Int32))) 264 ∧ (ok_Ma_write_3 G (f_Ma_register G p2 24) (G 4 (((8 : Int32) + (((G 4 ((f_Ma_register G p2 20).toNatClampNeg)) + p2.toInt16.toInt32) &&& (255 : Int32))).toNatClampNeg)) ∧ True))) ∧ (¬ p1 = 5 → ((p1 = 6 → (vp_in (f_Ma_register G p2 24) 264 ∧ (ok_Ma_write_3 G ((8 : Int32) + (((G 4 ((f_Ma_register G p2 20).toNatClampNeg)) + p2.toInt16.toInt32) &&& (255 : Int32))) (G 4 ((f_Ma_register G p2 24).toNatClampNeg)) ∧ True))) ∧ (¬ p1 = 6 → ((p1 = 7 → (vp_in (f_Ma_register G p2 24) 264 ∧ True)) ∧ (¬ p1 = 7 → (vp_in (f_Ma_register G p2 24) 264 ∧ True)))))))) := hok
  refine lv_iload_n hx hb d_Ma_moveNumbers_0 rfl (lv_at hl 2 rfl) ?_
  refine lv_bipush (v := 24) hx hb d_Ma_moveNumbers_1 (by decide) ?_
  refine g_callSi (As := [.int p2, .int 24]) (rest := []) hC hB (c_Ma_register l G p2 24 O) rfl key_Ma_register rfl sta_Ma_register ml_Ma_47 rfl hl.1 ⟨Nat.le_of_ble_eq_true rfl, Nat.le_of_ble_eq_true rfl, Nat.le_of_ble_eq_true rfl, Nat.le_of_ble_eq_true rfl⟩ d_Ma_moveNumbers_3 (fun H locs hB => ?_)
  refine lv_istore_n (lv' := [(3, .int (f_Ma_register G p2 24)), (0, .ref (ad 3)), (1, .int p1), (2, .int p2)]) hx hb d_Ma_moveNumbers_6 rfl hl (by decide) rfl (fun ls hl => ?_)
  refine lv_iload_n hx hb d_Ma_moveNumbers_7 rfl (lv_at hl 3 rfl) ?_
  refine lv_i2s (v := p2.toInt16.toInt32) hx hb d_Ma_moveNumbers_8 rfl ?_
  refine lv_istore (lv' := [(4, .int p2.toInt16.toInt32), (3, .int (f_Ma_register G p2 24)), (0, .ref (ad 3)), (1, .int p1), (2, .int p2)]) hx hb d_Ma_moveNumbers_9 hl (by decide) rfl (fun ls hl => ?_)
  refine lv_bipush (v := 8) hx hb d_Ma_moveNumbers_11 (by decide) ?_
  refine lv_aload_n hx hb d_Ma_moveNumbers_13 rfl (lv_at hl 2 rfl) ?_
  refine gr_3_0 hC hB fl_Ma_9 d_Ma_moveNumbers_14 ?_
  refine lv_iload_n hx hb d_Ma_moveNumbers_17 rfl (lv_at hl 4 rfl) ?_
  refine lv_bipush (v := 20) hx hb d_Ma_moveNumbers_18 (by decide) ?_
  refine g_callSi (As := [.int p2, .int 20]) (rest := [.ref (ad 4), .int 8]) hC hB (c_Ma_register l G p2 20 O) rfl key_Ma_register rfl sta_Ma_register ml_Ma_47 rfl hl.1 ⟨Nat.le_of_ble_eq_true rfl, Nat.le_of_ble_eq_true rfl, Nat.le_of_ble_eq_true rfl, Nat.le_of_ble_eq_true rfl⟩ d_Ma_moveNumbers_20 (fun H locs hB => ?_)
  refine ga_4 (x := (G 4 ((f_Ma_register G p2 20).toNatClampNeg))) hC hB hok.1 rfl d_Ma_moveNumbers_23 ?_
  replace hok := hok.2
  refine lv_iload hx hb d_Ma_moveNumbers_24 (lv_at hl 0 rfl) ?_
  refine lv_iadd hx hb d_Ma_moveNumbers_26 ?_
  refine lv_sipush (v := 255) hx hb d_Ma_moveNumbers_27 (by decide) ?_
  refine lv_iand hx hb d_Ma_moveNumbers_30 ?_
  refine lv_iadd hx hb d_Ma_moveNumbers_31 ?_
  refine lv_istore (lv' := [(5, .int ((8 : Int32) + (((G 4 ((f_Ma_register G p2 20).toNatClampNeg)) + p2.toInt16.toInt32) &&& (255 : Int32)))), (4, .int p2.toInt16.toInt32), (3, .int (f_Ma_register G p2 24)), (0, .ref (ad 3)), (1, .int p1), (2, .int p2)]) hx hb d_Ma_moveNumbers_32 hl (by decide) rfl (fun ls hl => ?_)
  refine lv_iload_n hx hb d_Ma_moveNumbers_34 rfl (lv_at hl 4 rfl) ?_
  by_cases c2 : p1 = 5
  · replace hf := hf.trans (if_pos c2)
    replace hok := hok.1 c2
    refine g_switch (tgt := 60) hC d_Ma_moveNumbers_35 (fun i hi => by show i < 3; omega) (by rw [c2]; decide) ?_
    refine lv_aload_n hx hb d_Ma_moveNumbers_60 rfl (lv_at hl 3 rfl) ?_
    refine lv_iload_n hx hb d_Ma_moveNumbers_61 rfl (lv_at hl 2 rfl) ?_
    refine lv_aload_n hx hb d_Ma_moveNumbers_62 rfl (lv_at hl 3 rfl) ?_
    refine gr_3_0 hC hB fl_Ma_9 d_Ma_moveNumbers_63 ?_
    refine lv_iload hx hb d_Ma_moveNumbers_66 (lv_at hl 0 rfl) ?_
    refine ga_4 (x := (G 4 (((8 : Int32) + (((G 4 ((f_Ma_register G p2 20).toNatClampNeg)) + p2.toInt16.toInt32) &&& (255 : Int32))).toNatClampNeg))) hC hB hok.1 rfl d_Ma_moveNumbers_68 ?_
    replace hok := hok.2
    refine g_callVv (b := ad 3) (As := [.int (f_Ma_register G p2 24), .int (G 4 (((8 : Int32) + (((G 4 ((f_Ma_register G p2 20).toNatClampNeg)) + p2.toInt16.toInt32) &&& (255 : Int32))).toNatClampNeg))]) (rest := []) hC hB (c_Ma_write_3 l G (f_Ma_register G p2 24) (G 4 (((8 : Int32) + (((G 4 ((f_Ma_register G p2 20).toNatClampNeg)) + p2.toInt16.toInt32) &&& (255 : Int32))).toNatClampNeg)) O hok.1) rfl key_Ma_write rfl ins_Ma_write sel_Ma_write ml_Ma_51 (g_rec3 hB) rfl hl.1 ⟨Nat.le_of_ble_eq_true rfl, Nat.le_of_ble_eq_true rfl, Nat.le_of_ble_eq_true rfl, Nat.le_of_ble_eq_true rfl⟩ d_Ma_moveNumbers_69 (fun H locs hB => ?_)
    replace hok := hok.2
    refine lv_goto (tgt := 144) hx hb d_Ma_moveNumbers_72 (by decide) ?_
    exact g_vret hC hB hr hlk (by decide) (by decide) rfl hf d_Ma_moveNumbers_144
  · replace hf := hf.trans (if_neg c2)
    replace hok := hok.2 c2
    by_cases c3 : p1 = 6
    · replace hf := hf.trans (if_pos c3)
      replace hok := hok.1 c3
      refine g_switch (tgt := 75) hC d_Ma_moveNumbers_35 (fun i hi => by show i < 3; omega) (by rw [c3]; decide) ?_
      refine lv_aload_n hx hb d_Ma_moveNumbers_75 rfl (lv_at hl 3 rfl) ?_
      refine lv_iload hx hb d_Ma_moveNumbers_76 (lv_at hl 0 rfl) ?_
      refine lv_aload_n hx hb d_Ma_moveNumbers_78 rfl (lv_at hl 3 rfl) ?_
      refine gr_3_0 hC hB fl_Ma_9 d_Ma_moveNumbers_79 ?_
      refine lv_iload_n hx hb d_Ma_moveNumbers_82 rfl (lv_at hl 2 rfl) ?_
      refine ga_4 (x := (G 4 ((f_Ma_register G p2 24).toNatClampNeg))) hC hB hok.1 rfl d_Ma_moveNumbers_83 ?_
      replace hok := hok.2
      refine g_callVv (b := ad 3) (As := [.int ((8 : Int32) + (((G 4 ((f_Ma_register G p2 20).toNatClampNeg)) + p2.toInt16.toInt32) &&& (255 : Int32))), .int (G 4 ((f_Ma_register G p2 24).toNatClampNeg))]) (rest := []) hC hB (c_Ma_write_3 l G ((8 : Int32) + (((G 4 ((f_Ma_register G p2 20).toNatClampNeg)) + p2.toInt16.toInt32) &&& (255 : Int32))) (G 4 ((f_Ma_register G p2 24).toNatClampNeg)) O hok.1) rfl key_Ma_write rfl ins_Ma_write sel_Ma_write ml_Ma_51 (g_rec3 hB) rfl hl.1 ⟨Nat.le_of_ble_eq_true rfl, Nat.le_of_ble_eq_true rfl, Nat.le_of_ble_eq_true rfl, Nat.le_of_ble_eq_true rfl⟩ d_Ma_moveNumbers_84 (fun H locs hB => ?_)
      replace hok := hok.2
      refine lv_goto (tgt := 144) hx hb d_Ma_moveNumbers_87 (by decide) ?_
      exact g_vret hC hB hr hlk (by decide) (by decide) rfl hf d_Ma_moveNumbers_144
    · replace hf := hf.trans (if_neg c3)
      replace hok := hok.2 c3
      by_cases c4 : p1 = 7
      · replace hf := hf.trans (if_pos c4)
        replace hok := hok.1 c4
        refine g_switch (tgt := 90) hC d_Ma_moveNumbers_35 (fun i hi => by show i < 3; omega) (by rw [c4]; decide) ?_
        refine lv_aload_n hx hb d_Ma_moveNumbers_90 rfl (lv_at hl 3 rfl) ?_
        refine gr_3_0 hC hB fl_Ma_9 d_Ma_moveNumbers_91 ?_
        refine lv_iload_n hx hb d_Ma_moveNumbers_94 rfl (lv_at hl 2 rfl) ?_
        refine ga_4 (x := (G 4 ((f_Ma_register G p2 24).toNatClampNeg))) hC hB hok.1 rfl d_Ma_moveNumbers_95 ?_
        replace hok := hok.2
        refine lv_if_eq (tgt := 144) hx hb d_Ma_moveNumbers_96 (by decide) (fun c1 => ?_) (fun c1 => ?_)
        · replace hf := hf.trans (if_pos c1)
          exact g_vret hC hB hr hlk (by decide) (by decide) rfl hf d_Ma_moveNumbers_144
        · replace hf := hf.trans (if_neg c1)
          refine lv_aload_n hx hb d_Ma_moveNumbers_99 rfl (lv_at hl 3 rfl) ?_
          refine lv_aload_n hx hb d_Ma_moveNumbers_100 rfl (lv_at hl 3 rfl) ?_
          refine gg_3_8 (x := (G 3 8)) hC hB rfl fl_Ma_61 d_Ma_moveNumbers_101 ?_
          refine lv_iload hx hb d_Ma_moveNumbers_104 (lv_at hl 1 rfl) ?_
          refine lv_iadd hx hb d_Ma_moveNumbers_106 ?_
          refine lv_bipush (v := 63) hx hb d_Ma_moveNumbers_107 (by decide) ?_
          refine lv_iand hx hb d_Ma_moveNumbers_109 ?_
          refine gp_3_1 hC hB fl_Ma_28 d_Ma_moveNumbers_110 (fun H locs hB => ?_)
          refine lv_goto (tgt := 144) hx hb d_Ma_moveNumbers_113 (by decide) ?_
          exact g_vret hC hB hr hlk (by decide) (by decide) rfl hf d_Ma_moveNumbers_144
      · replace hf := hf.trans (if_neg c4)
        replace hok := hok.2 c4
        refine g_switch (tgt := 116) hC d_Ma_moveNumbers_35 (fun i hi => by show i < 3; omega) ?_ ?_
        · have e0 := g_ne (k := 5) c2 (by decide)
          have e1 := g_ne (k := 6) c3 (by decide)
          have e2 := g_ne (k := 7) c4 (by decide)
          have e : (p1).toInt < 5 ∨ 7 < (p1).toInt := by omega
          generalize (p1).toInt = z at e ⊢
          rcases e with e | e
          · rw [g_swt, if_pos (by omega)]; decide
          · rw [g_swt, if_pos (by omega)]; decide
        · refine lv_aload_n hx hb d_Ma_moveNumbers_116 rfl (lv_at hl 3 rfl) ?_
          refine lv_dup hx hb d_Ma_moveNumbers_117 rfl ?_
          refine gg_3_3 (x := (G 3 3)) hC hB rfl fl_Ma_34 d_Ma_moveNumbers_118 ?_
          refine lv_iconst (v := 1) hx hb d_Ma_moveNumbers_121 (by decide) ?_
          refine lv_iadd hx hb d_Ma_moveNumbers_122 ?_
          refine gp_3_3 hC hB fl_Ma_34 d_Ma_moveNumbers_123 (fun H locs hB => ?_)
          refine lv_aload_n hx hb d_Ma_moveNumbers_126 rfl (lv_at hl 3 rfl) ?_
          refine lv_bipush (v := 31) hx hb d_Ma_moveNumbers_127 (by decide) ?_
          refine lv_aload_n hx hb d_Ma_moveNumbers_129 rfl (lv_at hl 3 rfl) ?_
          refine gg_3_4 (x := (G 3 4)) hC hB rfl fl_Ma_37 d_Ma_moveNumbers_130 ?_
          refine lv_imul hx hb d_Ma_moveNumbers_133 ?_
          refine lv_aload_n hx hb d_Ma_moveNumbers_134 rfl (lv_at hl 3 rfl) ?_
          refine gr_3_0 hC hB fl_Ma_9 d_Ma_moveNumbers_135 ?_
          refine lv_iload_n hx hb d_Ma_moveNumbers_138 rfl (lv_at hl 2 rfl) ?_
          refine ga_4 (x := (G 4 ((f_Ma_register G p2 24).toNatClampNeg))) hC hB hok.1 rfl d_Ma_moveNumbers_139 ?_
          replace hok := hok.2
          refine lv_iadd hx hb d_Ma_moveNumbers_140 ?_
          refine gp_3_4 hC hB fl_Ma_37 d_Ma_moveNumbers_141 (fun H locs hB => ?_)
          exact g_vret hC hB hr hlk (by decide) (by decide) rfl hf d_Ma_moveNumbers_144
abbrev rm_Ma_compute_3 : Room := { frames := 1, cells := 0, slots := 0, locals := 14 }
def f_Ma_compute_3 (G : gT) (p1 : Int32) (p2 : Int32) : gT := (if p1 = 0 then (f_Ma_stop_3 G 1) else (if p1 = 1 then (f_Ma_write_3 G (f_Ma_register G p2 24) p2.toInt16.toInt32) else (if p1 = 2 then (f_Ma_write_3 G (f_Ma_register G p2 24) ((G 4 ((f_Ma_register G p2 20).toNatClampNeg)) + (G 4 ((f_Ma_register G p2 16).toNatClampNeg)))) else (if p1 = 3 then (f_Ma_write_3 G (f_Ma_register G p2 24) ((G 4 ((f_Ma_register G p2 20).toNatClampNeg)) - (G 4 ((f_Ma_register G p2 16).toNatClampNeg)))) else (if p1 = 4 then (f_Ma_write_3 G (f_Ma_register G p2 24) ((G 4 ((f_Ma_register G p2 20).toNatClampNeg)) ^^^ (G 4 ((f_Ma_register G p2 16).toNatClampNeg)))) else (if p1 = 10 then (f_Ma_write_3 G (f_Ma_register G p2 24) (g_ush (G 4 ((f_Ma_register G p2 20).toNatClampNeg)) ((G 4 ((f_Ma_register G p2 16).toNatClampNeg)) &&& (31 : Int32)))) else (if p1 = 11 then (f_Ma_write_3 G (f_Ma_register G p2 24) ((G 4 ((f_Ma_register G p2 20).toNatClampNeg)) * (G 4 ((f_Ma_register G p2 16).toNatClampNeg)))) else (if p1 = 12 then (if (G 4 ((f_Ma_register G p2 16).toNatClampNeg)) ≤ (G 4 ((f_Ma_register G p2 20).toNatClampNeg)) then (f_Ma_write_3 G (f_Ma_register G p2 24) 0) else (f_Ma_write_3 G (f_Ma_register G p2 24) 1)) else (f_Ma_stop_3 G 2)))))))))
def ok_Ma_compute_3 (G : gT) (p1 : Int32) (p2 : Int32) : Prop := (vp_in (f_Ma_register G p2 20) 264 ∧ (vp_in (f_Ma_register G p2 16) 264 ∧ ((p1 = 0 → True) ∧ (¬ p1 = 0 → ((p1 = 1 → (ok_Ma_write_3 G (f_Ma_register G p2 24) p2.toInt16.toInt32 ∧ True)) ∧ (¬ p1 = 1 → ((p1 = 2 → (ok_Ma_write_3 G (f_Ma_register G p2 24) ((G 4 ((f_Ma_register G p2 20).toNatClampNeg)) + (G 4 ((f_Ma_register G p2 16).toNatClampNeg))) ∧ True)) ∧ (¬ p1 = 2 → ((p1 = 3 → (ok_Ma_write_3 G (f_Ma_register G p2 24) ((G 4 ((f_Ma_register G p2 20).toNatClampNeg)) - (G 4 ((f_Ma_register G p2 16).toNatClampNeg))) ∧ True)) ∧ (¬ p1 = 3 → ((p1 = 4 → (ok_Ma_write_3 G (f_Ma_register G p2 24) ((G 4 ((f_Ma_register G p2 20).toNatClampNeg)) ^^^ (G 4 ((f_Ma_register G p2 16).toNatClampNeg))) ∧ True)) ∧ (¬ p1 = 4 → ((p1 = 10 → (ok_Ma_write_3 G (f_Ma_register G p2 24) (g_ush (G 4 ((f_Ma_register G p2 20).toNatClampNeg)) ((G 4 ((f_Ma_register G p2 16).toNatClampNeg)) &&& (31 : Int32))) ∧ True)) ∧ (¬ p1 = 10 → ((p1 = 11 → (ok_Ma_write_3 G (f_Ma_register G p2 24) ((G 4 ((f_Ma_register G p2 20).toNatClampNeg)) * (G 4 ((f_Ma_register G p2 16).toNatClampNeg))) ∧ True)) ∧ (¬ p1 = 11 → ((p1 = 12 → (((G 4 ((f_Ma_register G p2 16).toNatClampNeg)) ≤ (G 4 ((f_Ma_register G p2 20).toNatClampNeg)) → (ok_Ma_write_3 G (f_Ma_register G p2 24) 0 ∧ True)) ∧ (¬ (G 4 ((f_Ma_register G p2 16).toNatClampNeg)) ≤ (G 4 ((f_Ma_register G p2 20).toNatClampNeg)) → (ok_Ma_write_3 G (f_Ma_register G p2 24) 1 ∧ True)))) ∧ (¬ p1 = 12 → True))))))))))))))))))
set_option maxHeartbeats 4000000 in
set_option maxRecDepth 100000 in
theorem c_Ma_compute_3 (l : Launch) (G : gT) (p1 : Int32) (p2 : Int32) (O : Int64) (hok : ok_Ma_compute_3 G p1 p2) : gMet l y_Ma_compute w_Ma_compute rm_Ma_compute_3 (fun ad => [.ref (ad 3), .int p1, .int p2]) G O (.inl (none)) (f_Ma_compute_3 G p1 p2) O := by
  refine g_body (by decide) (gCode_of _ _ _ _) (fun ad => by simp [lg_sl, Value.category]) ?_
  intro p e s0 s m args below meth c D cI cL ad hC hr hlk htb hB ls hl
  have hC : CallFix p m c b_Ma_compute 6 s args gtb R_Ma := hC
  have hl : lv_has ls 6 [(0, .ref (ad 3)), (1, .int p1), (2, .int p2)] := hl
  have hx := hC.1
  have hb := hC.2.1
  have hf : f_Ma_compute_3 G p1 p2 = (if p1 = 0 then (f_Ma_stop_3 G 1) else (if p1 = 1 then (f_Ma_write_3 G (f_Ma_register G p2 24) p2.toInt16.toInt32) else (if p1 = 2 then (f_Ma_write_3 G (f_Ma_register G p2 24) ((G 4 ((f_Ma_register G p2 20).toNatClampNeg)) + (G 4 ((f_Ma_register G p2 16).toNatClampNeg)))) else (if p1 = 3 then (f_Ma_write_3 G (f_Ma_register G p2 24) ((G 4 ((f_Ma_register G p2 20).toNatClampNeg)) - (G 4 ((f_Ma_register G p2 16).toNatClampNeg)))) else (if p1 = 4 then (f_Ma_write_3 G (f_Ma_register G p2 24) ((G 4 ((f_Ma_register G p2 20).toNatClampNeg)) ^^^ (G 4 ((f_Ma_register G p2 16).toNatClampNeg)))) else (if p1 = 10 then (f_Ma_write_3 G (f_Ma_register G p2 24) (g_ush (G 4 ((f_Ma_register G p2 20).toNatClampNeg)) ((G 4 ((f_Ma_register G p2 16).toNatClampNeg)) &&& (31 : Int32)))) else (if p1 = 11 then (f_Ma_write_3 G (f_Ma_register G p2 24) ((G 4 ((f_Ma_register G p2 20).toNatClampNeg)) * (G 4 ((f_Ma_register G p2 16).toNatClampNeg)))) else (if p1 = 12 then (if (G 4 ((f_Ma_register G p2 16).toNatClampNeg)) ≤ (G 4 ((f_Ma_register G p2 20).toNatClampNeg)) then (f_Ma_write_3 G (f_Ma_register G p2 24) 0) else (f_Ma_write_3 G (f_Ma_register G p2 24) 1)) else (f_Ma_stop_3 G 2))))))))) := rfl
  have hok : (vp_in (f_Ma_register G p2 20) 264 ∧ (vp_in (f_Ma_register G p2 16) 264 ∧ ((p1 = 0 → True) ∧ (¬ p1 = 0 → ((p1 = 1 → (ok_Ma_write_3 G (f_Ma_register G p2 24) p2.toInt16.toInt32 ∧ True)) ∧ (¬ p1 = 1 → ((p1 = 2 → (ok_Ma_write_3 G (f_Ma_register G p2 24) ((G 4 ((f_Ma_register G p2 20).toNatClampNeg)) + (G 4 ((f_Ma_register G p2 16).toNatClampNeg))) ∧ True)) ∧ (¬ p1 = 2 → ((p1 = 3 → (ok_Ma_write_3 G (f_Ma_register G p2 24) ((G 4 ((f_Ma_register G p2 20).toNatClampNeg)) - (G 4 ((f_Ma_register G p2 16).toNatClampNeg))) ∧ True)) ∧ (¬ p1 = 3 → ((p1 = 4 → (ok_Ma_write_3 G (f_Ma_register G p2 24) ((G 4 ((f_Ma_register G p2 20).toNatClampNeg)) ^^^ (G 4 ((f_Ma_register G p2 16).toNatClampNeg))) ∧ True)) ∧ (¬ p1 = 4 → ((p1 = 10 → (ok_Ma_write_3 G (f_Ma_register G p2 24) (g_ush (G 4 ((f_Ma_register G p2 20).toNatClampNeg)) ((G 4 ((f_Ma_register G p2 16).toNatClampNeg)) &&& (31 : Int32))) ∧ True)) ∧ (¬ p1 = 10 → ((p1 = 11 → (ok_Ma_write_3 G (f_Ma_register G p2 24) ((G 4 ((f_Ma_register G p2 20).toNatClampNeg)) * (G 4 ((f_Ma_register G p2 16).toNatClampNeg))) ∧ True)) ∧ (¬ p1 = 11 → ((p1 = 12 → (((G 4 ((f_Ma_register G p2 16).toNatClampNeg)) ≤ (G 4 ((f_Ma_register G p2 20).toNatClampNeg)) → (ok_Ma_write_3 G (f_Ma_register G p2 24) 0 ∧ True)) ∧ (¬ (G 4 ((f_Ma_register G p2 16).toNatClampNeg)) ≤ (G 4 ((f_Ma_register G p2 20).toNatClampNeg)) → (ok_Ma_write_3 G (f_Ma_register G p2 24) 1 ∧ True)))) ∧ (¬ p1 = 12 → True)))))))))))))))))) := hok
  refine lv_iload_n hx hb d_Ma_compute_0 rfl (lv_at hl 2 rfl) ?_
  refine lv_bipush (v := 24) hx hb d_Ma_compute_1 (by decide) ?_
  refine g_callSi (As := [.int p2, .int 24]) (rest := []) hC hB (c_Ma_register l G p2 24 O) rfl key_Ma_register rfl sta_Ma_register ml_Ma_47 rfl hl.1 ⟨Nat.le_of_ble_eq_true rfl, Nat.le_of_ble_eq_true rfl, Nat.le_of_ble_eq_true rfl, Nat.le_of_ble_eq_true rfl⟩ d_Ma_compute_3 (fun H locs hB => ?_)
  refine lv_istore_n (lv' := [(3, .int (f_Ma_register G p2 24)), (0, .ref (ad 3)), (1, .int p1), (2, .int p2)]) hx hb d_Ma_compute_6 rfl hl (by decide) rfl (fun ls hl => ?_)
  refine lv_aload_n hx hb d_Ma_compute_7 rfl (lv_at hl 1 rfl) ?_
  refine gr_3_0 hC hB fl_Ma_9 d_Ma_compute_8 ?_
  refine lv_iload_n hx hb d_Ma_compute_11 rfl (lv_at hl 3 rfl) ?_
  refine lv_bipush (v := 20) hx hb d_Ma_compute_12 (by decide) ?_
  refine g_callSi (As := [.int p2, .int 20]) (rest := [.ref (ad 4)]) hC hB (c_Ma_register l G p2 20 O) rfl key_Ma_register rfl sta_Ma_register ml_Ma_47 rfl hl.1 ⟨Nat.le_of_ble_eq_true rfl, Nat.le_of_ble_eq_true rfl, Nat.le_of_ble_eq_true rfl, Nat.le_of_ble_eq_true rfl⟩ d_Ma_compute_14 (fun H locs hB => ?_)
  refine ga_4 (x := (G 4 ((f_Ma_register G p2 20).toNatClampNeg))) hC hB hok.1 rfl d_Ma_compute_17 ?_
  replace hok := hok.2
  refine lv_istore (lv' := [(4, .int (G 4 ((f_Ma_register G p2 20).toNatClampNeg))), (3, .int (f_Ma_register G p2 24)), (0, .ref (ad 3)), (1, .int p1), (2, .int p2)]) hx hb d_Ma_compute_18 hl (by decide) rfl (fun ls hl => ?_)
  refine lv_aload_n hx hb d_Ma_compute_20 rfl (lv_at hl 2 rfl) ?_
  refine gr_3_0 hC hB fl_Ma_9 d_Ma_compute_21 ?_
  refine lv_iload_n hx hb d_Ma_compute_24 rfl (lv_at hl 4 rfl) ?_
  refine lv_bipush (v := 16) hx hb d_Ma_compute_25 (by decide) ?_
  refine g_callSi (As := [.int p2, .int 16]) (rest := [.ref (ad 4)]) hC hB (c_Ma_register l G p2 16 O) rfl key_Ma_register rfl sta_Ma_register ml_Ma_47 rfl hl.1 ⟨Nat.le_of_ble_eq_true rfl, Nat.le_of_ble_eq_true rfl, Nat.le_of_ble_eq_true rfl, Nat.le_of_ble_eq_true rfl⟩ d_Ma_compute_27 (fun H locs hB => ?_)
  refine ga_4 (x := (G 4 ((f_Ma_register G p2 16).toNatClampNeg))) hC hB hok.1 rfl d_Ma_compute_30 ?_
  replace hok := hok.2
  refine lv_istore (lv' := [(5, .int (G 4 ((f_Ma_register G p2 16).toNatClampNeg))), (4, .int (G 4 ((f_Ma_register G p2 20).toNatClampNeg))), (3, .int (f_Ma_register G p2 24)), (0, .ref (ad 3)), (1, .int p1), (2, .int p2)]) hx hb d_Ma_compute_31 hl (by decide) rfl (fun ls hl => ?_)
  refine lv_iload_n hx hb d_Ma_compute_33 rfl (lv_at hl 4 rfl) ?_
  by_cases c2 : p1 = 0
  · replace hf := hf.trans (if_pos c2)
    replace hok := hok.1 c2
    refine g_switch (tgt := 100) hC d_Ma_compute_34 (fun i hi => by show i < 13; omega) (by rw [c2]; decide) ?_
    refine lv_aload_n hx hb d_Ma_compute_100 rfl (lv_at hl 3 rfl) ?_
    refine lv_iconst (v := 1) hx hb d_Ma_compute_101 (by decide) ?_
    refine g_callVv (b := ad 3) (As := [.int 1]) (rest := []) hC hB (c_Ma_stop_3 l G 1 O) rfl key_Ma_stop rfl ins_Ma_stop sel_Ma_stop ml_Ma_73 (g_rec3 hB) rfl hl.1 ⟨Nat.le_of_ble_eq_true rfl, Nat.le_of_ble_eq_true rfl, Nat.le_of_ble_eq_true rfl, Nat.le_of_ble_eq_true rfl⟩ d_Ma_compute_102 (fun H locs hB => ?_)
    refine lv_goto (tgt := 211) hx hb d_Ma_compute_105 (by decide) ?_
    exact g_vret hC hB hr hlk (by decide) (by decide) rfl hf d_Ma_compute_211
  · replace hf := hf.trans (if_neg c2)
    replace hok := hok.2 c2
    by_cases c3 : p1 = 1
    · replace hf := hf.trans (if_pos c3)
      replace hok := hok.1 c3
      refine g_switch (tgt := 108) hC d_Ma_compute_34 (fun i hi => by show i < 13; omega) (by rw [c3]; decide) ?_
      refine lv_aload_n hx hb d_Ma_compute_108 rfl (lv_at hl 3 rfl) ?_
      refine lv_iload_n hx hb d_Ma_compute_109 rfl (lv_at hl 2 rfl) ?_
      refine lv_iload_n hx hb d_Ma_compute_110 rfl (lv_at hl 5 rfl) ?_
      refine lv_i2s (v := p2.toInt16.toInt32) hx hb d_Ma_compute_111 rfl ?_
      refine g_callVv (b := ad 3) (As := [.int (f_Ma_register G p2 24), .int p2.toInt16.toInt32]) (rest := []) hC hB (c_Ma_write_3 l G (f_Ma_register G p2 24) p2.toInt16.toInt32 O hok.1) rfl key_Ma_write rfl ins_Ma_write sel_Ma_write ml_Ma_51 (g_rec3 hB) rfl hl.1 ⟨Nat.le_of_ble_eq_true rfl, Nat.le_of_ble_eq_true rfl, Nat.le_of_ble_eq_true rfl, Nat.le_of_ble_eq_true rfl⟩ d_Ma_compute_112 (fun H locs hB => ?_)
      replace hok := hok.2
      refine lv_goto (tgt := 211) hx hb d_Ma_compute_115 (by decide) ?_
      exact g_vret hC hB hr hlk (by decide) (by decide) rfl hf d_Ma_compute_211
    · replace hf := hf.trans (if_neg c3)
      replace hok := hok.2 c3
      by_cases c4 : p1 = 2
      · replace hf := hf.trans (if_pos c4)
        replace hok := hok.1 c4
        refine g_switch (tgt := 118) hC d_Ma_compute_34 (fun i hi => by show i < 13; omega) (by rw [c4]; decide) ?_
        refine lv_aload_n hx hb d_Ma_compute_118 rfl (lv_at hl 3 rfl) ?_
        refine lv_iload_n hx hb d_Ma_compute_119 rfl (lv_at hl 2 rfl) ?_
        refine lv_iload hx hb d_Ma_compute_120 (lv_at hl 1 rfl) ?_
        refine lv_iload hx hb d_Ma_compute_122 (lv_at hl 0 rfl) ?_
        refine lv_iadd hx hb d_Ma_compute_124 ?_
        refine g_callVv (b := ad 3) (As := [.int (f_Ma_register G p2 24), .int ((G 4 ((f_Ma_register G p2 20).toNatClampNeg)) + (G 4 ((f_Ma_register G p2 16).toNatClampNeg)))]) (rest := []) hC hB (c_Ma_write_3 l G (f_Ma_register G p2 24) ((G 4 ((f_Ma_register G p2 20).toNatClampNeg)) + (G 4 ((f_Ma_register G p2 16).toNatClampNeg))) O hok.1) rfl key_Ma_write rfl ins_Ma_write sel_Ma_write ml_Ma_51 (g_rec3 hB) rfl hl.1 ⟨Nat.le_of_ble_eq_true rfl, Nat.le_of_ble_eq_true rfl, Nat.le_of_ble_eq_true rfl, Nat.le_of_ble_eq_true rfl⟩ d_Ma_compute_125 (fun H locs hB => ?_)
        replace hok := hok.2
        refine lv_goto (tgt := 211) hx hb d_Ma_compute_128 (by decide) ?_
        exact g_vret hC hB hr hlk (by decide) (by decide) rfl hf d_Ma_compute_211
      · replace hf := hf.trans (if_neg c4)
        replace hok := hok.2 c4
        by_cases c5 : p1 = 3
        · replace hf := hf.trans (if_pos c5)
          replace hok := hok.1 c5
          refine g_switch (tgt := 131) hC d_Ma_compute_34 (fun i hi => by show i < 13; omega) (by rw [c5]; decide) ?_
          refine lv_aload_n hx hb d_Ma_compute_131 rfl (lv_at hl 3 rfl) ?_
          refine lv_iload_n hx hb d_Ma_compute_132 rfl (lv_at hl 2 rfl) ?_
          refine lv_iload hx hb d_Ma_compute_133 (lv_at hl 1 rfl) ?_
          refine lv_iload hx hb d_Ma_compute_135 (lv_at hl 0 rfl) ?_
          refine lv_isub hx hb d_Ma_compute_137 ?_
          refine g_callVv (b := ad 3) (As := [.int (f_Ma_register G p2 24), .int ((G 4 ((f_Ma_register G p2 20).toNatClampNeg)) - (G 4 ((f_Ma_register G p2 16).toNatClampNeg)))]) (rest := []) hC hB (c_Ma_write_3 l G (f_Ma_register G p2 24) ((G 4 ((f_Ma_register G p2 20).toNatClampNeg)) - (G 4 ((f_Ma_register G p2 16).toNatClampNeg))) O hok.1) rfl key_Ma_write rfl ins_Ma_write sel_Ma_write ml_Ma_51 (g_rec3 hB) rfl hl.1 ⟨Nat.le_of_ble_eq_true rfl, Nat.le_of_ble_eq_true rfl, Nat.le_of_ble_eq_true rfl, Nat.le_of_ble_eq_true rfl⟩ d_Ma_compute_138 (fun H locs hB => ?_)
          replace hok := hok.2
          refine lv_goto (tgt := 211) hx hb d_Ma_compute_141 (by decide) ?_
          exact g_vret hC hB hr hlk (by decide) (by decide) rfl hf d_Ma_compute_211
        · replace hf := hf.trans (if_neg c5)
          replace hok := hok.2 c5
          by_cases c6 : p1 = 4
          · replace hf := hf.trans (if_pos c6)
            replace hok := hok.1 c6
            refine g_switch (tgt := 144) hC d_Ma_compute_34 (fun i hi => by show i < 13; omega) (by rw [c6]; decide) ?_
            refine lv_aload_n hx hb d_Ma_compute_144 rfl (lv_at hl 3 rfl) ?_
            refine lv_iload_n hx hb d_Ma_compute_145 rfl (lv_at hl 2 rfl) ?_
            refine lv_iload hx hb d_Ma_compute_146 (lv_at hl 1 rfl) ?_
            refine lv_iload hx hb d_Ma_compute_148 (lv_at hl 0 rfl) ?_
            refine lv_ixor hx hb d_Ma_compute_150 ?_
            refine g_callVv (b := ad 3) (As := [.int (f_Ma_register G p2 24), .int ((G 4 ((f_Ma_register G p2 20).toNatClampNeg)) ^^^ (G 4 ((f_Ma_register G p2 16).toNatClampNeg)))]) (rest := []) hC hB (c_Ma_write_3 l G (f_Ma_register G p2 24) ((G 4 ((f_Ma_register G p2 20).toNatClampNeg)) ^^^ (G 4 ((f_Ma_register G p2 16).toNatClampNeg))) O hok.1) rfl key_Ma_write rfl ins_Ma_write sel_Ma_write ml_Ma_51 (g_rec3 hB) rfl hl.1 ⟨Nat.le_of_ble_eq_true rfl, Nat.le_of_ble_eq_true rfl, Nat.le_of_ble_eq_true rfl, Nat.le_of_ble_eq_true rfl⟩ d_Ma_compute_151 (fun H locs hB => ?_)
            replace hok := hok.2
            refine lv_goto (tgt := 211) hx hb d_Ma_compute_154 (by decide) ?_
            exact g_vret hC hB hr hlk (by decide) (by decide) rfl hf d_Ma_compute_211
          · replace hf := hf.trans (if_neg c6)
            replace hok := hok.2 c6
            by_cases c7 : p1 = 10
            · replace hf := hf.trans (if_pos c7)
              replace hok := hok.1 c7
              refine g_switch (tgt := 157) hC d_Ma_compute_34 (fun i hi => by show i < 13; omega) (by rw [c7]; decide) ?_
              refine lv_aload_n hx hb d_Ma_compute_157 rfl (lv_at hl 3 rfl) ?_
              refine lv_iload_n hx hb d_Ma_compute_158 rfl (lv_at hl 2 rfl) ?_
              refine lv_iload hx hb d_Ma_compute_159 (lv_at hl 1 rfl) ?_
              refine lv_iload hx hb d_Ma_compute_161 (lv_at hl 0 rfl) ?_
              refine lv_bipush (v := 31) hx hb d_Ma_compute_163 (by decide) ?_
              refine lv_iand hx hb d_Ma_compute_165 ?_
              refine lv_iushr (v := g_ush (G 4 ((f_Ma_register G p2 20).toNatClampNeg)) ((G 4 ((f_Ma_register G p2 16).toNatClampNeg)) &&& (31 : Int32))) hx hb d_Ma_compute_166 rfl ?_
              refine g_callVv (b := ad 3) (As := [.int (f_Ma_register G p2 24), .int (g_ush (G 4 ((f_Ma_register G p2 20).toNatClampNeg)) ((G 4 ((f_Ma_register G p2 16).toNatClampNeg)) &&& (31 : Int32)))]) (rest := []) hC hB (c_Ma_write_3 l G (f_Ma_register G p2 24) (g_ush (G 4 ((f_Ma_register G p2 20).toNatClampNeg)) ((G 4 ((f_Ma_register G p2 16).toNatClampNeg)) &&& (31 : Int32))) O hok.1) rfl key_Ma_write rfl ins_Ma_write sel_Ma_write ml_Ma_51 (g_rec3 hB) rfl hl.1 ⟨Nat.le_of_ble_eq_true rfl, Nat.le_of_ble_eq_true rfl, Nat.le_of_ble_eq_true rfl, Nat.le_of_ble_eq_true rfl⟩ d_Ma_compute_167 (fun H locs hB => ?_)
              replace hok := hok.2
              refine lv_goto (tgt := 211) hx hb d_Ma_compute_170 (by decide) ?_
              exact g_vret hC hB hr hlk (by decide) (by decide) rfl hf d_Ma_compute_211
            · replace hf := hf.trans (if_neg c7)
              replace hok := hok.2 c7
              by_cases c8 : p1 = 11
              · replace hf := hf.trans (if_pos c8)
                replace hok := hok.1 c8
                refine g_switch (tgt := 173) hC d_Ma_compute_34 (fun i hi => by show i < 13; omega) (by rw [c8]; decide) ?_
                refine lv_aload_n hx hb d_Ma_compute_173 rfl (lv_at hl 3 rfl) ?_
                refine lv_iload_n hx hb d_Ma_compute_174 rfl (lv_at hl 2 rfl) ?_
                refine lv_iload hx hb d_Ma_compute_175 (lv_at hl 1 rfl) ?_
                refine lv_iload hx hb d_Ma_compute_177 (lv_at hl 0 rfl) ?_
                refine lv_imul hx hb d_Ma_compute_179 ?_
                refine g_callVv (b := ad 3) (As := [.int (f_Ma_register G p2 24), .int ((G 4 ((f_Ma_register G p2 20).toNatClampNeg)) * (G 4 ((f_Ma_register G p2 16).toNatClampNeg)))]) (rest := []) hC hB (c_Ma_write_3 l G (f_Ma_register G p2 24) ((G 4 ((f_Ma_register G p2 20).toNatClampNeg)) * (G 4 ((f_Ma_register G p2 16).toNatClampNeg))) O hok.1) rfl key_Ma_write rfl ins_Ma_write sel_Ma_write ml_Ma_51 (g_rec3 hB) rfl hl.1 ⟨Nat.le_of_ble_eq_true rfl, Nat.le_of_ble_eq_true rfl, Nat.le_of_ble_eq_true rfl, Nat.le_of_ble_eq_true rfl⟩ d_Ma_compute_180 (fun H locs hB => ?_)
                replace hok := hok.2
                refine lv_goto (tgt := 211) hx hb d_Ma_compute_183 (by decide) ?_
                exact g_vret hC hB hr hlk (by decide) (by decide) rfl hf d_Ma_compute_211
              · replace hf := hf.trans (if_neg c8)
                replace hok := hok.2 c8
                by_cases c9 : p1 = 12
                · replace hf := hf.trans (if_pos c9)
                  replace hok := hok.1 c9
                  refine g_switch (tgt := 186) hC d_Ma_compute_34 (fun i hi => by show i < 13; omega) (by rw [c9]; decide) ?_
                  refine lv_aload_n hx hb d_Ma_compute_186 rfl (lv_at hl 3 rfl) ?_
                  refine lv_iload_n hx hb d_Ma_compute_187 rfl (lv_at hl 2 rfl) ?_
                  refine lv_iload hx hb d_Ma_compute_188 (lv_at hl 1 rfl) ?_
                  refine lv_iload hx hb d_Ma_compute_190 (lv_at hl 0 rfl) ?_
                  refine lv_icmp_ge (tgt := 199) hx hb d_Ma_compute_192 (by decide) (fun c1 => ?_) (fun c1 => ?_)
                  · replace hf := hf.trans (if_pos c1)
                    replace hok := hok.1 c1
                    refine lv_iconst (v := 0) hx hb d_Ma_compute_199 (by decide) ?_
                    refine g_callVv (b := ad 3) (As := [.int (f_Ma_register G p2 24), .int 0]) (rest := []) hC hB (c_Ma_write_3 l G (f_Ma_register G p2 24) 0 O hok.1) rfl key_Ma_write rfl ins_Ma_write sel_Ma_write ml_Ma_51 (g_rec3 hB) rfl hl.1 ⟨Nat.le_of_ble_eq_true rfl, Nat.le_of_ble_eq_true rfl, Nat.le_of_ble_eq_true rfl, Nat.le_of_ble_eq_true rfl⟩ d_Ma_compute_200 (fun H locs hB => ?_)
                    replace hok := hok.2
                    refine lv_goto (tgt := 211) hx hb d_Ma_compute_203 (by decide) ?_
                    exact g_vret hC hB hr hlk (by decide) (by decide) rfl hf d_Ma_compute_211
                  · replace hf := hf.trans (if_neg c1)
                    replace hok := hok.2 c1
                    refine lv_iconst (v := 1) hx hb d_Ma_compute_195 (by decide) ?_
                    refine lv_goto (tgt := 200) hx hb d_Ma_compute_196 (by decide) ?_
                    refine g_callVv (b := ad 3) (As := [.int (f_Ma_register G p2 24), .int 1]) (rest := []) hC hB (c_Ma_write_3 l G (f_Ma_register G p2 24) 1 O hok.1) rfl key_Ma_write rfl ins_Ma_write sel_Ma_write ml_Ma_51 (g_rec3 hB) rfl hl.1 ⟨Nat.le_of_ble_eq_true rfl, Nat.le_of_ble_eq_true rfl, Nat.le_of_ble_eq_true rfl, Nat.le_of_ble_eq_true rfl⟩ d_Ma_compute_200 (fun H locs hB => ?_)
                    replace hok := hok.2
                    refine lv_goto (tgt := 211) hx hb d_Ma_compute_203 (by decide) ?_
                    exact g_vret hC hB hr hlk (by decide) (by decide) rfl hf d_Ma_compute_211
                · replace hf := hf.trans (if_neg c9)
                  replace hok := hok.2 c9
                  refine g_switch (tgt := 206) hC d_Ma_compute_34 (fun i hi => by show i < 13; omega) ?_ ?_
                  · have e0 := g_ne (k := 0) c2 (by decide)
                    have e1 := g_ne (k := 1) c3 (by decide)
                    have e2 := g_ne (k := 2) c4 (by decide)
                    have e3 := g_ne (k := 3) c5 (by decide)
                    have e4 := g_ne (k := 4) c6 (by decide)
                    have e5 := g_ne (k := 10) c7 (by decide)
                    have e6 := g_ne (k := 11) c8 (by decide)
                    have e7 := g_ne (k := 12) c9 (by decide)
                    have e : (p1).toInt < 0 ∨ (p1).toInt = 5 ∨ (p1).toInt = 6 ∨ (p1).toInt = 7 ∨ (p1).toInt = 8 ∨ (p1).toInt = 9 ∨ 12 < (p1).toInt := by omega
                    generalize (p1).toInt = z at e ⊢
                    rcases e with e | e | e | e | e | e | e
                    · rw [g_swt, if_pos (by omega)]; decide
                    · rw [e]; decide
                    · rw [e]; decide
                    · rw [e]; decide
                    · rw [e]; decide
                    · rw [e]; decide
                    · rw [g_swt, if_pos (by omega)]; decide
                  · refine lv_aload_n hx hb d_Ma_compute_206 rfl (lv_at hl 3 rfl) ?_
                    refine lv_iconst (v := 2) hx hb d_Ma_compute_207 (by decide) ?_
                    refine g_callVv (b := ad 3) (As := [.int 2]) (rest := []) hC hB (c_Ma_stop_3 l G 2 O) rfl key_Ma_stop rfl ins_Ma_stop sel_Ma_stop ml_Ma_73 (g_rec3 hB) rfl hl.1 ⟨Nat.le_of_ble_eq_true rfl, Nat.le_of_ble_eq_true rfl, Nat.le_of_ble_eq_true rfl, Nat.le_of_ble_eq_true rfl⟩ d_Ma_compute_208 (fun H locs hB => ?_)
                    exact g_vret hC hB hr hlk (by decide) (by decide) rfl hf d_Ma_compute_211
abbrev rm_Ma_advance_3 : Room := { frames := 2, cells := 0, slots := 0, locals := 32 }
def f_Ma_advance_3 (G : gT) (p3 : Int32) : Int32 × gT := (if (G 3 5) = 0 then (if (f_Ma_wouldWait_3 G p3) = 0 then (if (g_ush (G 1 ((G 3 1).toNatClampNeg)) 28) = 8 then (1, (g_up (f_Ma_write_3 (g_up (f_Ma_rememberBefore_3 G) 3 1 ((((f_Ma_rememberBefore_3 G) 3 1) + (1 : Int32)) &&& (63 : Int32))) (f_Ma_register (g_up (f_Ma_rememberBefore_3 G) 3 1 ((((f_Ma_rememberBefore_3 G) 3 1) + (1 : Int32)) &&& (63 : Int32))) (G 1 ((G 3 1).toNatClampNeg)) 24) ((f_Ma_rememberBefore_3 G) 2 (((f_Ma_rememberBefore_3 G) 3 2).toNatClampNeg))) 3 2 (((f_Ma_write_3 (g_up (f_Ma_rememberBefore_3 G) 3 1 ((((f_Ma_rememberBefore_3 G) 3 1) + (1 : Int32)) &&& (63 : Int32))) (f_Ma_register (g_up (f_Ma_rememberBefore_3 G) 3 1 ((((f_Ma_rememberBefore_3 G) 3 1) + (1 : Int32)) &&& (63 : Int32))) (G 1 ((G 3 1).toNatClampNeg)) 24) ((f_Ma_rememberBefore_3 G) 2 (((f_Ma_rememberBefore_3 G) 3 2).toNatClampNeg))) 3 2) + (1 : Int32)))) else (if (g_ush (G 1 ((G 3 1).toNatClampNeg)) 28) < 5 then (1, (f_Ma_compute_3 (g_up (f_Ma_rememberBefore_3 G) 3 1 ((((f_Ma_rememberBefore_3 G) 3 1) + (1 : Int32)) &&& (63 : Int32))) (g_ush (G 1 ((G 3 1).toNatClampNeg)) 28) (G 1 ((G 3 1).toNatClampNeg)))) else (if (9 : Int32) < (g_ush (G 1 ((G 3 1).toNatClampNeg)) 28) then (1, (f_Ma_compute_3 (g_up (f_Ma_rememberBefore_3 G) 3 1 ((((f_Ma_rememberBefore_3 G) 3 1) + (1 : Int32)) &&& (63 : Int32))) (g_ush (G 1 ((G 3 1).toNatClampNeg)) 28) (G 1 ((G 3 1).toNatClampNeg)))) else (1, (f_Ma_moveNumbers_3 (g_up (f_Ma_rememberBefore_3 G) 3 1 ((((f_Ma_rememberBefore_3 G) 3 1) + (1 : Int32)) &&& (63 : Int32))) (g_ush (G 1 ((G 3 1).toNatClampNeg)) 28) (G 1 ((G 3 1).toNatClampNeg))))))) else (0, G)) else (0, G))
def ok_Ma_advance_3 (G : gT) (p3 : Int32) : Prop := (((G 3 5) = 0 → (ok_Ma_wouldWait_3 G p3 ∧ (((f_Ma_wouldWait_3 G p3) = 0 → (vp_in (G 3 1) 64 ∧ (((g_ush (G 1 ((G 3 1).toNatClampNeg)) 28) = 8 → (vp_in ((f_Ma_rememberBefore_3 G) 3 2) 200 ∧ (ok_Ma_write_3 (g_up (f_Ma_rememberBefore_3 G) 3 1 ((((f_Ma_rememberBefore_3 G) 3 1) + (1 : Int32)) &&& (63 : Int32))) (f_Ma_register (g_up (f_Ma_rememberBefore_3 G) 3 1 ((((f_Ma_rememberBefore_3 G) 3 1) + (1 : Int32)) &&& (63 : Int32))) (G 1 ((G 3 1).toNatClampNeg)) 24) ((f_Ma_rememberBefore_3 G) 2 (((f_Ma_rememberBefore_3 G) 3 2).toNatClampNeg)) ∧ True))) ∧ (¬ (g_ush (G 1 ((G 3 1).toNatClampNeg)) 28) = 8 → (((g_ush (G 1 ((G 3 1).toNatClampNeg)) 28) < 5 → (ok_Ma_compute_3 (g_up (f_Ma_rememberBefore_3 G) 3 1 ((((f_Ma_rememberBefore_3 G) 3 1) + (1 : Int32)) &&& (63 : Int32))) (g_ush (G 1 ((G 3 1).toNatClampNeg)) 28) (G 1 ((G 3 1).toNatClampNeg)) ∧ True)) ∧ (¬ (g_ush (G 1 ((G 3 1).toNatClampNeg)) 28) < 5 → (((9 : Int32) < (g_ush (G 1 ((G 3 1).toNatClampNeg)) 28) → (ok_Ma_compute_3 (g_up (f_Ma_rememberBefore_3 G) 3 1 ((((f_Ma_rememberBefore_3 G) 3 1) + (1 : Int32)) &&& (63 : Int32))) (g_ush (G 1 ((G 3 1).toNatClampNeg)) 28) (G 1 ((G 3 1).toNatClampNeg)) ∧ True)) ∧ (¬ (9 : Int32) < (g_ush (G 1 ((G 3 1).toNatClampNeg)) 28) → (ok_Ma_moveNumbers_3 (g_up (f_Ma_rememberBefore_3 G) 3 1 ((((f_Ma_rememberBefore_3 G) 3 1) + (1 : Int32)) &&& (63 : Int32))) (g_ush (G 1 ((G 3 1).toNatClampNeg)) 28) (G 1 ((G 3 1).toNatClampNeg)) ∧ True))))))))) ∧ (¬ (f_Ma_wouldWait_3 G p3) = 0 → True)))) ∧ (¬ (G 3 5) = 0 → True))
set_option maxHeartbeats 4000000 in
set_option maxRecDepth 100000 in
theorem c_Ma_advance_3 (l : Launch) (G : gT) (p3 : Int32) (O : Int64) (hok : ok_Ma_advance_3 G p3) : gMet l y_Ma_advance w_Ma_advance rm_Ma_advance_3 (fun ad => [.ref (ad 3), .ref (ad 1), .ref (ad 2), .int p3]) G O (.inl (some (.int (f_Ma_advance_3 G p3).1))) ((f_Ma_advance_3 G p3).2) O := by
  refine g_body (by decide) (gCode_of _ _ _ _) (fun ad => by simp [lg_sl, Value.category]) ?_
  intro p e s0 s m args below meth c D cI cL ad hC hr hlk htb hB ls hl
  have hC : CallFix p m c b_Ma_advance 6 s args gtb R_Ma := hC
  have hl : lv_has ls 6 [(0, .ref (ad 3)), (1, .ref (ad 1)), (2, .ref (ad 2)), (3, .int p3)] := hl
  have hx := hC.1
  have hb := hC.2.1
  have hf : f_Ma_advance_3 G p3 = (if (G 3 5) = 0 then (if (f_Ma_wouldWait_3 G p3) = 0 then (if (g_ush (G 1 ((G 3 1).toNatClampNeg)) 28) = 8 then (1, (g_up (f_Ma_write_3 (g_up (f_Ma_rememberBefore_3 G) 3 1 ((((f_Ma_rememberBefore_3 G) 3 1) + (1 : Int32)) &&& (63 : Int32))) (f_Ma_register (g_up (f_Ma_rememberBefore_3 G) 3 1 ((((f_Ma_rememberBefore_3 G) 3 1) + (1 : Int32)) &&& (63 : Int32))) (G 1 ((G 3 1).toNatClampNeg)) 24) ((f_Ma_rememberBefore_3 G) 2 (((f_Ma_rememberBefore_3 G) 3 2).toNatClampNeg))) 3 2 (((f_Ma_write_3 (g_up (f_Ma_rememberBefore_3 G) 3 1 ((((f_Ma_rememberBefore_3 G) 3 1) + (1 : Int32)) &&& (63 : Int32))) (f_Ma_register (g_up (f_Ma_rememberBefore_3 G) 3 1 ((((f_Ma_rememberBefore_3 G) 3 1) + (1 : Int32)) &&& (63 : Int32))) (G 1 ((G 3 1).toNatClampNeg)) 24) ((f_Ma_rememberBefore_3 G) 2 (((f_Ma_rememberBefore_3 G) 3 2).toNatClampNeg))) 3 2) + (1 : Int32)))) else (if (g_ush (G 1 ((G 3 1).toNatClampNeg)) 28) < 5 then (1, (f_Ma_compute_3 (g_up (f_Ma_rememberBefore_3 G) 3 1 ((((f_Ma_rememberBefore_3 G) 3 1) + (1 : Int32)) &&& (63 : Int32))) (g_ush (G 1 ((G 3 1).toNatClampNeg)) 28) (G 1 ((G 3 1).toNatClampNeg)))) else (if (9 : Int32) < (g_ush (G 1 ((G 3 1).toNatClampNeg)) 28) then (1, (f_Ma_compute_3 (g_up (f_Ma_rememberBefore_3 G) 3 1 ((((f_Ma_rememberBefore_3 G) 3 1) + (1 : Int32)) &&& (63 : Int32))) (g_ush (G 1 ((G 3 1).toNatClampNeg)) 28) (G 1 ((G 3 1).toNatClampNeg)))) else (1, (f_Ma_moveNumbers_3 (g_up (f_Ma_rememberBefore_3 G) 3 1 ((((f_Ma_rememberBefore_3 G) 3 1) + (1 : Int32)) &&& (63 : Int32))) (g_ush (G 1 ((G 3 1).toNatClampNeg)) 28) (G 1 ((G 3 1).toNatClampNeg))))))) else (0, G)) else (0, G)) := rfl
  have hok : (((G 3 5) = 0 → (ok_Ma_wouldWait_3 G p3 ∧ (((f_Ma_wouldWait_3 G p3) = 0 → (vp_in (G 3 1) 64 ∧ (((g_ush (G 1 ((G 3 1).toNatClampNeg)) 28) = 8 → (vp_in ((f_Ma_rememberBefore_3 G) 3 2) 200 ∧ (ok_Ma_write_3 (g_up (f_Ma_rememberBefore_3 G) 3 1 ((((f_Ma_rememberBefore_3 G) 3 1) + (1 : Int32)) &&& (63 : Int32))) (f_Ma_register (g_up (f_Ma_rememberBefore_3 G) 3 1 ((((f_Ma_rememberBefore_3 G) 3 1) + (1 : Int32)) &&& (63 : Int32))) (G 1 ((G 3 1).toNatClampNeg)) 24) ((f_Ma_rememberBefore_3 G) 2 (((f_Ma_rememberBefore_3 G) 3 2).toNatClampNeg)) ∧ True))) ∧ (¬ (g_ush (G 1 ((G 3 1).toNatClampNeg)) 28) = 8 → (((g_ush (G 1 ((G 3 1).toNatClampNeg)) 28) < 5 → (ok_Ma_compute_3 (g_up (f_Ma_rememberBefore_3 G) 3 1 ((((f_Ma_rememberBefore_3 G) 3 1) + (1 : Int32)) &&& (63 : Int32))) (g_ush (G 1 ((G 3 1).toNatClampNeg)) 28) (G 1 ((G 3 1).toNatClampNeg)) ∧ True)) ∧ (¬ (g_ush (G 1 ((G 3 1).toNatClampNeg)) 28) < 5 → (((9 : Int32) < (g_ush (G 1 ((G 3 1).toNatClampNeg)) 28) → (ok_Ma_compute_3 (g_up (f_Ma_rememberBefore_3 G) 3 1 ((((f_Ma_rememberBefore_3 G) 3 1) + (1 : Int32)) &&& (63 : Int32))) (g_ush (G 1 ((G 3 1).toNatClampNeg)) 28) (G 1 ((G 3 1).toNatClampNeg)) ∧ True)) ∧ (¬ (9 : Int32) < (g_ush (G 1 ((G 3 1).toNatClampNeg)) 28) → (ok_Ma_moveNumbers_3 (g_up (f_Ma_rememberBefore_3 G) 3 1 ((((f_Ma_rememberBefore_3 G) 3 1) + (1 : Int32)) &&& (63 : Int32))) (g_ush (G 1 ((G 3 1).toNatClampNeg)) 28) (G 1 ((G 3 1).toNatClampNeg)) ∧ True))))))))) ∧ (¬ (f_Ma_wouldWait_3 G p3) = 0 → True)))) ∧ (¬ (G 3 5) = 0 → True)) := hok
  refine lv_aload_n hx hb d_Ma_advance_0 rfl (lv_at hl 0 rfl) ?_
  refine gg_3_5 (x := (G 3 5)) hC hB rfl fl_Ma_15 d_Ma_advance_1 ?_
  refine lv_if_ne (tgt := 16) hx hb d_Ma_advance_4 (by decide) (fun c1 => ?_) (fun c1 => ?_)
  · replace hf := hf.trans (if_neg c1)
    replace hok := hok.2 c1
    refine lv_iconst (v := 0) hx hb d_Ma_advance_16 (by decide) ?_
    exact g_zret hC hB hr hlk (by decide) (by decide) (by decide) (by rw [hf]) (by rw [hf]) d_Ma_advance_17
  · replace hf := hf.trans (if_pos c1)
    replace hok := hok.1 c1
    refine lv_aload_n hx hb d_Ma_advance_7 rfl (lv_at hl 0 rfl) ?_
    refine lv_aload_n hx hb d_Ma_advance_8 rfl (lv_at hl 1 rfl) ?_
    refine lv_iload_n hx hb d_Ma_advance_9 rfl (lv_at hl 3 rfl) ?_
    refine g_callVi (b := ad 3) (As := [.ref (ad 1), .int p3]) (rest := []) hC hB (c_Ma_wouldWait_3 l G p3 O hok.1) rfl key_Ma_wouldWait rfl ins_Ma_wouldWait sel_Ma_wouldWait ml_Ma_40 (g_rec3 hB) rfl hl.1 ⟨Nat.le_of_ble_eq_true rfl, Nat.le_of_ble_eq_true rfl, Nat.le_of_ble_eq_true rfl, Nat.le_of_ble_eq_true rfl⟩ d_Ma_advance_10 (fun H locs hB => ?_)
    replace hok := hok.2
    refine lv_if_eq (tgt := 18) hx hb d_Ma_advance_13 (by decide) (fun c2 => ?_) (fun c2 => ?_)
    · replace hf := hf.trans (if_pos c2)
      replace hok := hok.1 c2
      refine lv_aload_n hx hb d_Ma_advance_18 rfl (lv_at hl 1 rfl) ?_
      refine lv_aload_n hx hb d_Ma_advance_19 rfl (lv_at hl 0 rfl) ?_
      refine gg_3_1 (x := (G 3 1)) hC hB rfl fl_Ma_28 d_Ma_advance_20 ?_
      refine ga_1 (x := (G 1 ((G 3 1).toNatClampNeg))) hC hB hok.1 rfl d_Ma_advance_23 ?_
      replace hok := hok.2
      refine lv_istore (lv' := [(4, .int (G 1 ((G 3 1).toNatClampNeg))), (0, .ref (ad 3)), (1, .ref (ad 1)), (2, .ref (ad 2)), (3, .int p3)]) hx hb d_Ma_advance_24 hl (by decide) rfl (fun ls hl => ?_)
      refine lv_aload_n hx hb d_Ma_advance_26 rfl (lv_at hl 1 rfl) ?_
      refine g_callVv (b := ad 3) (As := []) (rest := []) hC hB (c_Ma_rememberBefore_3 l G O) rfl key_Ma_rememberBefore rfl ins_Ma_rememberBefore sel_Ma_rememberBefore ml_Ma_44 (g_rec3 hB) rfl hl.1 ⟨Nat.le_of_ble_eq_true rfl, Nat.le_of_ble_eq_true rfl, Nat.le_of_ble_eq_true rfl, Nat.le_of_ble_eq_true rfl⟩ d_Ma_advance_27 (fun H locs hB => ?_)
      refine lv_aload_n hx hb d_Ma_advance_30 rfl (lv_at hl 1 rfl) ?_
      refine lv_aload_n hx hb d_Ma_advance_31 rfl (lv_at hl 1 rfl) ?_
      refine gg_3_1 (x := ((f_Ma_rememberBefore_3 G) 3 1)) hC hB rfl fl_Ma_28 d_Ma_advance_32 ?_
      refine lv_iconst (v := 1) hx hb d_Ma_advance_35 (by decide) ?_
      refine lv_iadd hx hb d_Ma_advance_36 ?_
      refine lv_bipush (v := 63) hx hb d_Ma_advance_37 (by decide) ?_
      refine lv_iand hx hb d_Ma_advance_39 ?_
      refine gp_3_1 hC hB fl_Ma_28 d_Ma_advance_40 (fun H locs hB => ?_)
      refine lv_iload hx hb d_Ma_advance_43 (lv_at hl 0 rfl) ?_
      refine lv_bipush (v := 28) hx hb d_Ma_advance_45 (by decide) ?_
      refine lv_iushr (v := g_ush (G 1 ((G 3 1).toNatClampNeg)) 28) hx hb d_Ma_advance_47 rfl ?_
      refine lv_istore (lv' := [(5, .int (g_ush (G 1 ((G 3 1).toNatClampNeg)) 28)), (4, .int (G 1 ((G 3 1).toNatClampNeg))), (0, .ref (ad 3)), (1, .ref (ad 1)), (2, .ref (ad 2)), (3, .int p3)]) hx hb d_Ma_advance_48 hl (by decide) rfl (fun ls hl => ?_)
      refine lv_iload hx hb d_Ma_advance_50 (lv_at hl 0 rfl) ?_
      refine lv_bipush (v := 8) hx hb d_Ma_advance_52 (by decide) ?_
      refine lv_icmp_ne (tgt := 87) hx hb d_Ma_advance_54 (by decide) (fun c3 => ?_) (fun c3 => ?_)
      · replace hf := hf.trans (if_neg c3)
        replace hok := hok.2 c3
        refine lv_iload hx hb d_Ma_advance_87 (lv_at hl 0 rfl) ?_
        refine lv_iconst (v := 5) hx hb d_Ma_advance_89 (by decide) ?_
        refine lv_icmp_lt (tgt := 111) hx hb d_Ma_advance_90 (by decide) (fun c4 => ?_) (fun c4 => ?_)
        · replace hf := hf.trans (if_pos c4)
          replace hok := hok.1 c4
          refine lv_aload_n hx hb d_Ma_advance_111 rfl (lv_at hl 2 rfl) ?_
          refine lv_iload hx hb d_Ma_advance_112 (lv_at hl 0 rfl) ?_
          refine lv_iload hx hb d_Ma_advance_114 (lv_at hl 1 rfl) ?_
          refine g_callVv (b := ad 3) (As := [.int (g_ush (G 1 ((G 3 1).toNatClampNeg)) 28), .int (G 1 ((G 3 1).toNatClampNeg))]) (rest := []) hC hB (c_Ma_compute_3 l (g_up (f_Ma_rememberBefore_3 G) 3 1 ((((f_Ma_rememberBefore_3 G) 3 1) + (1 : Int32)) &&& (63 : Int32))) (g_ush (G 1 ((G 3 1).toNatClampNeg)) 28) (G 1 ((G 3 1).toNatClampNeg)) O hok.1) rfl key_Ma_compute rfl ins_Ma_compute sel_Ma_compute ml_Ma_58 (g_rec3 hB) rfl hl.1 ⟨Nat.le_of_ble_eq_true rfl, Nat.le_of_ble_eq_true rfl, Nat.le_of_ble_eq_true rfl, Nat.le_of_ble_eq_true rfl⟩ d_Ma_advance_116 (fun H locs hB => ?_)
          replace hok := hok.2
          refine lv_iconst (v := 1) hx hb d_Ma_advance_119 (by decide) ?_
          exact g_zret hC hB hr hlk (by decide) (by decide) (by decide) (by rw [hf]) (by rw [hf]) d_Ma_advance_120
        · replace hf := hf.trans (if_neg c4)
          replace hok := hok.2 c4
          refine lv_iload hx hb d_Ma_advance_93 (lv_at hl 0 rfl) ?_
          refine lv_bipush (v := 9) hx hb d_Ma_advance_95 (by decide) ?_
          refine lv_icmp_gt (tgt := 111) hx hb d_Ma_advance_97 (by decide) (fun c5 => ?_) (fun c5 => ?_)
          · replace hf := hf.trans (if_pos c5)
            replace hok := hok.1 c5
            refine lv_aload_n hx hb d_Ma_advance_111 rfl (lv_at hl 2 rfl) ?_
            refine lv_iload hx hb d_Ma_advance_112 (lv_at hl 0 rfl) ?_
            refine lv_iload hx hb d_Ma_advance_114 (lv_at hl 1 rfl) ?_
            refine g_callVv (b := ad 3) (As := [.int (g_ush (G 1 ((G 3 1).toNatClampNeg)) 28), .int (G 1 ((G 3 1).toNatClampNeg))]) (rest := []) hC hB (c_Ma_compute_3 l (g_up (f_Ma_rememberBefore_3 G) 3 1 ((((f_Ma_rememberBefore_3 G) 3 1) + (1 : Int32)) &&& (63 : Int32))) (g_ush (G 1 ((G 3 1).toNatClampNeg)) 28) (G 1 ((G 3 1).toNatClampNeg)) O hok.1) rfl key_Ma_compute rfl ins_Ma_compute sel_Ma_compute ml_Ma_58 (g_rec3 hB) rfl hl.1 ⟨Nat.le_of_ble_eq_true rfl, Nat.le_of_ble_eq_true rfl, Nat.le_of_ble_eq_true rfl, Nat.le_of_ble_eq_true rfl⟩ d_Ma_advance_116 (fun H locs hB => ?_)
            replace hok := hok.2
            refine lv_iconst (v := 1) hx hb d_Ma_advance_119 (by decide) ?_
            exact g_zret hC hB hr hlk (by decide) (by decide) (by decide) (by rw [hf]) (by rw [hf]) d_Ma_advance_120
          · replace hf := hf.trans (if_neg c5)
            replace hok := hok.2 c5
            refine lv_aload_n hx hb d_Ma_advance_100 rfl (lv_at hl 2 rfl) ?_
            refine lv_iload hx hb d_Ma_advance_101 (lv_at hl 0 rfl) ?_
            refine lv_iload hx hb d_Ma_advance_103 (lv_at hl 1 rfl) ?_
            refine g_callVv (b := ad 3) (As := [.int (g_ush (G 1 ((G 3 1).toNatClampNeg)) 28), .int (G 1 ((G 3 1).toNatClampNeg))]) (rest := []) hC hB (c_Ma_moveNumbers_3 l (g_up (f_Ma_rememberBefore_3 G) 3 1 ((((f_Ma_rememberBefore_3 G) 3 1) + (1 : Int32)) &&& (63 : Int32))) (g_ush (G 1 ((G 3 1).toNatClampNeg)) 28) (G 1 ((G 3 1).toNatClampNeg)) O hok.1) rfl key_Ma_moveNumbers rfl ins_Ma_moveNumbers sel_Ma_moveNumbers ml_Ma_55 (g_rec3 hB) rfl hl.1 ⟨Nat.le_of_ble_eq_true rfl, Nat.le_of_ble_eq_true rfl, Nat.le_of_ble_eq_true rfl, Nat.le_of_ble_eq_true rfl⟩ d_Ma_advance_105 (fun H locs hB => ?_)
            replace hok := hok.2
            refine lv_goto (tgt := 119) hx hb d_Ma_advance_108 (by decide) ?_
            refine lv_iconst (v := 1) hx hb d_Ma_advance_119 (by decide) ?_
            exact g_zret hC hB hr hlk (by decide) (by decide) (by decide) (by rw [hf]) (by rw [hf]) d_Ma_advance_120
      · replace hf := hf.trans (if_pos c3)
        replace hok := hok.1 c3
        refine lv_aload_n hx hb d_Ma_advance_57 rfl (lv_at hl 2 rfl) ?_
        refine lv_iload hx hb d_Ma_advance_58 (lv_at hl 1 rfl) ?_
        refine lv_bipush (v := 24) hx hb d_Ma_advance_60 (by decide) ?_
        refine g_callSi (As := [.int (G 1 ((G 3 1).toNatClampNeg)), .int 24]) (rest := [.ref (ad 3)]) hC hB (c_Ma_register l (g_up (f_Ma_rememberBefore_3 G) 3 1 ((((f_Ma_rememberBefore_3 G) 3 1) + (1 : Int32)) &&& (63 : Int32))) (G 1 ((G 3 1).toNatClampNeg)) 24 O) rfl key_Ma_register rfl sta_Ma_register ml_Ma_47 rfl hl.1 ⟨Nat.le_of_ble_eq_true rfl, Nat.le_of_ble_eq_true rfl, Nat.le_of_ble_eq_true rfl, Nat.le_of_ble_eq_true rfl⟩ d_Ma_advance_62 (fun H locs hB => ?_)
        refine lv_aload_n hx hb d_Ma_advance_65 rfl (lv_at hl 4 rfl) ?_
        refine lv_aload_n hx hb d_Ma_advance_66 rfl (lv_at hl 2 rfl) ?_
        refine gg_3_2 (x := ((f_Ma_rememberBefore_3 G) 3 2)) hC hB rfl fl_Ma_31 d_Ma_advance_67 ?_
        refine ga_2 (x := ((f_Ma_rememberBefore_3 G) 2 (((f_Ma_rememberBefore_3 G) 3 2).toNatClampNeg))) hC hB hok.1 rfl d_Ma_advance_70 ?_
        replace hok := hok.2
        refine g_callVv (b := ad 3) (As := [.int (f_Ma_register (g_up (f_Ma_rememberBefore_3 G) 3 1 ((((f_Ma_rememberBefore_3 G) 3 1) + (1 : Int32)) &&& (63 : Int32))) (G 1 ((G 3 1).toNatClampNeg)) 24), .int ((f_Ma_rememberBefore_3 G) 2 (((f_Ma_rememberBefore_3 G) 3 2).toNatClampNeg))]) (rest := []) hC hB (c_Ma_write_3 l (g_up (f_Ma_rememberBefore_3 G) 3 1 ((((f_Ma_rememberBefore_3 G) 3 1) + (1 : Int32)) &&& (63 : Int32))) (f_Ma_register (g_up (f_Ma_rememberBefore_3 G) 3 1 ((((f_Ma_rememberBefore_3 G) 3 1) + (1 : Int32)) &&& (63 : Int32))) (G 1 ((G 3 1).toNatClampNeg)) 24) ((f_Ma_rememberBefore_3 G) 2 (((f_Ma_rememberBefore_3 G) 3 2).toNatClampNeg)) O hok.1) rfl key_Ma_write rfl ins_Ma_write sel_Ma_write ml_Ma_51 (g_rec3 hB) rfl hl.1 ⟨Nat.le_of_ble_eq_true rfl, Nat.le_of_ble_eq_true rfl, Nat.le_of_ble_eq_true rfl, Nat.le_of_ble_eq_true rfl⟩ d_Ma_advance_71 (fun H locs hB => ?_)
        replace hok := hok.2
        refine lv_aload_n hx hb d_Ma_advance_74 rfl (lv_at hl 2 rfl) ?_
        refine lv_dup hx hb d_Ma_advance_75 rfl ?_
        refine gg_3_2 (x := ((f_Ma_write_3 (g_up (f_Ma_rememberBefore_3 G) 3 1 ((((f_Ma_rememberBefore_3 G) 3 1) + (1 : Int32)) &&& (63 : Int32))) (f_Ma_register (g_up (f_Ma_rememberBefore_3 G) 3 1 ((((f_Ma_rememberBefore_3 G) 3 1) + (1 : Int32)) &&& (63 : Int32))) (G 1 ((G 3 1).toNatClampNeg)) 24) ((f_Ma_rememberBefore_3 G) 2 (((f_Ma_rememberBefore_3 G) 3 2).toNatClampNeg))) 3 2)) hC hB rfl fl_Ma_31 d_Ma_advance_76 ?_
        refine lv_iconst (v := 1) hx hb d_Ma_advance_79 (by decide) ?_
        refine lv_iadd hx hb d_Ma_advance_80 ?_
        refine gp_3_2 hC hB fl_Ma_31 d_Ma_advance_81 (fun H locs hB => ?_)
        refine lv_goto (tgt := 119) hx hb d_Ma_advance_84 (by decide) ?_
        refine lv_iconst (v := 1) hx hb d_Ma_advance_119 (by decide) ?_
        exact g_zret hC hB hr hlk (by decide) (by decide) (by decide) (by rw [hf]) (by rw [hf]) d_Ma_advance_120
    · replace hf := hf.trans (if_neg c2)
      replace hok := hok.2 c2
      refine lv_iconst (v := 0) hx hb d_Ma_advance_16 (by decide) ?_
      exact g_zret hC hB hr hlk (by decide) (by decide) (by decide) (by rw [hf]) (by rw [hf]) d_Ma_advance_17
abbrev rm_Ma_changedNumber_3 : Room := { frames := 0, cells := 0, slots := 0, locals := 0 }
def f_Ma_changedNumber_3 (G : gT) : Int32 := (if (G 3 6) = (-1) then 0 else (if (G 4 ((G 3 6).toNatClampNeg)) = (G 3 7) then 0 else 1))
def ok_Ma_changedNumber_3 (G : gT) : Prop := (((G 3 6) = (-1) → True) ∧ (¬ (G 3 6) = (-1) → (vp_in (G 3 6) 264 ∧ True)))
set_option maxHeartbeats 4000000 in
set_option maxRecDepth 100000 in
theorem c_Ma_changedNumber_3 (l : Launch) (G : gT) (O : Int64) (hok : ok_Ma_changedNumber_3 G) : gMet l y_Ma_changedNumber w_Ma_changedNumber rm_Ma_changedNumber_3 (fun ad => [.ref (ad 3)]) G O (.inl (some (.int (f_Ma_changedNumber_3 G)))) G O := by
  refine g_body (by decide) (gCode_of _ _ _ _) (fun ad => by simp [lg_sl, Value.category]) ?_
  intro p e s0 s m args below meth c D cI cL ad hC hr hlk htb hB ls hl
  have hC : CallFix p m c b_Ma_changedNumber 1 s args gtb R_Ma := hC
  have hl : lv_has ls 1 [(0, .ref (ad 3))] := hl
  have hx := hC.1
  have hb := hC.2.1
  have hf : f_Ma_changedNumber_3 G = (if (G 3 6) = (-1) then 0 else (if (G 4 ((G 3 6).toNatClampNeg)) = (G 3 7) then 0 else 1)) := rfl
  have hok : (((G 3 6) = (-1) → True) ∧ (¬ (G 3 6) = (-1) → (vp_in (G 3 6) 264 ∧ True))) := hok
  refine lv_aload_n hx hb d_Ma_changedNumber_0 rfl (lv_at hl 0 rfl) ?_
  refine gg_3_6 (x := (G 3 6)) hC hB rfl fl_Ma_19 d_Ma_changedNumber_1 ?_
  refine lv_iconst (v := (-1)) hx hb d_Ma_changedNumber_4 (by decide) ?_
  refine lv_icmp_eq (tgt := 28) hx hb d_Ma_changedNumber_5 (by decide) (fun c1 => ?_) (fun c1 => ?_)
  · replace hf := hf.trans (if_pos c1)
    replace hok := hok.1 c1
    refine lv_iconst (v := 0) hx hb d_Ma_changedNumber_28 (by decide) ?_
    exact g_zret hC hB hr hlk (by decide) (by decide) (by decide) (by rw [hf]) rfl d_Ma_changedNumber_29
  · replace hf := hf.trans (if_neg c1)
    replace hok := hok.2 c1
    refine lv_aload_n hx hb d_Ma_changedNumber_8 rfl (lv_at hl 0 rfl) ?_
    refine gr_3_0 hC hB fl_Ma_9 d_Ma_changedNumber_9 ?_
    refine lv_aload_n hx hb d_Ma_changedNumber_12 rfl (lv_at hl 0 rfl) ?_
    refine gg_3_6 (x := (G 3 6)) hC hB rfl fl_Ma_19 d_Ma_changedNumber_13 ?_
    refine ga_4 (x := (G 4 ((G 3 6).toNatClampNeg))) hC hB hok.1 rfl d_Ma_changedNumber_16 ?_
    replace hok := hok.2
    refine lv_aload_n hx hb d_Ma_changedNumber_17 rfl (lv_at hl 0 rfl) ?_
    refine gg_3_7 (x := (G 3 7)) hC hB rfl fl_Ma_77 d_Ma_changedNumber_18 ?_
    refine lv_icmp_eq (tgt := 28) hx hb d_Ma_changedNumber_21 (by decide) (fun c2 => ?_) (fun c2 => ?_)
    · replace hf := hf.trans (if_pos c2)
      refine lv_iconst (v := 0) hx hb d_Ma_changedNumber_28 (by decide) ?_
      exact g_zret hC hB hr hlk (by decide) (by decide) (by decide) (by rw [hf]) rfl d_Ma_changedNumber_29
    · replace hf := hf.trans (if_neg c2)
      refine lv_iconst (v := 1) hx hb d_Ma_changedNumber_24 (by decide) ?_
      refine lv_goto (tgt := 29) hx hb d_Ma_changedNumber_25 (by decide) ?_
      exact g_zret hC hB hr hlk (by decide) (by decide) (by decide) (by rw [hf]) rfl d_Ma_changedNumber_29
abbrev rm_Ma_costOfLatest_3 : Room := { frames := 1, cells := 0, slots := 0, locals := 12 }
def f_Ma_costOfLatest_3 (G : gT) : Int32 := (if (f_Ma_changedNumber_3 G) = 0 then (if (G 3 1) = (((G 3 8) + (1 : Int32)) &&& (63 : Int32)) then (if (G 3 2) = (G 3 9) then (if (G 3 3) = (G 3 10) then 1 else 1 + 1) else (if (G 3 3) = (G 3 10) then 1 + 1 else (1 + 1) + 1)) else (if (G 3 2) = (G 3 9) then (if (G 3 3) = (G 3 10) then 1 + 1 else (1 + 1) + 1) else (if (G 3 3) = (G 3 10) then (1 + 1) + 1 else ((1 + 1) + 1) + 1))) else (if (G 3 1) = (((G 3 8) + (1 : Int32)) &&& (63 : Int32)) then (if (G 3 2) = (G 3 9) then (if (G 3 3) = (G 3 10) then 1 + 1 else (1 + 1) + 1) else (if (G 3 3) = (G 3 10) then (1 + 1) + 1 else ((1 + 1) + 1) + 1)) else (if (G 3 2) = (G 3 9) then (if (G 3 3) = (G 3 10) then (1 + 1) + 1 else ((1 + 1) + 1) + 1) else (if (G 3 3) = (G 3 10) then ((1 + 1) + 1) + 1 else (((1 + 1) + 1) + 1) + 1))))
def ok_Ma_costOfLatest_3 (G : gT) : Prop := (ok_Ma_changedNumber_3 G ∧ True)
set_option maxHeartbeats 4000000 in
set_option maxRecDepth 100000 in
theorem c_Ma_costOfLatest_3 (l : Launch) (G : gT) (O : Int64) (hok : ok_Ma_costOfLatest_3 G) : gMet l y_Ma_costOfLatest w_Ma_costOfLatest rm_Ma_costOfLatest_3 (fun ad => [.ref (ad 3)]) G O (.inl (some (.int (f_Ma_costOfLatest_3 G)))) G O := by
  refine g_body (by decide) (gCode_of _ _ _ _) (fun ad => by simp [lg_sl, Value.category]) ?_
  intro p e s0 s m args below meth c D cI cL ad hC hr hlk htb hB ls hl
  have hC : CallFix p m c b_Ma_costOfLatest 2 s args gtb R_Ma := hC
  have hl : lv_has ls 2 [(0, .ref (ad 3))] := hl
  have hx := hC.1
  have hb := hC.2.1
  have hf : f_Ma_costOfLatest_3 G = (if (f_Ma_changedNumber_3 G) = 0 then (if (G 3 1) = (((G 3 8) + (1 : Int32)) &&& (63 : Int32)) then (if (G 3 2) = (G 3 9) then (if (G 3 3) = (G 3 10) then 1 else 1 + 1) else (if (G 3 3) = (G 3 10) then 1 + 1 else (1 + 1) + 1)) else (if (G 3 2) = (G 3 9) then (if (G 3 3) = (G 3 10) then 1 + 1 else (1 + 1) + 1) else (if (G 3 3) = (G 3 10) then (1 + 1) + 1 else ((1 + 1) + 1) + 1))) else (if (G 3 1) = (((G 3 8) + (1 : Int32)) &&& (63 : Int32)) then (if (G 3 2) = (G 3 9) then (if (G 3 3) = (G 3 10) then 1 + 1 else (1 + 1) + 1) else (if (G 3 3) = (G 3 10) then (1 + 1) + 1 else ((1 + 1) + 1) + 1)) else (if (G 3 2) = (G 3 9) then (if (G 3 3) = (G 3 10) then (1 + 1) + 1 else ((1 + 1) + 1) + 1) else (if (G 3 3) = (G 3 10) then ((1 + 1) + 1) + 1 else (((1 + 1) + 1) + 1) + 1)))) := rfl
  have hok : (ok_Ma_changedNumber_3 G ∧ True) := hok
  refine lv_iconst (v := 1) hx hb d_Ma_costOfLatest_0 (by decide) ?_
  refine lv_istore_n (lv' := [(1, .int 1), (0, .ref (ad 3))]) hx hb d_Ma_costOfLatest_1 rfl hl (by decide) rfl (fun ls hl => ?_)
  refine lv_aload_n hx hb d_Ma_costOfLatest_2 rfl (lv_at hl 1 rfl) ?_
  refine g_callVi (b := ad 3) (As := []) (rest := []) hC hB (c_Ma_changedNumber_3 l G O hok.1) rfl key_Ma_changedNumber rfl ins_Ma_changedNumber sel_Ma_changedNumber ml_Ma_80 (g_rec3 hB) rfl hl.1 ⟨Nat.le_of_ble_eq_true rfl, Nat.le_of_ble_eq_true rfl, Nat.le_of_ble_eq_true rfl, Nat.le_of_ble_eq_true rfl⟩ d_Ma_costOfLatest_3 (fun H locs hB => ?_)
  replace hok := hok.2
  refine lv_if_eq (tgt := 12) hx hb d_Ma_costOfLatest_6 (by decide) (fun c1 => ?_) (fun c1 => ?_)
  · replace hf := hf.trans (if_pos c1)
    refine lv_aload_n hx hb d_Ma_costOfLatest_12 rfl (lv_at hl 1 rfl) ?_
    refine gg_3_1 (x := (G 3 1)) hC hB rfl fl_Ma_28 d_Ma_costOfLatest_13 ?_
    refine lv_aload_n hx hb d_Ma_costOfLatest_16 rfl (lv_at hl 1 rfl) ?_
    refine gg_3_8 (x := (G 3 8)) hC hB rfl fl_Ma_61 d_Ma_costOfLatest_17 ?_
    refine lv_iconst (v := 1) hx hb d_Ma_costOfLatest_20 (by decide) ?_
    refine lv_iadd hx hb d_Ma_costOfLatest_21 ?_
    refine lv_bipush (v := 63) hx hb d_Ma_costOfLatest_22 (by decide) ?_
    refine lv_iand hx hb d_Ma_costOfLatest_24 ?_
    refine lv_icmp_eq (tgt := 31) hx hb d_Ma_costOfLatest_25 (by decide) (fun c2 => ?_) (fun c2 => ?_)
    · replace hf := hf.trans (if_pos c2)
      refine lv_aload_n hx hb d_Ma_costOfLatest_31 rfl (lv_at hl 1 rfl) ?_
      refine gg_3_2 (x := (G 3 2)) hC hB rfl fl_Ma_31 d_Ma_costOfLatest_32 ?_
      refine lv_aload_n hx hb d_Ma_costOfLatest_35 rfl (lv_at hl 1 rfl) ?_
      refine gg_3_9 (x := (G 3 9)) hC hB rfl fl_Ma_64 d_Ma_costOfLatest_36 ?_
      refine lv_icmp_eq (tgt := 45) hx hb d_Ma_costOfLatest_39 (by decide) (fun c3 => ?_) (fun c3 => ?_)
      · replace hf := hf.trans (if_pos c3)
        refine lv_aload_n hx hb d_Ma_costOfLatest_45 rfl (lv_at hl 1 rfl) ?_
        refine gg_3_3 (x := (G 3 3)) hC hB rfl fl_Ma_34 d_Ma_costOfLatest_46 ?_
        refine lv_aload_n hx hb d_Ma_costOfLatest_49 rfl (lv_at hl 1 rfl) ?_
        refine gg_3_10 (x := (G 3 10)) hC hB rfl fl_Ma_67 d_Ma_costOfLatest_50 ?_
        refine lv_icmp_eq (tgt := 59) hx hb d_Ma_costOfLatest_53 (by decide) (fun c4 => ?_) (fun c4 => ?_)
        · replace hf := hf.trans (if_pos c4)
          refine lv_iload_n hx hb d_Ma_costOfLatest_59 rfl (lv_at hl 0 rfl) ?_
          exact g_iret hC hB hr hlk (by decide) (by decide) (by rw [hf]) rfl d_Ma_costOfLatest_60
        · replace hf := hf.trans (if_neg c4)
          refine lv_iinc (v := 1 + 1) (lv' := [(1, .int (1 + 1)), (0, .ref (ad 3))]) hx hb d_Ma_costOfLatest_56 hl (k := 0) rfl rfl (by decide) rfl (fun ls hl => ?_)
          refine lv_iload_n hx hb d_Ma_costOfLatest_59 rfl (lv_at hl 0 rfl) ?_
          exact g_iret hC hB hr hlk (by decide) (by decide) (by rw [hf]) rfl d_Ma_costOfLatest_60
      · replace hf := hf.trans (if_neg c3)
        refine lv_iinc (v := 1 + 1) (lv' := [(1, .int (1 + 1)), (0, .ref (ad 3))]) hx hb d_Ma_costOfLatest_42 hl (k := 0) rfl rfl (by decide) rfl (fun ls hl => ?_)
        refine lv_aload_n hx hb d_Ma_costOfLatest_45 rfl (lv_at hl 1 rfl) ?_
        refine gg_3_3 (x := (G 3 3)) hC hB rfl fl_Ma_34 d_Ma_costOfLatest_46 ?_
        refine lv_aload_n hx hb d_Ma_costOfLatest_49 rfl (lv_at hl 1 rfl) ?_
        refine gg_3_10 (x := (G 3 10)) hC hB rfl fl_Ma_67 d_Ma_costOfLatest_50 ?_
        refine lv_icmp_eq (tgt := 59) hx hb d_Ma_costOfLatest_53 (by decide) (fun c5 => ?_) (fun c5 => ?_)
        · replace hf := hf.trans (if_pos c5)
          refine lv_iload_n hx hb d_Ma_costOfLatest_59 rfl (lv_at hl 0 rfl) ?_
          exact g_iret hC hB hr hlk (by decide) (by decide) (by rw [hf]) rfl d_Ma_costOfLatest_60
        · replace hf := hf.trans (if_neg c5)
          refine lv_iinc (v := (1 + 1) + 1) (lv' := [(1, .int ((1 + 1) + 1)), (0, .ref (ad 3))]) hx hb d_Ma_costOfLatest_56 hl (k := 0) rfl rfl (by decide) rfl (fun ls hl => ?_)
          refine lv_iload_n hx hb d_Ma_costOfLatest_59 rfl (lv_at hl 0 rfl) ?_
          exact g_iret hC hB hr hlk (by decide) (by decide) (by rw [hf]) rfl d_Ma_costOfLatest_60
    · replace hf := hf.trans (if_neg c2)
      refine lv_iinc (v := 1 + 1) (lv' := [(1, .int (1 + 1)), (0, .ref (ad 3))]) hx hb d_Ma_costOfLatest_28 hl (k := 0) rfl rfl (by decide) rfl (fun ls hl => ?_)
      refine lv_aload_n hx hb d_Ma_costOfLatest_31 rfl (lv_at hl 1 rfl) ?_
      refine gg_3_2 (x := (G 3 2)) hC hB rfl fl_Ma_31 d_Ma_costOfLatest_32 ?_
      refine lv_aload_n hx hb d_Ma_costOfLatest_35 rfl (lv_at hl 1 rfl) ?_
      refine gg_3_9 (x := (G 3 9)) hC hB rfl fl_Ma_64 d_Ma_costOfLatest_36 ?_
      refine lv_icmp_eq (tgt := 45) hx hb d_Ma_costOfLatest_39 (by decide) (fun c6 => ?_) (fun c6 => ?_)
      · replace hf := hf.trans (if_pos c6)
        refine lv_aload_n hx hb d_Ma_costOfLatest_45 rfl (lv_at hl 1 rfl) ?_
        refine gg_3_3 (x := (G 3 3)) hC hB rfl fl_Ma_34 d_Ma_costOfLatest_46 ?_
        refine lv_aload_n hx hb d_Ma_costOfLatest_49 rfl (lv_at hl 1 rfl) ?_
        refine gg_3_10 (x := (G 3 10)) hC hB rfl fl_Ma_67 d_Ma_costOfLatest_50 ?_
        refine lv_icmp_eq (tgt := 59) hx hb d_Ma_costOfLatest_53 (by decide) (fun c7 => ?_) (fun c7 => ?_)
        · replace hf := hf.trans (if_pos c7)
          refine lv_iload_n hx hb d_Ma_costOfLatest_59 rfl (lv_at hl 0 rfl) ?_
          exact g_iret hC hB hr hlk (by decide) (by decide) (by rw [hf]) rfl d_Ma_costOfLatest_60
        · replace hf := hf.trans (if_neg c7)
          refine lv_iinc (v := (1 + 1) + 1) (lv' := [(1, .int ((1 + 1) + 1)), (0, .ref (ad 3))]) hx hb d_Ma_costOfLatest_56 hl (k := 0) rfl rfl (by decide) rfl (fun ls hl => ?_)
          refine lv_iload_n hx hb d_Ma_costOfLatest_59 rfl (lv_at hl 0 rfl) ?_
          exact g_iret hC hB hr hlk (by decide) (by decide) (by rw [hf]) rfl d_Ma_costOfLatest_60
      · replace hf := hf.trans (if_neg c6)
        refine lv_iinc (v := (1 + 1) + 1) (lv' := [(1, .int ((1 + 1) + 1)), (0, .ref (ad 3))]) hx hb d_Ma_costOfLatest_42 hl (k := 0) rfl rfl (by decide) rfl (fun ls hl => ?_)
        refine lv_aload_n hx hb d_Ma_costOfLatest_45 rfl (lv_at hl 1 rfl) ?_
        refine gg_3_3 (x := (G 3 3)) hC hB rfl fl_Ma_34 d_Ma_costOfLatest_46 ?_
        refine lv_aload_n hx hb d_Ma_costOfLatest_49 rfl (lv_at hl 1 rfl) ?_
        refine gg_3_10 (x := (G 3 10)) hC hB rfl fl_Ma_67 d_Ma_costOfLatest_50 ?_
        refine lv_icmp_eq (tgt := 59) hx hb d_Ma_costOfLatest_53 (by decide) (fun c8 => ?_) (fun c8 => ?_)
        · replace hf := hf.trans (if_pos c8)
          refine lv_iload_n hx hb d_Ma_costOfLatest_59 rfl (lv_at hl 0 rfl) ?_
          exact g_iret hC hB hr hlk (by decide) (by decide) (by rw [hf]) rfl d_Ma_costOfLatest_60
        · replace hf := hf.trans (if_neg c8)
          refine lv_iinc (v := ((1 + 1) + 1) + 1) (lv' := [(1, .int (((1 + 1) + 1) + 1)), (0, .ref (ad 3))]) hx hb d_Ma_costOfLatest_56 hl (k := 0) rfl rfl (by decide) rfl (fun ls hl => ?_)
          refine lv_iload_n hx hb d_Ma_costOfLatest_59 rfl (lv_at hl 0 rfl) ?_
          exact g_iret hC hB hr hlk (by decide) (by decide) (by rw [hf]) rfl d_Ma_costOfLatest_60
  · replace hf := hf.trans (if_neg c1)
    refine lv_iinc (v := 1 + 1) (lv' := [(1, .int (1 + 1)), (0, .ref (ad 3))]) hx hb d_Ma_costOfLatest_9 hl (k := 0) rfl rfl (by decide) rfl (fun ls hl => ?_)
    refine lv_aload_n hx hb d_Ma_costOfLatest_12 rfl (lv_at hl 1 rfl) ?_
    refine gg_3_1 (x := (G 3 1)) hC hB rfl fl_Ma_28 d_Ma_costOfLatest_13 ?_
    refine lv_aload_n hx hb d_Ma_costOfLatest_16 rfl (lv_at hl 1 rfl) ?_
    refine gg_3_8 (x := (G 3 8)) hC hB rfl fl_Ma_61 d_Ma_costOfLatest_17 ?_
    refine lv_iconst (v := 1) hx hb d_Ma_costOfLatest_20 (by decide) ?_
    refine lv_iadd hx hb d_Ma_costOfLatest_21 ?_
    refine lv_bipush (v := 63) hx hb d_Ma_costOfLatest_22 (by decide) ?_
    refine lv_iand hx hb d_Ma_costOfLatest_24 ?_
    refine lv_icmp_eq (tgt := 31) hx hb d_Ma_costOfLatest_25 (by decide) (fun c9 => ?_) (fun c9 => ?_)
    · replace hf := hf.trans (if_pos c9)
      refine lv_aload_n hx hb d_Ma_costOfLatest_31 rfl (lv_at hl 1 rfl) ?_
      refine gg_3_2 (x := (G 3 2)) hC hB rfl fl_Ma_31 d_Ma_costOfLatest_32 ?_
      refine lv_aload_n hx hb d_Ma_costOfLatest_35 rfl (lv_at hl 1 rfl) ?_
      refine gg_3_9 (x := (G 3 9)) hC hB rfl fl_Ma_64 d_Ma_costOfLatest_36 ?_
      refine lv_icmp_eq (tgt := 45) hx hb d_Ma_costOfLatest_39 (by decide) (fun c10 => ?_) (fun c10 => ?_)
      · replace hf := hf.trans (if_pos c10)
        refine lv_aload_n hx hb d_Ma_costOfLatest_45 rfl (lv_at hl 1 rfl) ?_
        refine gg_3_3 (x := (G 3 3)) hC hB rfl fl_Ma_34 d_Ma_costOfLatest_46 ?_
        refine lv_aload_n hx hb d_Ma_costOfLatest_49 rfl (lv_at hl 1 rfl) ?_
        refine gg_3_10 (x := (G 3 10)) hC hB rfl fl_Ma_67 d_Ma_costOfLatest_50 ?_
        refine lv_icmp_eq (tgt := 59) hx hb d_Ma_costOfLatest_53 (by decide) (fun c11 => ?_) (fun c11 => ?_)
        · replace hf := hf.trans (if_pos c11)
          refine lv_iload_n hx hb d_Ma_costOfLatest_59 rfl (lv_at hl 0 rfl) ?_
          exact g_iret hC hB hr hlk (by decide) (by decide) (by rw [hf]) rfl d_Ma_costOfLatest_60
        · replace hf := hf.trans (if_neg c11)
          refine lv_iinc (v := (1 + 1) + 1) (lv' := [(1, .int ((1 + 1) + 1)), (0, .ref (ad 3))]) hx hb d_Ma_costOfLatest_56 hl (k := 0) rfl rfl (by decide) rfl (fun ls hl => ?_)
          refine lv_iload_n hx hb d_Ma_costOfLatest_59 rfl (lv_at hl 0 rfl) ?_
          exact g_iret hC hB hr hlk (by decide) (by decide) (by rw [hf]) rfl d_Ma_costOfLatest_60
      · replace hf := hf.trans (if_neg c10)
        refine lv_iinc (v := (1 + 1) + 1) (lv' := [(1, .int ((1 + 1) + 1)), (0, .ref (ad 3))]) hx hb d_Ma_costOfLatest_42 hl (k := 0) rfl rfl (by decide) rfl (fun ls hl => ?_)
        refine lv_aload_n hx hb d_Ma_costOfLatest_45 rfl (lv_at hl 1 rfl) ?_
        refine gg_3_3 (x := (G 3 3)) hC hB rfl fl_Ma_34 d_Ma_costOfLatest_46 ?_
        refine lv_aload_n hx hb d_Ma_costOfLatest_49 rfl (lv_at hl 1 rfl) ?_
        refine gg_3_10 (x := (G 3 10)) hC hB rfl fl_Ma_67 d_Ma_costOfLatest_50 ?_
        refine lv_icmp_eq (tgt := 59) hx hb d_Ma_costOfLatest_53 (by decide) (fun c12 => ?_) (fun c12 => ?_)
        · replace hf := hf.trans (if_pos c12)
          refine lv_iload_n hx hb d_Ma_costOfLatest_59 rfl (lv_at hl 0 rfl) ?_
          exact g_iret hC hB hr hlk (by decide) (by decide) (by rw [hf]) rfl d_Ma_costOfLatest_60
        · replace hf := hf.trans (if_neg c12)
          refine lv_iinc (v := ((1 + 1) + 1) + 1) (lv' := [(1, .int (((1 + 1) + 1) + 1)), (0, .ref (ad 3))]) hx hb d_Ma_costOfLatest_56 hl (k := 0) rfl rfl (by decide) rfl (fun ls hl => ?_)
          refine lv_iload_n hx hb d_Ma_costOfLatest_59 rfl (lv_at hl 0 rfl) ?_
          exact g_iret hC hB hr hlk (by decide) (by decide) (by rw [hf]) rfl d_Ma_costOfLatest_60
    · replace hf := hf.trans (if_neg c9)
      refine lv_iinc (v := (1 + 1) + 1) (lv' := [(1, .int ((1 + 1) + 1)), (0, .ref (ad 3))]) hx hb d_Ma_costOfLatest_28 hl (k := 0) rfl rfl (by decide) rfl (fun ls hl => ?_)
      refine lv_aload_n hx hb d_Ma_costOfLatest_31 rfl (lv_at hl 1 rfl) ?_
      refine gg_3_2 (x := (G 3 2)) hC hB rfl fl_Ma_31 d_Ma_costOfLatest_32 ?_
      refine lv_aload_n hx hb d_Ma_costOfLatest_35 rfl (lv_at hl 1 rfl) ?_
      refine gg_3_9 (x := (G 3 9)) hC hB rfl fl_Ma_64 d_Ma_costOfLatest_36 ?_
      refine lv_icmp_eq (tgt := 45) hx hb d_Ma_costOfLatest_39 (by decide) (fun c13 => ?_) (fun c13 => ?_)
      · replace hf := hf.trans (if_pos c13)
        refine lv_aload_n hx hb d_Ma_costOfLatest_45 rfl (lv_at hl 1 rfl) ?_
        refine gg_3_3 (x := (G 3 3)) hC hB rfl fl_Ma_34 d_Ma_costOfLatest_46 ?_
        refine lv_aload_n hx hb d_Ma_costOfLatest_49 rfl (lv_at hl 1 rfl) ?_
        refine gg_3_10 (x := (G 3 10)) hC hB rfl fl_Ma_67 d_Ma_costOfLatest_50 ?_
        refine lv_icmp_eq (tgt := 59) hx hb d_Ma_costOfLatest_53 (by decide) (fun c14 => ?_) (fun c14 => ?_)
        · replace hf := hf.trans (if_pos c14)
          refine lv_iload_n hx hb d_Ma_costOfLatest_59 rfl (lv_at hl 0 rfl) ?_
          exact g_iret hC hB hr hlk (by decide) (by decide) (by rw [hf]) rfl d_Ma_costOfLatest_60
        · replace hf := hf.trans (if_neg c14)
          refine lv_iinc (v := ((1 + 1) + 1) + 1) (lv' := [(1, .int (((1 + 1) + 1) + 1)), (0, .ref (ad 3))]) hx hb d_Ma_costOfLatest_56 hl (k := 0) rfl rfl (by decide) rfl (fun ls hl => ?_)
          refine lv_iload_n hx hb d_Ma_costOfLatest_59 rfl (lv_at hl 0 rfl) ?_
          exact g_iret hC hB hr hlk (by decide) (by decide) (by rw [hf]) rfl d_Ma_costOfLatest_60
      · replace hf := hf.trans (if_neg c13)
        refine lv_iinc (v := ((1 + 1) + 1) + 1) (lv' := [(1, .int (((1 + 1) + 1) + 1)), (0, .ref (ad 3))]) hx hb d_Ma_costOfLatest_42 hl (k := 0) rfl rfl (by decide) rfl (fun ls hl => ?_)
        refine lv_aload_n hx hb d_Ma_costOfLatest_45 rfl (lv_at hl 1 rfl) ?_
        refine gg_3_3 (x := (G 3 3)) hC hB rfl fl_Ma_34 d_Ma_costOfLatest_46 ?_
        refine lv_aload_n hx hb d_Ma_costOfLatest_49 rfl (lv_at hl 1 rfl) ?_
        refine gg_3_10 (x := (G 3 10)) hC hB rfl fl_Ma_67 d_Ma_costOfLatest_50 ?_
        refine lv_icmp_eq (tgt := 59) hx hb d_Ma_costOfLatest_53 (by decide) (fun c15 => ?_) (fun c15 => ?_)
        · replace hf := hf.trans (if_pos c15)
          refine lv_iload_n hx hb d_Ma_costOfLatest_59 rfl (lv_at hl 0 rfl) ?_
          exact g_iret hC hB hr hlk (by decide) (by decide) (by rw [hf]) rfl d_Ma_costOfLatest_60
        · replace hf := hf.trans (if_neg c15)
          refine lv_iinc (v := (((1 + 1) + 1) + 1) + 1) (lv' := [(1, .int ((((1 + 1) + 1) + 1) + 1)), (0, .ref (ad 3))]) hx hb d_Ma_costOfLatest_56 hl (k := 0) rfl rfl (by decide) rfl (fun ls hl => ?_)
          refine lv_iload_n hx hb d_Ma_costOfLatest_59 rfl (lv_at hl 0 rfl) ?_
          exact g_iret hC hB hr hlk (by decide) (by decide) (by rw [hf]) rfl d_Ma_costOfLatest_60
abbrev rm_Ro_dropAll : Room := { frames := 0, cells := 0, slots := 0, locals := 0 }
def f_Ro_dropAll (G : gT) : gT := (g_up (g_up (g_up G 7 4 ((G 7 4) + ((G 7 1) - (G 7 2)))) 7 2 (G 7 1)) 7 3 0)
set_option maxHeartbeats 4000000 in
set_option maxRecDepth 100000 in
theorem c_Ro_dropAll (l : Launch) (G : gT) (O : Int64) : gMet l y_Ro_dropAll w_Ro_dropAll rm_Ro_dropAll (fun ad => [.ref (ad 7)]) G O (.inl (none)) (f_Ro_dropAll G) O := by
  refine g_body (by decide) (gCode_of _ _ _ _) (fun ad => by simp [lg_sl, Value.category]) ?_
  intro p e s0 s m args below meth c D cI cL ad hC hr hlk htb hB ls hl
  have hC : CallFix p m c b_Ro_dropAll 1 s args gtb R_Ro := hC
  have hl : lv_has ls 1 [(0, .ref (ad 7))] := hl
  have hx := hC.1
  have hb := hC.2.1
  have hf : f_Ro_dropAll G = (g_up (g_up (g_up G 7 4 ((G 7 4) + ((G 7 1) - (G 7 2)))) 7 2 (G 7 1)) 7 3 0) := rfl
  refine lv_aload_n hx hb d_Ro_dropAll_0 rfl (lv_at hl 0 rfl) ?_
  refine lv_dup hx hb d_Ro_dropAll_1 rfl ?_
  refine gg_7_4 (x := (G 7 4)) hC hB rfl fl_Ro_59 d_Ro_dropAll_2 ?_
  refine lv_aload_n hx hb d_Ro_dropAll_5 rfl (lv_at hl 0 rfl) ?_
  refine gg_7_1 (x := (G 7 1)) hC hB rfl fl_Ro_49 d_Ro_dropAll_6 ?_
  refine lv_aload_n hx hb d_Ro_dropAll_9 rfl (lv_at hl 0 rfl) ?_
  refine gg_7_2 (x := (G 7 2)) hC hB rfl fl_Ro_46 d_Ro_dropAll_10 ?_
  refine lv_isub hx hb d_Ro_dropAll_13 ?_
  refine lv_iadd hx hb d_Ro_dropAll_14 ?_
  refine gp_7_4 hC hB fl_Ro_59 d_Ro_dropAll_15 (fun H locs hB => ?_)
  refine lv_aload_n hx hb d_Ro_dropAll_18 rfl (lv_at hl 0 rfl) ?_
  refine lv_aload_n hx hb d_Ro_dropAll_19 rfl (lv_at hl 0 rfl) ?_
  refine gg_7_1 (x := (G 7 1)) hC hB rfl fl_Ro_49 d_Ro_dropAll_20 ?_
  refine gp_7_2 hC hB fl_Ro_46 d_Ro_dropAll_23 (fun H locs hB => ?_)
  refine lv_aload_n hx hb d_Ro_dropAll_26 rfl (lv_at hl 0 rfl) ?_
  refine lv_iconst (v := 0) hx hb d_Ro_dropAll_27 (by decide) ?_
  refine gp_7_3 hC hB fl_Ro_52 d_Ro_dropAll_28 (fun H locs hB => ?_)
  exact g_vret hC hB hr hlk (by decide) (by decide) rfl hf d_Ro_dropAll_31
abbrev rm_Ro_undo_3 : Room := { frames := 0, cells := 0, slots := 0, locals := 0 }
def f_Ro_undo_3 (G : gT) (p1 : Int32) : gT := (if (G 9 p1.toNatClampNeg) = (-1) then (g_up (g_up (g_up (g_up (g_up G 3 1 (G 12 p1.toNatClampNeg)) 3 2 (G 13 p1.toNatClampNeg)) 3 3 (G 14 p1.toNatClampNeg)) 3 4 (G 15 p1.toNatClampNeg)) 3 5 0) else (g_up (g_up (g_up (g_up (g_up (g_up G 4 ((G 9 p1.toNatClampNeg).toNatClampNeg) (G 10 p1.toNatClampNeg)) 3 1 (G 12 p1.toNatClampNeg)) 3 2 (G 13 p1.toNatClampNeg)) 3 3 (G 14 p1.toNatClampNeg)) 3 4 (G 15 p1.toNatClampNeg)) 3 5 0))
def ok_Ro_undo_3 (G : gT) (p1 : Int32) : Prop := (vp_in p1 1024 ∧ (((G 9 p1.toNatClampNeg) = (-1) → (vp_in p1 1024 ∧ (vp_in p1 1024 ∧ (vp_in p1 1024 ∧ (vp_in p1 1024 ∧ True))))) ∧ (¬ (G 9 p1.toNatClampNeg) = (-1) → (vp_in p1 1024 ∧ (vp_in p1 1024 ∧ (vp_in (G 9 p1.toNatClampNeg) 264 ∧ (vp_in p1 1024 ∧ (vp_in p1 1024 ∧ (vp_in p1 1024 ∧ (vp_in p1 1024 ∧ True))))))))))
set_option maxHeartbeats 4000000 in
set_option maxRecDepth 100000 in
theorem c_Ro_undo_3 (l : Launch) (G : gT) (p1 : Int32) (O : Int64) (hok : ok_Ro_undo_3 G p1) : gMet l y_Ro_undo w_Ro_undo rm_Ro_undo_3 (fun ad => [.ref (ad 7), .int p1, .ref (ad 3)]) G O (.inl (none)) (f_Ro_undo_3 G p1) O := by
  refine g_body (by decide) (gCode_of _ _ _ _) (fun ad => by simp [lg_sl, Value.category]) ?_
  intro p e s0 s m args below meth c D cI cL ad hC hr hlk htb hB ls hl
  have hC : CallFix p m c b_Ro_undo 3 s args gtb R_Ro := hC
  have hl : lv_has ls 3 [(0, .ref (ad 7)), (1, .int p1), (2, .ref (ad 3))] := hl
  have hx := hC.1
  have hb := hC.2.1
  have hf : f_Ro_undo_3 G p1 = (if (G 9 p1.toNatClampNeg) = (-1) then (g_up (g_up (g_up (g_up (g_up G 3 1 (G 12 p1.toNatClampNeg)) 3 2 (G 13 p1.toNatClampNeg)) 3 3 (G 14 p1.toNatClampNeg)) 3 4 (G 15 p1.toNatClampNeg)) 3 5 0) else (g_up (g_up (g_up (g_up (g_up (g_up G 4 ((G 9 p1.toNatClampNeg).toNatClampNeg) (G 10 p1.toNatClampNeg)) 3 1 (G 12 p1.toNatClampNeg)) 3 2 (G 13 p1.toNatClampNeg)) 3 3 (G 14 p1.toNatClampNeg)) 3 4 (G 15 p1.toNatClampNeg)) 3 5 0)) := rfl
  have hok : (vp_in p1 1024 ∧ (((G 9 p1.toNatClampNeg) = (-1) → (vp_in p1 1024 ∧ (vp_in p1 1024 ∧ (vp_in p1 1024 ∧ (vp_in p1 1024 ∧ True))))) ∧ (¬ (G 9 p1.toNatClampNeg) = (-1) → (vp_in p1 1024 ∧ (vp_in p1 1024 ∧ (vp_in (G 9 p1.toNatClampNeg) 264 ∧ (vp_in p1 1024 ∧ (vp_in p1 1024 ∧ (vp_in p1 1024 ∧ (vp_in p1 1024 ∧ True)))))))))) := hok
  refine lv_aload_n hx hb d_Ro_undo_0 rfl (lv_at hl 0 rfl) ?_
  refine gr_7_6 hC hB fl_Ro_15 d_Ro_undo_1 ?_
  refine lv_iload_n hx hb d_Ro_undo_4 rfl (lv_at hl 1 rfl) ?_
  refine ga_9 (x := (G 9 p1.toNatClampNeg)) hC hB hok.1 rfl d_Ro_undo_5 ?_
  replace hok := hok.2
  refine lv_iconst (v := (-1)) hx hb d_Ro_undo_6 (by decide) ?_
  refine lv_icmp_eq (tgt := 27) hx hb d_Ro_undo_7 (by decide) (fun c1 => ?_) (fun c1 => ?_)
  · replace hf := hf.trans (if_pos c1)
    replace hok := hok.1 c1
    refine lv_aload_n hx hb d_Ro_undo_27 rfl (lv_at hl 2 rfl) ?_
    refine lv_aload_n hx hb d_Ro_undo_28 rfl (lv_at hl 0 rfl) ?_
    refine gr_7_9 hC hB fl_Ro_24 d_Ro_undo_29 ?_
    refine lv_iload_n hx hb d_Ro_undo_32 rfl (lv_at hl 1 rfl) ?_
    refine ga_12 (x := (G 12 p1.toNatClampNeg)) hC hB hok.1 rfl d_Ro_undo_33 ?_
    replace hok := hok.2
    refine gp_3_1 hC hB fl_Ro_86 d_Ro_undo_34 (fun H locs hB => ?_)
    refine lv_aload_n hx hb d_Ro_undo_37 rfl (lv_at hl 2 rfl) ?_
    refine lv_aload_n hx hb d_Ro_undo_38 rfl (lv_at hl 0 rfl) ?_
    refine gr_7_10 hC hB fl_Ro_27 d_Ro_undo_39 ?_
    refine lv_iload_n hx hb d_Ro_undo_42 rfl (lv_at hl 1 rfl) ?_
    refine ga_13 (x := (G 13 p1.toNatClampNeg)) hC hB hok.1 rfl d_Ro_undo_43 ?_
    replace hok := hok.2
    refine gp_3_2 hC hB fl_Ro_89 d_Ro_undo_44 (fun H locs hB => ?_)
    refine lv_aload_n hx hb d_Ro_undo_47 rfl (lv_at hl 2 rfl) ?_
    refine lv_aload_n hx hb d_Ro_undo_48 rfl (lv_at hl 0 rfl) ?_
    refine gr_7_11 hC hB fl_Ro_30 d_Ro_undo_49 ?_
    refine lv_iload_n hx hb d_Ro_undo_52 rfl (lv_at hl 1 rfl) ?_
    refine ga_14 (x := (G 14 p1.toNatClampNeg)) hC hB hok.1 rfl d_Ro_undo_53 ?_
    replace hok := hok.2
    refine gp_3_3 hC hB fl_Ro_92 d_Ro_undo_54 (fun H locs hB => ?_)
    refine lv_aload_n hx hb d_Ro_undo_57 rfl (lv_at hl 2 rfl) ?_
    refine lv_aload_n hx hb d_Ro_undo_58 rfl (lv_at hl 0 rfl) ?_
    refine gr_7_12 hC hB fl_Ro_33 d_Ro_undo_59 ?_
    refine lv_iload_n hx hb d_Ro_undo_62 rfl (lv_at hl 1 rfl) ?_
    refine ga_15 (x := (G 15 p1.toNatClampNeg)) hC hB hok.1 rfl d_Ro_undo_63 ?_
    replace hok := hok.2
    refine gp_3_4 hC hB fl_Ro_94 d_Ro_undo_64 (fun H locs hB => ?_)
    refine lv_aload_n hx hb d_Ro_undo_67 rfl (lv_at hl 2 rfl) ?_
    refine lv_iconst (v := 0) hx hb d_Ro_undo_68 (by decide) ?_
    refine gp_3_5 hC hB fl_Ro_97 d_Ro_undo_69 (fun H locs hB => ?_)
    exact g_vret hC hB hr hlk (by decide) (by decide) rfl hf d_Ro_undo_72
  · replace hf := hf.trans (if_neg c1)
    replace hok := hok.2 c1
    refine lv_aload_n hx hb d_Ro_undo_10 rfl (lv_at hl 2 rfl) ?_
    refine gr_3_0 hC hB fl_Ro_67 d_Ro_undo_11 ?_
    refine lv_aload_n hx hb d_Ro_undo_14 rfl (lv_at hl 0 rfl) ?_
    refine gr_7_6 hC hB fl_Ro_15 d_Ro_undo_15 ?_
    refine lv_iload_n hx hb d_Ro_undo_18 rfl (lv_at hl 1 rfl) ?_
    refine ga_9 (x := (G 9 p1.toNatClampNeg)) hC hB hok.1 rfl d_Ro_undo_19 ?_
    replace hok := hok.2
    refine lv_aload_n hx hb d_Ro_undo_20 rfl (lv_at hl 0 rfl) ?_
    refine gr_7_7 hC hB fl_Ro_18 d_Ro_undo_21 ?_
    refine lv_iload_n hx hb d_Ro_undo_24 rfl (lv_at hl 1 rfl) ?_
    refine ga_10 (x := (G 10 p1.toNatClampNeg)) hC hB hok.1 rfl d_Ro_undo_25 ?_
    replace hok := hok.2
    refine gs_4 hC hB hok.1 d_Ro_undo_26 (fun H locs hB => ?_)
    replace hok := hok.2
    refine lv_aload_n hx hb d_Ro_undo_27 rfl (lv_at hl 2 rfl) ?_
    refine lv_aload_n hx hb d_Ro_undo_28 rfl (lv_at hl 0 rfl) ?_
    refine gr_7_9 hC hB fl_Ro_24 d_Ro_undo_29 ?_
    refine lv_iload_n hx hb d_Ro_undo_32 rfl (lv_at hl 1 rfl) ?_
    refine ga_12 (x := (G 12 p1.toNatClampNeg)) hC hB hok.1 rfl d_Ro_undo_33 ?_
    replace hok := hok.2
    refine gp_3_1 hC hB fl_Ro_86 d_Ro_undo_34 (fun H locs hB => ?_)
    refine lv_aload_n hx hb d_Ro_undo_37 rfl (lv_at hl 2 rfl) ?_
    refine lv_aload_n hx hb d_Ro_undo_38 rfl (lv_at hl 0 rfl) ?_
    refine gr_7_10 hC hB fl_Ro_27 d_Ro_undo_39 ?_
    refine lv_iload_n hx hb d_Ro_undo_42 rfl (lv_at hl 1 rfl) ?_
    refine ga_13 (x := (G 13 p1.toNatClampNeg)) hC hB hok.1 rfl d_Ro_undo_43 ?_
    replace hok := hok.2
    refine gp_3_2 hC hB fl_Ro_89 d_Ro_undo_44 (fun H locs hB => ?_)
    refine lv_aload_n hx hb d_Ro_undo_47 rfl (lv_at hl 2 rfl) ?_
    refine lv_aload_n hx hb d_Ro_undo_48 rfl (lv_at hl 0 rfl) ?_
    refine gr_7_11 hC hB fl_Ro_30 d_Ro_undo_49 ?_
    refine lv_iload_n hx hb d_Ro_undo_52 rfl (lv_at hl 1 rfl) ?_
    refine ga_14 (x := (G 14 p1.toNatClampNeg)) hC hB hok.1 rfl d_Ro_undo_53 ?_
    replace hok := hok.2
    refine gp_3_3 hC hB fl_Ro_92 d_Ro_undo_54 (fun H locs hB => ?_)
    refine lv_aload_n hx hb d_Ro_undo_57 rfl (lv_at hl 2 rfl) ?_
    refine lv_aload_n hx hb d_Ro_undo_58 rfl (lv_at hl 0 rfl) ?_
    refine gr_7_12 hC hB fl_Ro_33 d_Ro_undo_59 ?_
    refine lv_iload_n hx hb d_Ro_undo_62 rfl (lv_at hl 1 rfl) ?_
    refine ga_15 (x := (G 15 p1.toNatClampNeg)) hC hB hok.1 rfl d_Ro_undo_63 ?_
    replace hok := hok.2
    refine gp_3_4 hC hB fl_Ro_94 d_Ro_undo_64 (fun H locs hB => ?_)
    refine lv_aload_n hx hb d_Ro_undo_67 rfl (lv_at hl 2 rfl) ?_
    refine lv_iconst (v := 0) hx hb d_Ro_undo_68 (by decide) ?_
    refine gp_3_5 hC hB fl_Ro_97 d_Ro_undo_69 (fun H locs hB => ?_)
    exact g_vret hC hB hr hlk (by decide) (by decide) rfl hf d_Ro_undo_72
abbrev rm_Ro_costOf : Room := { frames := 1, cells := 0, slots := 0, locals := 13 }
def f_Ro_costOf (G : gT) (p1 : Int32) : Int32 := (G 8 ((f_Ro_slot G p1).toNatClampNeg))
def ok_Ro_costOf (G : gT) (p1 : Int32) : Prop := (vp_in (f_Ro_slot G p1) 1024 ∧ True)
set_option maxHeartbeats 4000000 in
set_option maxRecDepth 100000 in
theorem c_Ro_costOf (l : Launch) (G : gT) (p1 : Int32) (O : Int64) (hok : ok_Ro_costOf G p1) : gMet l y_Ro_costOf w_Ro_costOf rm_Ro_costOf (fun ad => [.ref (ad 7), .int p1]) G O (.inl (some (.int (f_Ro_costOf G p1)))) G O := by
  refine g_body (by decide) (gCode_of _ _ _ _) (fun ad => by simp [lg_sl, Value.category]) ?_
  intro p e s0 s m args below meth c D cI cL ad hC hr hlk htb hB ls hl
  have hC : CallFix p m c b_Ro_costOf 2 s args gtb R_Ro := hC
  have hl : lv_has ls 2 [(0, .ref (ad 7)), (1, .int p1)] := hl
  have hx := hC.1
  have hb := hC.2.1
  have hf : f_Ro_costOf G p1 = (G 8 ((f_Ro_slot G p1).toNatClampNeg)) := rfl
  have hok : (vp_in (f_Ro_slot G p1) 1024 ∧ True) := hok
  refine lv_aload_n hx hb d_Ro_costOf_0 rfl (lv_at hl 0 rfl) ?_
  refine gr_7_5 hC hB fl_Ro_11 d_Ro_costOf_1 ?_
  refine lv_iload_n hx hb d_Ro_costOf_4 rfl (lv_at hl 1 rfl) ?_
  refine g_callSi (As := [.int p1]) (rest := [.ref (ad 8)]) hC hB (c_Ro_slot l G p1 O) rfl key_Ro_slot rfl sta_Ro_slot ml_Ro_55 rfl hl.1 ⟨Nat.le_of_ble_eq_true rfl, Nat.le_of_ble_eq_true rfl, Nat.le_of_ble_eq_true rfl, Nat.le_of_ble_eq_true rfl⟩ d_Ro_costOf_5 (fun H locs hB => ?_)
  refine ga_8 (x := (G 8 ((f_Ro_slot G p1).toNatClampNeg))) hC hB hok.1 rfl d_Ro_costOf_8 ?_
  replace hok := hok.2
  exact g_iret hC hB hr hlk (by decide) (by decide) (by rw [hf]) rfl d_Ro_costOf_9
abbrev rm_Ro_writtenBy : Room := { frames := 1, cells := 0, slots := 0, locals := 13 }
def f_Ro_writtenBy (G : gT) (p1 : Int32) : Int32 := (G 9 ((f_Ro_slot G p1).toNatClampNeg))
def ok_Ro_writtenBy (G : gT) (p1 : Int32) : Prop := (vp_in (f_Ro_slot G p1) 1024 ∧ True)
set_option maxHeartbeats 4000000 in
set_option maxRecDepth 100000 in
theorem c_Ro_writtenBy (l : Launch) (G : gT) (p1 : Int32) (O : Int64) (hok : ok_Ro_writtenBy G p1) : gMet l y_Ro_writtenBy w_Ro_writtenBy rm_Ro_writtenBy (fun ad => [.ref (ad 7), .int p1]) G O (.inl (some (.int (f_Ro_writtenBy G p1)))) G O := by
  refine g_body (by decide) (gCode_of _ _ _ _) (fun ad => by simp [lg_sl, Value.category]) ?_
  intro p e s0 s m args below meth c D cI cL ad hC hr hlk htb hB ls hl
  have hC : CallFix p m c b_Ro_writtenBy 2 s args gtb R_Ro := hC
  have hl : lv_has ls 2 [(0, .ref (ad 7)), (1, .int p1)] := hl
  have hx := hC.1
  have hb := hC.2.1
  have hf : f_Ro_writtenBy G p1 = (G 9 ((f_Ro_slot G p1).toNatClampNeg)) := rfl
  have hok : (vp_in (f_Ro_slot G p1) 1024 ∧ True) := hok
  refine lv_aload_n hx hb d_Ro_writtenBy_0 rfl (lv_at hl 0 rfl) ?_
  refine gr_7_6 hC hB fl_Ro_15 d_Ro_writtenBy_1 ?_
  refine lv_iload_n hx hb d_Ro_writtenBy_4 rfl (lv_at hl 1 rfl) ?_
  refine g_callSi (As := [.int p1]) (rest := [.ref (ad 9)]) hC hB (c_Ro_slot l G p1 O) rfl key_Ro_slot rfl sta_Ro_slot ml_Ro_55 rfl hl.1 ⟨Nat.le_of_ble_eq_true rfl, Nat.le_of_ble_eq_true rfl, Nat.le_of_ble_eq_true rfl, Nat.le_of_ble_eq_true rfl⟩ d_Ro_writtenBy_5 (fun H locs hB => ?_)
  refine ga_9 (x := (G 9 ((f_Ro_slot G p1).toNatClampNeg))) hC hB hok.1 rfl d_Ro_writtenBy_8 ?_
  replace hok := hok.2
  exact g_iret hC hB hr hlk (by decide) (by decide) (by rw [hf]) rfl d_Ro_writtenBy_9
abbrev rm_Ro_numberBefore : Room := { frames := 1, cells := 0, slots := 0, locals := 12 }
def f_Ro_numberBefore (G : gT) (p1 : Int32) (p2 : Int32) (p3 : Int32) : Int32 := (if (G 9 ((f_Ro_slot G p1).toNatClampNeg)) = p2 then (G 10 ((f_Ro_slot G p1).toNatClampNeg)) else p3)
def ok_Ro_numberBefore (G : gT) (p1 : Int32) (p2 : Int32) (p3 : Int32) : Prop := (vp_in (f_Ro_slot G p1) 1024 ∧ (((G 9 ((f_Ro_slot G p1).toNatClampNeg)) = p2 → (vp_in (f_Ro_slot G p1) 1024 ∧ True)) ∧ (¬ (G 9 ((f_Ro_slot G p1).toNatClampNeg)) = p2 → True)))
set_option maxHeartbeats 4000000 in
set_option maxRecDepth 100000 in
theorem c_Ro_numberBefore (l : Launch) (G : gT) (p1 : Int32) (p2 : Int32) (p3 : Int32) (O : Int64) (hok : ok_Ro_numberBefore G p1 p2 p3) : gMet l y_Ro_numberBefore w_Ro_numberBefore rm_Ro_numberBefore (fun ad => [.ref (ad 7), .int p1, .int p2, .int p3]) G O (.inl (some (.int (f_Ro_numberBefore G p1 p2 p3)))) G O := by
  refine g_body (by decide) (gCode_of _ _ _ _) (fun ad => by simp [lg_sl, Value.category]) ?_
  intro p e s0 s m args below meth c D cI cL ad hC hr hlk htb hB ls hl
  have hC : CallFix p m c b_Ro_numberBefore 5 s args gtb R_Ro := hC
  have hl : lv_has ls 5 [(0, .ref (ad 7)), (1, .int p1), (2, .int p2), (3, .int p3)] := hl
  have hx := hC.1
  have hb := hC.2.1
  have hf : f_Ro_numberBefore G p1 p2 p3 = (if (G 9 ((f_Ro_slot G p1).toNatClampNeg)) = p2 then (G 10 ((f_Ro_slot G p1).toNatClampNeg)) else p3) := rfl
  have hok : (vp_in (f_Ro_slot G p1) 1024 ∧ (((G 9 ((f_Ro_slot G p1).toNatClampNeg)) = p2 → (vp_in (f_Ro_slot G p1) 1024 ∧ True)) ∧ (¬ (G 9 ((f_Ro_slot G p1).toNatClampNeg)) = p2 → True))) := hok
  refine lv_iload_n hx hb d_Ro_numberBefore_0 rfl (lv_at hl 1 rfl) ?_
  refine g_callSi (As := [.int p1]) (rest := []) hC hB (c_Ro_slot l G p1 O) rfl key_Ro_slot rfl sta_Ro_slot ml_Ro_55 rfl hl.1 ⟨Nat.le_of_ble_eq_true rfl, Nat.le_of_ble_eq_true rfl, Nat.le_of_ble_eq_true rfl, Nat.le_of_ble_eq_true rfl⟩ d_Ro_numberBefore_1 (fun H locs hB => ?_)
  refine lv_istore (lv' := [(4, .int (f_Ro_slot G p1)), (0, .ref (ad 7)), (1, .int p1), (2, .int p2), (3, .int p3)]) hx hb d_Ro_numberBefore_4 hl (by decide) rfl (fun ls hl => ?_)
  refine lv_aload_n hx hb d_Ro_numberBefore_6 rfl (lv_at hl 1 rfl) ?_
  refine gr_7_6 hC hB fl_Ro_15 d_Ro_numberBefore_7 ?_
  refine lv_iload hx hb d_Ro_numberBefore_10 (lv_at hl 0 rfl) ?_
  refine ga_9 (x := (G 9 ((f_Ro_slot G p1).toNatClampNeg))) hC hB hok.1 rfl d_Ro_numberBefore_12 ?_
  replace hok := hok.2
  refine lv_iload_n hx hb d_Ro_numberBefore_13 rfl (lv_at hl 3 rfl) ?_
  refine lv_icmp_ne (tgt := 27) hx hb d_Ro_numberBefore_14 (by decide) (fun c1 => ?_) (fun c1 => ?_)
  · replace hf := hf.trans (if_neg c1)
    replace hok := hok.2 c1
    refine lv_iload_n hx hb d_Ro_numberBefore_27 rfl (lv_at hl 4 rfl) ?_
    exact g_iret hC hB hr hlk (by decide) (by decide) (by rw [hf]) rfl d_Ro_numberBefore_28
  · replace hf := hf.trans (if_pos c1)
    replace hok := hok.1 c1
    refine lv_aload_n hx hb d_Ro_numberBefore_17 rfl (lv_at hl 1 rfl) ?_
    refine gr_7_7 hC hB fl_Ro_18 d_Ro_numberBefore_18 ?_
    refine lv_iload hx hb d_Ro_numberBefore_21 (lv_at hl 0 rfl) ?_
    refine ga_10 (x := (G 10 ((f_Ro_slot G p1).toNatClampNeg))) hC hB hok.1 rfl d_Ro_numberBefore_23 ?_
    replace hok := hok.2
    refine lv_goto (tgt := 28) hx hb d_Ro_numberBefore_24 (by decide) ?_
    exact g_iret hC hB hr hlk (by decide) (by decide) (by rw [hf]) rfl d_Ro_numberBefore_28
abbrev rm_Ro_restBefore : Room := { frames := 1, cells := 0, slots := 0, locals := 12 }
def f_Ro_restBefore (G : gT) (p1 : Int32) (p2 : Int32) : Int32 := (if p2 = 264 then (G 12 ((f_Ro_slot G p1).toNatClampNeg)) else (if p2 = 265 then (G 13 ((f_Ro_slot G p1).toNatClampNeg)) else (if p2 = 266 then (G 14 ((f_Ro_slot G p1).toNatClampNeg)) else (if p2 = 267 then (G 15 ((f_Ro_slot G p1).toNatClampNeg)) else 0))))
def ok_Ro_restBefore (G : gT) (p1 : Int32) (p2 : Int32) : Prop := ((p2 = 264 → (vp_in (f_Ro_slot G p1) 1024 ∧ True)) ∧ (¬ p2 = 264 → ((p2 = 265 → (vp_in (f_Ro_slot G p1) 1024 ∧ True)) ∧ (¬ p2 = 265 → ((p2 = 266 → (vp_in (f_Ro_slot G p1) 1024 ∧ True)) ∧ (¬ p2 = 266 → ((p2 = 267 → (vp_in (f_Ro_slot G p1) 1024 ∧ True)) ∧ (¬ p2 = 267 → True))))))))
set_option maxHeartbeats 4000000 in
set_option maxRecDepth 100000 in
theorem c_Ro_restBefore (l : Launch) (G : gT) (p1 : Int32) (p2 : Int32) (O : Int64) (hok : ok_Ro_restBefore G p1 p2) : gMet l y_Ro_restBefore w_Ro_restBefore rm_Ro_restBefore (fun ad => [.ref (ad 7), .int p1, .int p2]) G O (.inl (some (.int (f_Ro_restBefore G p1 p2)))) G O := by
  refine g_body (by decide) (gCode_of _ _ _ _) (fun ad => by simp [lg_sl, Value.category]) ?_
  intro p e s0 s m args below meth c D cI cL ad hC hr hlk htb hB ls hl
  have hC : CallFix p m c b_Ro_restBefore 4 s args gtb R_Ro := hC
  have hl : lv_has ls 4 [(0, .ref (ad 7)), (1, .int p1), (2, .int p2)] := hl
  have hx := hC.1
  have hb := hC.2.1
  have hf : f_Ro_restBefore G p1 p2 = (if p2 = 264 then (G 12 ((f_Ro_slot G p1).toNatClampNeg)) else (if p2 = 265 then (G 13 ((f_Ro_slot G p1).toNatClampNeg)) else (if p2 = 266 then (G 14 ((f_Ro_slot G p1).toNatClampNeg)) else (if p2 = 267 then (G 15 ((f_Ro_slot G p1).toNatClampNeg)) else 0)))) := rfl
  have hok : ((p2 = 264 → (vp_in (f_Ro_slot G p1) 1024 ∧ True)) ∧ (¬ p2 = 264 → ((p2 = 265 → (vp_in (f_Ro_slot G p1) 1024 ∧ True)) ∧ (¬ p2 = 265 → ((p2 = 266 → (vp_in (f_Ro_slot G p1) 1024 ∧ True)) ∧ (¬ p2 = 266 → ((p2 = 267 → (vp_in (f_Ro_slot G p1) 1024 ∧ True)) ∧ (¬ p2 = 267 → True)))))))) := hok
  refine lv_iload_n hx hb d_Ro_restBefore_0 rfl (lv_at hl 1 rfl) ?_
  refine g_callSi (As := [.int p1]) (rest := []) hC hB (c_Ro_slot l G p1 O) rfl key_Ro_slot rfl sta_Ro_slot ml_Ro_55 rfl hl.1 ⟨Nat.le_of_ble_eq_true rfl, Nat.le_of_ble_eq_true rfl, Nat.le_of_ble_eq_true rfl, Nat.le_of_ble_eq_true rfl⟩ d_Ro_restBefore_1 (fun H locs hB => ?_)
  refine lv_istore_n (lv' := [(3, .int (f_Ro_slot G p1)), (0, .ref (ad 7)), (1, .int p1), (2, .int p2)]) hx hb d_Ro_restBefore_4 rfl hl (by decide) rfl (fun ls hl => ?_)
  refine lv_iload_n hx hb d_Ro_restBefore_5 rfl (lv_at hl 3 rfl) ?_
  by_cases c1 : p2 = 264
  · replace hf := hf.trans (if_pos c1)
    replace hok := hok.1 c1
    refine g_switch (tgt := 36) hC d_Ro_restBefore_6 (fun i hi => by show i < 4; omega) (by rw [c1]; decide) ?_
    refine lv_aload_n hx hb d_Ro_restBefore_36 rfl (lv_at hl 1 rfl) ?_
    refine gr_7_9 hC hB fl_Ro_24 d_Ro_restBefore_37 ?_
    refine lv_iload_n hx hb d_Ro_restBefore_40 rfl (lv_at hl 0 rfl) ?_
    refine ga_12 (x := (G 12 ((f_Ro_slot G p1).toNatClampNeg))) hC hB hok.1 rfl d_Ro_restBefore_41 ?_
    replace hok := hok.2
    exact g_iret hC hB hr hlk (by decide) (by decide) (by rw [hf]) rfl d_Ro_restBefore_42
  · replace hf := hf.trans (if_neg c1)
    replace hok := hok.2 c1
    by_cases c2 : p2 = 265
    · replace hf := hf.trans (if_pos c2)
      replace hok := hok.1 c2
      refine g_switch (tgt := 43) hC d_Ro_restBefore_6 (fun i hi => by show i < 4; omega) (by rw [c2]; decide) ?_
      refine lv_aload_n hx hb d_Ro_restBefore_43 rfl (lv_at hl 1 rfl) ?_
      refine gr_7_10 hC hB fl_Ro_27 d_Ro_restBefore_44 ?_
      refine lv_iload_n hx hb d_Ro_restBefore_47 rfl (lv_at hl 0 rfl) ?_
      refine ga_13 (x := (G 13 ((f_Ro_slot G p1).toNatClampNeg))) hC hB hok.1 rfl d_Ro_restBefore_48 ?_
      replace hok := hok.2
      exact g_iret hC hB hr hlk (by decide) (by decide) (by rw [hf]) rfl d_Ro_restBefore_49
    · replace hf := hf.trans (if_neg c2)
      replace hok := hok.2 c2
      by_cases c3 : p2 = 266
      · replace hf := hf.trans (if_pos c3)
        replace hok := hok.1 c3
        refine g_switch (tgt := 50) hC d_Ro_restBefore_6 (fun i hi => by show i < 4; omega) (by rw [c3]; decide) ?_
        refine lv_aload_n hx hb d_Ro_restBefore_50 rfl (lv_at hl 1 rfl) ?_
        refine gr_7_11 hC hB fl_Ro_30 d_Ro_restBefore_51 ?_
        refine lv_iload_n hx hb d_Ro_restBefore_54 rfl (lv_at hl 0 rfl) ?_
        refine ga_14 (x := (G 14 ((f_Ro_slot G p1).toNatClampNeg))) hC hB hok.1 rfl d_Ro_restBefore_55 ?_
        replace hok := hok.2
        exact g_iret hC hB hr hlk (by decide) (by decide) (by rw [hf]) rfl d_Ro_restBefore_56
      · replace hf := hf.trans (if_neg c3)
        replace hok := hok.2 c3
        by_cases c4 : p2 = 267
        · replace hf := hf.trans (if_pos c4)
          replace hok := hok.1 c4
          refine g_switch (tgt := 57) hC d_Ro_restBefore_6 (fun i hi => by show i < 4; omega) (by rw [c4]; decide) ?_
          refine lv_aload_n hx hb d_Ro_restBefore_57 rfl (lv_at hl 1 rfl) ?_
          refine gr_7_12 hC hB fl_Ro_33 d_Ro_restBefore_58 ?_
          refine lv_iload_n hx hb d_Ro_restBefore_61 rfl (lv_at hl 0 rfl) ?_
          refine ga_15 (x := (G 15 ((f_Ro_slot G p1).toNatClampNeg))) hC hB hok.1 rfl d_Ro_restBefore_62 ?_
          replace hok := hok.2
          exact g_iret hC hB hr hlk (by decide) (by decide) (by rw [hf]) rfl d_Ro_restBefore_63
        · replace hf := hf.trans (if_neg c4)
          replace hok := hok.2 c4
          refine g_switch (tgt := 64) hC d_Ro_restBefore_6 (fun i hi => by show i < 4; omega) ?_ ?_
          · have e0 := g_ne (k := 264) c1 (by decide)
            have e1 := g_ne (k := 265) c2 (by decide)
            have e2 := g_ne (k := 266) c3 (by decide)
            have e3 := g_ne (k := 267) c4 (by decide)
            have e : (p2).toInt < 264 ∨ 267 < (p2).toInt := by omega
            generalize (p2).toInt = z at e ⊢
            rcases e with e | e
            · rw [g_swt, if_pos (by omega)]; decide
            · rw [g_swt, if_pos (by omega)]; decide
          · refine lv_iconst (v := 0) hx hb d_Ro_restBefore_64 (by decide) ?_
            exact g_iret hC hB hr hlk (by decide) (by decide) (by rw [hf]) rfl d_Ro_restBefore_65
abbrev rm_Mt_floorMod : Room := { frames := 0, cells := 0, slots := 0, locals := 0 }
def f_Mt_floorMod (G : gT) (p0 : Int32) (p1 : Int32) : Int32 := (if (0 : Int32) ≤ (p0 ^^^ p1) then p0 - p0 / p1 * p1 else (if (p0 - p0 / p1 * p1) = 0 then p0 - p0 / p1 * p1 else (p0 - p0 / p1 * p1) + p1))
def ok_Mt_floorMod (G : gT) (p0 : Int32) (p1 : Int32) : Prop := (¬ p1 = 0 ∧ True)
set_option maxHeartbeats 4000000 in
set_option maxRecDepth 100000 in
theorem c_Mt_floorMod (l : Launch) (G : gT) (p0 : Int32) (p1 : Int32) (O : Int64) (hok : ok_Mt_floorMod G p0 p1) : gMet l y_Mt_floorMod w_Mt_floorMod rm_Mt_floorMod (fun ad => [.int p0, .int p1]) G O (.inl (some (.int (f_Mt_floorMod G p0 p1)))) G O := by
  refine g_bodyF (by decide +kernel) (gCode_of _ _ _ _) (fun ad => by simp [lg_sl, Value.category]) ?_
  intro p e s0 s m args below meth c D cI cL ad hC hr hlk htb hB ls hl
  have hC : CallFix p m c b_Mt_floorMod 3 s args gtb R_Mt := hC
  have hl : lv_has ls 3 [(0, .int p0), (1, .int p1)] := hl
  have hx := hC.1
  have hb := hC.2.1
  have hf : f_Mt_floorMod G p0 p1 = (if (0 : Int32) ≤ (p0 ^^^ p1) then p0 - p0 / p1 * p1 else (if (p0 - p0 / p1 * p1) = 0 then p0 - p0 / p1 * p1 else (p0 - p0 / p1 * p1) + p1)) := rfl
  have hok : (¬ p1 = 0 ∧ True) := hok
  refine lv_iload_n hx hb d_Mt_floorMod_0 rfl (lv_at hl 0 rfl) ?_
  refine lv_iload_n hx hb d_Mt_floorMod_1 rfl (lv_at hl 1 rfl) ?_
  refine lv_irem hx hb d_Mt_floorMod_2 hok.1 ?_
  replace hok := hok.2
  refine lv_istore_n (lv' := [(2, .int (p0 - p0 / p1 * p1)), (0, .int p0), (1, .int p1)]) hx hb d_Mt_floorMod_3 rfl hl (by decide) rfl (fun ls hl => ?_)
  refine lv_iload_n hx hb d_Mt_floorMod_4 rfl (lv_at hl 1 rfl) ?_
  refine lv_iload_n hx hb d_Mt_floorMod_5 rfl (lv_at hl 2 rfl) ?_
  refine lv_ixor hx hb d_Mt_floorMod_6 ?_
  refine lv_if_ge (tgt := 18) hx hb d_Mt_floorMod_7 (by decide) (fun c1 => ?_) (fun c1 => ?_)
  · replace hf := hf.trans (if_pos c1)
    refine lv_iload_n hx hb d_Mt_floorMod_18 rfl (lv_at hl 0 rfl) ?_
    exact g_iret hC hB hr hlk (by decide) (by decide) (by rw [hf]) rfl d_Mt_floorMod_19
  · replace hf := hf.trans (if_neg c1)
    refine lv_iload_n hx hb d_Mt_floorMod_10 rfl (lv_at hl 0 rfl) ?_
    refine lv_if_eq (tgt := 18) hx hb d_Mt_floorMod_11 (by decide) (fun c2 => ?_) (fun c2 => ?_)
    · replace hf := hf.trans (if_pos c2)
      refine lv_iload_n hx hb d_Mt_floorMod_18 rfl (lv_at hl 0 rfl) ?_
      exact g_iret hC hB hr hlk (by decide) (by decide) (by rw [hf]) rfl d_Mt_floorMod_19
    · replace hf := hf.trans (if_neg c2)
      refine lv_iload_n hx hb d_Mt_floorMod_14 rfl (lv_at hl 0 rfl) ?_
      refine lv_iload_n hx hb d_Mt_floorMod_15 rfl (lv_at hl 2 rfl) ?_
      refine lv_iadd hx hb d_Mt_floorMod_16 ?_
      exact g_iret hC hB hr hlk (by decide) (by decide) (by rw [hf]) rfl d_Mt_floorMod_17
abbrev rm_Mt_floorDiv : Room := { frames := 0, cells := 0, slots := 0, locals := 0 }
def f_Mt_floorDiv (G : gT) (p0 : Int32) (p1 : Int32) : Int32 := (if (0 : Int32) ≤ (p0 ^^^ p1) then p0 / p1 else (if ((p0 / p1) * p1) = p0 then p0 / p1 else (p0 / p1) - (1 : Int32)))
def ok_Mt_floorDiv (G : gT) (p0 : Int32) (p1 : Int32) : Prop := (¬ p1 = 0 ∧ True)
set_option maxHeartbeats 4000000 in
set_option maxRecDepth 100000 in
theorem c_Mt_floorDiv (l : Launch) (G : gT) (p0 : Int32) (p1 : Int32) (O : Int64) (hok : ok_Mt_floorDiv G p0 p1) : gMet l y_Mt_floorDiv w_Mt_floorDiv rm_Mt_floorDiv (fun ad => [.int p0, .int p1]) G O (.inl (some (.int (f_Mt_floorDiv G p0 p1)))) G O := by
  refine g_bodyF (by decide +kernel) (gCode_of _ _ _ _) (fun ad => by simp [lg_sl, Value.category]) ?_
  intro p e s0 s m args below meth c D cI cL ad hC hr hlk htb hB ls hl
  have hC : CallFix p m c b_Mt_floorDiv 3 s args gtb R_Mt := hC
  have hl : lv_has ls 3 [(0, .int p0), (1, .int p1)] := hl
  have hx := hC.1
  have hb := hC.2.1
  have hf : f_Mt_floorDiv G p0 p1 = (if (0 : Int32) ≤ (p0 ^^^ p1) then p0 / p1 else (if ((p0 / p1) * p1) = p0 then p0 / p1 else (p0 / p1) - (1 : Int32))) := rfl
  have hok : (¬ p1 = 0 ∧ True) := hok
  refine lv_iload_n hx hb d_Mt_floorDiv_0 rfl (lv_at hl 0 rfl) ?_
  refine lv_iload_n hx hb d_Mt_floorDiv_1 rfl (lv_at hl 1 rfl) ?_
  refine lv_idiv hx hb d_Mt_floorDiv_2 hok.1 ?_
  replace hok := hok.2
  refine lv_istore_n (lv' := [(2, .int (p0 / p1)), (0, .int p0), (1, .int p1)]) hx hb d_Mt_floorDiv_3 rfl hl (by decide) rfl (fun ls hl => ?_)
  refine lv_iload_n hx hb d_Mt_floorDiv_4 rfl (lv_at hl 1 rfl) ?_
  refine lv_iload_n hx hb d_Mt_floorDiv_5 rfl (lv_at hl 2 rfl) ?_
  refine lv_ixor hx hb d_Mt_floorDiv_6 ?_
  refine lv_if_ge (tgt := 21) hx hb d_Mt_floorDiv_7 (by decide) (fun c1 => ?_) (fun c1 => ?_)
  · replace hf := hf.trans (if_pos c1)
    refine lv_iload_n hx hb d_Mt_floorDiv_21 rfl (lv_at hl 0 rfl) ?_
    exact g_iret hC hB hr hlk (by decide) (by decide) (by rw [hf]) rfl d_Mt_floorDiv_22
  · replace hf := hf.trans (if_neg c1)
    refine lv_iload_n hx hb d_Mt_floorDiv_10 rfl (lv_at hl 0 rfl) ?_
    refine lv_iload_n hx hb d_Mt_floorDiv_11 rfl (lv_at hl 2 rfl) ?_
    refine lv_imul hx hb d_Mt_floorDiv_12 ?_
    refine lv_iload_n hx hb d_Mt_floorDiv_13 rfl (lv_at hl 1 rfl) ?_
    refine lv_icmp_eq (tgt := 21) hx hb d_Mt_floorDiv_14 (by decide) (fun c2 => ?_) (fun c2 => ?_)
    · replace hf := hf.trans (if_pos c2)
      refine lv_iload_n hx hb d_Mt_floorDiv_21 rfl (lv_at hl 0 rfl) ?_
      exact g_iret hC hB hr hlk (by decide) (by decide) (by rw [hf]) rfl d_Mt_floorDiv_22
    · replace hf := hf.trans (if_neg c2)
      refine lv_iload_n hx hb d_Mt_floorDiv_17 rfl (lv_at hl 0 rfl) ?_
      refine lv_iconst (v := 1) hx hb d_Mt_floorDiv_18 (by decide) ?_
      refine lv_isub hx hb d_Mt_floorDiv_19 ?_
      exact g_iret hC hB hr hlk (by decide) (by decide) (by rw [hf]) rfl d_Mt_floorDiv_20
abbrev rm_BS_restAt : Room := { frames := 2, cells := 0, slots := 0, locals := 27 }
def f_BS_restAt (G : gT) (p1 : Int32) (p2 : Int32) : Int32 := (if p1 = (G 7 1) then (f_Ma_rest_3 G p2) else (f_Ro_restBefore G p1 p2))
def ok_BS_restAt (G : gT) (p1 : Int32) (p2 : Int32) : Prop := ((p1 = (G 7 1) → True) ∧ (¬ p1 = (G 7 1) → (ok_Ro_restBefore G p1 p2 ∧ True)))
set_option maxHeartbeats 4000000 in
set_option maxRecDepth 100000 in
theorem c_BS_restAt (l : Launch) (G : gT) (p1 : Int32) (p2 : Int32) (O : Int64) (hok : ok_BS_restAt G p1 p2) : gMet l y_BS_restAt w_BS_restAt rm_BS_restAt (fun ad => [.ref (ad 0), .int p1, .int p2]) G O (.inl (some (.int (f_BS_restAt G p1 p2)))) G O := by
  refine g_body (by decide) (gCode_of _ _ _ _) (fun ad => by simp [lg_sl, Value.category]) ?_
  intro p e s0 s m args below meth c D cI cL ad hC hr hlk htb hB ls hl
  have hC : CallFix p m c b_BS_restAt 3 s args gtb R_BS := hC
  have hl : lv_has ls 3 [(0, .ref (ad 0)), (1, .int p1), (2, .int p2)] := hl
  have hx := hC.1
  have hb := hC.2.1
  have hf : f_BS_restAt G p1 p2 = (if p1 = (G 7 1) then (f_Ma_rest_3 G p2) else (f_Ro_restBefore G p1 p2)) := rfl
  have hok : ((p1 = (G 7 1) → True) ∧ (¬ p1 = (G 7 1) → (ok_Ro_restBefore G p1 p2 ∧ True))) := hok
  refine lv_iload_n hx hb d_BS_restAt_0 rfl (lv_at hl 1 rfl) ?_
  refine lv_aload_n hx hb d_BS_restAt_1 rfl (lv_at hl 0 rfl) ?_
  refine gr_0_6 hC hB fl_BS_37 d_BS_restAt_2 ?_
  refine gg_7_1 (x := (G 7 1)) hC hB rfl fl_BS_88 d_BS_restAt_5 ?_
  refine lv_icmp_ne (tgt := 22) hx hb d_BS_restAt_8 (by decide) (fun c1 => ?_) (fun c1 => ?_)
  · replace hf := hf.trans (if_neg c1)
    replace hok := hok.2 c1
    refine lv_aload_n hx hb d_BS_restAt_22 rfl (lv_at hl 0 rfl) ?_
    refine gr_0_6 hC hB fl_BS_37 d_BS_restAt_23 ?_
    refine lv_iload_n hx hb d_BS_restAt_26 rfl (lv_at hl 1 rfl) ?_
    refine lv_iload_n hx hb d_BS_restAt_27 rfl (lv_at hl 2 rfl) ?_
    refine g_callVi (b := ad 7) (As := [.int p1, .int p2]) (rest := []) hC hB (c_Ro_restBefore l G p1 p2 O hok.1) rfl key_Ro_restBefore rfl ins_Ro_restBefore sel_Ro_restBefore ml_BS_153 (g_rec7 hB) rfl hl.1 ⟨Nat.le_of_ble_eq_true rfl, Nat.le_of_ble_eq_true rfl, Nat.le_of_ble_eq_true rfl, Nat.le_of_ble_eq_true rfl⟩ d_BS_restAt_28 (fun H locs hB => ?_)
    replace hok := hok.2
    exact g_iret hC hB hr hlk (by decide) (by decide) (by rw [hf]) rfl d_BS_restAt_31
  · replace hf := hf.trans (if_pos c1)
    replace hok := hok.1 c1
    refine lv_aload_n hx hb d_BS_restAt_11 rfl (lv_at hl 0 rfl) ?_
    refine gr_0_4 hC hB fl_BS_19 d_BS_restAt_12 ?_
    refine lv_iload_n hx hb d_BS_restAt_15 rfl (lv_at hl 2 rfl) ?_
    refine g_callVi (b := ad 3) (As := [.int p2]) (rest := []) hC hB (c_Ma_rest_3 l G p2 O) rfl key_Ma_rest rfl ins_Ma_rest sel_Ma_rest ml_BS_150 (g_rec3 hB) rfl hl.1 ⟨Nat.le_of_ble_eq_true rfl, Nat.le_of_ble_eq_true rfl, Nat.le_of_ble_eq_true rfl, Nat.le_of_ble_eq_true rfl⟩ d_BS_restAt_16 (fun H locs hB => ?_)
    refine lv_goto (tgt := 31) hx hb d_BS_restAt_19 (by decide) ?_
    exact g_iret hC hB hr hlk (by decide) (by decide) (by rw [hf]) rfl d_BS_restAt_31
abbrev rm_BS_marksKept : Room := { frames := 1, cells := 0, slots := 0, locals := 15 }
def f_BS_marksKept (G : gT) : Int32 := (f_Mt_floorDiv G (G 7 1) (G 0 0)) - (f_Mt_floorDiv G ((G 7 2) - (1 : Int32)) (G 0 0))
def ok_BS_marksKept (G : gT) : Prop := (ok_Mt_floorDiv G (G 7 1) (G 0 0) ∧ (ok_Mt_floorDiv G ((G 7 2) - (1 : Int32)) (G 0 0) ∧ True))
set_option maxHeartbeats 4000000 in
set_option maxRecDepth 100000 in
theorem c_BS_marksKept (l : Launch) (G : gT) (O : Int64) (hok : ok_BS_marksKept G) : gMet l y_BS_marksKept w_BS_marksKept rm_BS_marksKept (fun ad => [.ref (ad 0)]) G O (.inl (some (.int (f_BS_marksKept G)))) G O := by
  refine g_body (by decide) (gCode_of _ _ _ _) (fun ad => by simp [lg_sl, Value.category]) ?_
  intro p e s0 s m args below meth c D cI cL ad hC hr hlk htb hB ls hl
  have hC : CallFix p m c b_BS_marksKept 1 s args gtb R_BS := hC
  have hl : lv_has ls 1 [(0, .ref (ad 0))] := hl
  have hx := hC.1
  have hb := hC.2.1
  have hf : f_BS_marksKept G = (f_Mt_floorDiv G (G 7 1) (G 0 0)) - (f_Mt_floorDiv G ((G 7 2) - (1 : Int32)) (G 0 0)) := rfl
  have hok : (ok_Mt_floorDiv G (G 7 1) (G 0 0) ∧ (ok_Mt_floorDiv G ((G 7 2) - (1 : Int32)) (G 0 0) ∧ True)) := hok
  refine lv_aload_n hx hb d_BS_marksKept_0 rfl (lv_at hl 0 rfl) ?_
  refine gr_0_6 hC hB fl_BS_37 d_BS_marksKept_1 ?_
  refine gg_7_1 (x := (G 7 1)) hC hB rfl fl_BS_88 d_BS_marksKept_4 ?_
  refine lv_aload_n hx hb d_BS_marksKept_7 rfl (lv_at hl 0 rfl) ?_
  refine gg_0_0 (x := (G 0 0)) hC hB rfl fl_BS_41 d_BS_marksKept_8 ?_
  refine g_callSi (As := [.int (G 7 1), .int (G 0 0)]) (rest := []) hC hB (c_Mt_floorDiv l G (G 7 1) (G 0 0) O hok.1) rfl key_Mt_floorDiv rfl sta_Mt_floorDiv ml_BS_156 rfl hl.1 ⟨Nat.le_of_ble_eq_true rfl, Nat.le_of_ble_eq_true rfl, Nat.le_of_ble_eq_true rfl, Nat.le_of_ble_eq_true rfl⟩ d_BS_marksKept_11 (fun H locs hB => ?_)
  replace hok := hok.2
  refine lv_aload_n hx hb d_BS_marksKept_14 rfl (lv_at hl 0 rfl) ?_
  refine gr_0_6 hC hB fl_BS_37 d_BS_marksKept_15 ?_
  refine gg_7_2 (x := (G 7 2)) hC hB rfl fl_BS_106 d_BS_marksKept_18 ?_
  refine lv_iconst (v := 1) hx hb d_BS_marksKept_21 (by decide) ?_
  refine lv_isub hx hb d_BS_marksKept_22 ?_
  refine lv_aload_n hx hb d_BS_marksKept_23 rfl (lv_at hl 0 rfl) ?_
  refine gg_0_0 (x := (G 0 0)) hC hB rfl fl_BS_41 d_BS_marksKept_24 ?_
  refine g_callSi (As := [.int ((G 7 2) - (1 : Int32)), .int (G 0 0)]) (rest := [.int (f_Mt_floorDiv G (G 7 1) (G 0 0))]) hC hB (c_Mt_floorDiv l G ((G 7 2) - (1 : Int32)) (G 0 0) O hok.1) rfl key_Mt_floorDiv rfl sta_Mt_floorDiv ml_BS_156 rfl hl.1 ⟨Nat.le_of_ble_eq_true rfl, Nat.le_of_ble_eq_true rfl, Nat.le_of_ble_eq_true rfl, Nat.le_of_ble_eq_true rfl⟩ d_BS_marksKept_27 (fun H locs hB => ?_)
  replace hok := hok.2
  refine lv_isub hx hb d_BS_marksKept_30 ?_
  exact g_iret hC hB hr hlk (by decide) (by decide) (by rw [hf]) rfl d_BS_marksKept_31
abbrev rm_BS_state : Room := { frames := 1, cells := 0, slots := 0, locals := 14 }
def f_BS_state (G : gT) : Int32 := (if (f_Ma_wouldWait_3 G (G 0 3)) = 0 then (G 3 5) else 3)
def ok_BS_state (G : gT) : Prop := (ok_Ma_wouldWait_3 G (G 0 3) ∧ True)
set_option maxHeartbeats 4000000 in
set_option maxRecDepth 100000 in
theorem c_BS_state (l : Launch) (G : gT) (O : Int64) (hok : ok_BS_state G) : gMet l y_BS_state w_BS_state rm_BS_state (fun ad => [.ref (ad 0)]) G O (.inl (some (.int (f_BS_state G)))) G O := by
  refine g_body (by decide) (gCode_of _ _ _ _) (fun ad => by simp [lg_sl, Value.category]) ?_
  intro p e s0 s m args below meth c D cI cL ad hC hr hlk htb hB ls hl
  have hC : CallFix p m c b_BS_state 1 s args gtb R_BS := hC
  have hl : lv_has ls 1 [(0, .ref (ad 0))] := hl
  have hx := hC.1
  have hb := hC.2.1
  have hf : f_BS_state G = (if (f_Ma_wouldWait_3 G (G 0 3)) = 0 then (G 3 5) else 3) := rfl
  have hok : (ok_Ma_wouldWait_3 G (G 0 3) ∧ True) := hok
  refine lv_aload_n hx hb d_BS_state_0 rfl (lv_at hl 0 rfl) ?_
  refine gr_0_4 hC hB fl_BS_19 d_BS_state_1 ?_
  refine lv_aload_n hx hb d_BS_state_4 rfl (lv_at hl 0 rfl) ?_
  refine gr_0_1 hC hB fl_BS_9 d_BS_state_5 ?_
  refine lv_aload_n hx hb d_BS_state_8 rfl (lv_at hl 0 rfl) ?_
  refine gg_0_3 (x := (G 0 3)) hC hB rfl fl_BS_52 d_BS_state_9 ?_
  refine g_callVi (b := ad 3) (As := [.ref (ad 1), .int (G 0 3)]) (rest := []) hC hB (c_Ma_wouldWait_3 l G (G 0 3) O hok.1) rfl key_Ma_wouldWait rfl ins_Ma_wouldWait sel_Ma_wouldWait ml_BS_159 (g_rec3 hB) rfl hl.1 ⟨Nat.le_of_ble_eq_true rfl, Nat.le_of_ble_eq_true rfl, Nat.le_of_ble_eq_true rfl, Nat.le_of_ble_eq_true rfl⟩ d_BS_state_12 (fun H locs hB => ?_)
  replace hok := hok.2
  refine lv_if_eq (tgt := 22) hx hb d_BS_state_15 (by decide) (fun c1 => ?_) (fun c1 => ?_)
  · replace hf := hf.trans (if_pos c1)
    refine lv_aload_n hx hb d_BS_state_22 rfl (lv_at hl 0 rfl) ?_
    refine gr_0_4 hC hB fl_BS_19 d_BS_state_23 ?_
    refine gg_3_5 (x := (G 3 5)) hC hB rfl fl_BS_163 d_BS_state_26 ?_
    exact g_iret hC hB hr hlk (by decide) (by decide) (by rw [hf]) rfl d_BS_state_29
  · replace hf := hf.trans (if_neg c1)
    refine lv_iconst (v := 3) hx hb d_BS_state_18 (by decide) ?_
    refine lv_goto (tgt := 29) hx hb d_BS_state_19 (by decide) ?_
    exact g_iret hC hB hr hlk (by decide) (by decide) (by rw [hf]) rfl d_BS_state_29
abbrev rm_BS_count : Room := { frames := 2, cells := 0, slots := 0, locals := 27 }
def f_BS_count (G : gT) (p1 : Int32) : Int32 := (if p1 = 0 then (G 7 1) else (if p1 = 1 then (G 7 2) else (if p1 = 2 then (G 7 3) else (if p1 = 3 then (G 7 4) else (if p1 = 4 then (G 0 3) else (if p1 = 5 then (f_BS_marksKept G) else (if p1 = 6 then (f_BS_state G) else (-1))))))))
def ok_BS_count (G : gT) (p1 : Int32) : Prop := ((p1 = 0 → True) ∧ (¬ p1 = 0 → ((p1 = 1 → True) ∧ (¬ p1 = 1 → ((p1 = 2 → True) ∧ (¬ p1 = 2 → ((p1 = 3 → True) ∧ (¬ p1 = 3 → ((p1 = 4 → True) ∧ (¬ p1 = 4 → ((p1 = 5 → (ok_BS_marksKept G ∧ True)) ∧ (¬ p1 = 5 → ((p1 = 6 → (ok_BS_state G ∧ True)) ∧ (¬ p1 = 6 → True))))))))))))))
set_option maxHeartbeats 4000000 in
set_option maxRecDepth 100000 in
theorem c_BS_count (l : Launch) (G : gT) (p1 : Int32) (O : Int64) (hok : ok_BS_count G p1) : gMet l y_BS_count w_BS_count rm_BS_count (fun ad => [.ref (ad 0), .int p1]) G O (.inl (some (.int (f_BS_count G p1)))) G O := by
  refine g_body (by decide) (gCode_of _ _ _ _) (fun ad => by simp [lg_sl, Value.category]) ?_
  intro p e s0 s m args below meth c D cI cL ad hC hr hlk htb hB ls hl
  have hC : CallFix p m c b_BS_count 2 s args gtb R_BS := hC
  have hl : lv_has ls 2 [(0, .ref (ad 0)), (1, .int p1)] := hl
  have hx := hC.1
  have hb := hC.2.1
  have hf : f_BS_count G p1 = (if p1 = 0 then (G 7 1) else (if p1 = 1 then (G 7 2) else (if p1 = 2 then (G 7 3) else (if p1 = 3 then (G 7 4) else (if p1 = 4 then (G 0 3) else (if p1 = 5 then (f_BS_marksKept G) else (if p1 = 6 then (f_BS_state G) else (-1)))))))) := rfl
  have hok : ((p1 = 0 → True) ∧ (¬ p1 = 0 → ((p1 = 1 → True) ∧ (¬ p1 = 1 → ((p1 = 2 → True) ∧ (¬ p1 = 2 → ((p1 = 3 → True) ∧ (¬ p1 = 3 → ((p1 = 4 → True) ∧ (¬ p1 = 4 → ((p1 = 5 → (ok_BS_marksKept G ∧ True)) ∧ (¬ p1 = 5 → ((p1 = 6 → (ok_BS_state G ∧ True)) ∧ (¬ p1 = 6 → True)))))))))))))) := hok
  refine lv_iload_n hx hb d_BS_count_0 rfl (lv_at hl 1 rfl) ?_
  by_cases c1 : p1 = 0
  · replace hf := hf.trans (if_pos c1)
    replace hok := hok.1 c1
    refine g_switch (tgt := 44) hC d_BS_count_1 (fun i hi => by show i < 7; omega) (by rw [c1]; decide) ?_
    refine lv_aload_n hx hb d_BS_count_44 rfl (lv_at hl 0 rfl) ?_
    refine gr_0_6 hC hB fl_BS_37 d_BS_count_45 ?_
    refine gg_7_1 (x := (G 7 1)) hC hB rfl fl_BS_88 d_BS_count_48 ?_
    exact g_iret hC hB hr hlk (by decide) (by decide) (by rw [hf]) rfl d_BS_count_51
  · replace hf := hf.trans (if_neg c1)
    replace hok := hok.2 c1
    by_cases c2 : p1 = 1
    · replace hf := hf.trans (if_pos c2)
      replace hok := hok.1 c2
      refine g_switch (tgt := 52) hC d_BS_count_1 (fun i hi => by show i < 7; omega) (by rw [c2]; decide) ?_
      refine lv_aload_n hx hb d_BS_count_52 rfl (lv_at hl 0 rfl) ?_
      refine gr_0_6 hC hB fl_BS_37 d_BS_count_53 ?_
      refine gg_7_2 (x := (G 7 2)) hC hB rfl fl_BS_106 d_BS_count_56 ?_
      exact g_iret hC hB hr hlk (by decide) (by decide) (by rw [hf]) rfl d_BS_count_59
    · replace hf := hf.trans (if_neg c2)
      replace hok := hok.2 c2
      by_cases c3 : p1 = 2
      · replace hf := hf.trans (if_pos c3)
        replace hok := hok.1 c3
        refine g_switch (tgt := 60) hC d_BS_count_1 (fun i hi => by show i < 7; omega) (by rw [c3]; decide) ?_
        refine lv_aload_n hx hb d_BS_count_60 rfl (lv_at hl 0 rfl) ?_
        refine gr_0_6 hC hB fl_BS_37 d_BS_count_61 ?_
        refine gg_7_3 (x := (G 7 3)) hC hB rfl fl_BS_133 d_BS_count_64 ?_
        exact g_iret hC hB hr hlk (by decide) (by decide) (by rw [hf]) rfl d_BS_count_67
      · replace hf := hf.trans (if_neg c3)
        replace hok := hok.2 c3
        by_cases c4 : p1 = 3
        · replace hf := hf.trans (if_pos c4)
          replace hok := hok.1 c4
          refine g_switch (tgt := 68) hC d_BS_count_1 (fun i hi => by show i < 7; omega) (by rw [c4]; decide) ?_
          refine lv_aload_n hx hb d_BS_count_68 rfl (lv_at hl 0 rfl) ?_
          refine gr_0_6 hC hB fl_BS_37 d_BS_count_69 ?_
          refine gg_7_4 (x := (G 7 4)) hC hB rfl fl_BS_136 d_BS_count_72 ?_
          exact g_iret hC hB hr hlk (by decide) (by decide) (by rw [hf]) rfl d_BS_count_75
        · replace hf := hf.trans (if_neg c4)
          replace hok := hok.2 c4
          by_cases c5 : p1 = 4
          · replace hf := hf.trans (if_pos c5)
            replace hok := hok.1 c5
            refine g_switch (tgt := 76) hC d_BS_count_1 (fun i hi => by show i < 7; omega) (by rw [c5]; decide) ?_
            refine lv_aload_n hx hb d_BS_count_76 rfl (lv_at hl 0 rfl) ?_
            refine gg_0_3 (x := (G 0 3)) hC hB rfl fl_BS_52 d_BS_count_77 ?_
            exact g_iret hC hB hr hlk (by decide) (by decide) (by rw [hf]) rfl d_BS_count_80
          · replace hf := hf.trans (if_neg c5)
            replace hok := hok.2 c5
            by_cases c6 : p1 = 5
            · replace hf := hf.trans (if_pos c6)
              replace hok := hok.1 c6
              refine g_switch (tgt := 81) hC d_BS_count_1 (fun i hi => by show i < 7; omega) (by rw [c6]; decide) ?_
              refine lv_aload_n hx hb d_BS_count_81 rfl (lv_at hl 0 rfl) ?_
              refine g_callVi (b := ad 0) (As := []) (rest := []) hC hB (c_BS_marksKept l G O hok.1) rfl key_BS_marksKept rfl ins_BS_marksKept sel_BS_marksKept ml_BS_139 (g_rec0 hB) rfl hl.1 ⟨Nat.le_of_ble_eq_true rfl, Nat.le_of_ble_eq_true rfl, Nat.le_of_ble_eq_true rfl, Nat.le_of_ble_eq_true rfl⟩ d_BS_count_82 (fun H locs hB => ?_)
              replace hok := hok.2
              exact g_iret hC hB hr hlk (by decide) (by decide) (by rw [hf]) rfl d_BS_count_85
            · replace hf := hf.trans (if_neg c6)
              replace hok := hok.2 c6
              by_cases c7 : p1 = 6
              · replace hf := hf.trans (if_pos c7)
                replace hok := hok.1 c7
                refine g_switch (tgt := 86) hC d_BS_count_1 (fun i hi => by show i < 7; omega) (by rw [c7]; decide) ?_
                refine lv_aload_n hx hb d_BS_count_86 rfl (lv_at hl 0 rfl) ?_
                refine g_callVi (b := ad 0) (As := []) (rest := []) hC hB (c_BS_state l G O hok.1) rfl key_BS_state rfl ins_BS_state sel_BS_state ml_BS_143 (g_rec0 hB) rfl hl.1 ⟨Nat.le_of_ble_eq_true rfl, Nat.le_of_ble_eq_true rfl, Nat.le_of_ble_eq_true rfl, Nat.le_of_ble_eq_true rfl⟩ d_BS_count_87 (fun H locs hB => ?_)
                replace hok := hok.2
                exact g_iret hC hB hr hlk (by decide) (by decide) (by rw [hf]) rfl d_BS_count_90
              · replace hf := hf.trans (if_neg c7)
                replace hok := hok.2 c7
                refine g_switch (tgt := 91) hC d_BS_count_1 (fun i hi => by show i < 7; omega) ?_ ?_
                · have e0 := g_ne (k := 0) c1 (by decide)
                  have e1 := g_ne (k := 1) c2 (by decide)
                  have e2 := g_ne (k := 2) c3 (by decide)
                  have e3 := g_ne (k := 3) c4 (by decide)
                  have e4 := g_ne (k := 4) c5 (by decide)
                  have e5 := g_ne (k := 5) c6 (by decide)
                  have e6 := g_ne (k := 6) c7 (by decide)
                  have e : (p1).toInt < 0 ∨ 6 < (p1).toInt := by omega
                  generalize (p1).toInt = z at e ⊢
                  rcases e with e | e
                  · rw [g_swt, if_pos (by omega)]; decide
                  · rw [g_swt, if_pos (by omega)]; decide
                · refine lv_iconst (v := (-1)) hx hb d_BS_count_91 (by decide) ?_
                  exact g_iret hC hB hr hlk (by decide) (by decide) (by rw [hf]) rfl d_BS_count_92
