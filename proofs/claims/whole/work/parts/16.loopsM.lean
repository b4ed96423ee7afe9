abbrev rm_Mo_save : Room := { frames := 1, cells := 0, slots := 0, locals := 14 }
def f_Mo_save_L2 : Nat → gT → Int32 → gT
  | 0, G, x1 => G
  | n + 1, G, x1 => (if (269 : Int32) ≤ x1 then G else f_Mo_save_L2 n (g_up G 21 ((((269 : Int32) * (f_Mo_slot G (G 16 11))) + x1).toNatClampNeg) (G 19 x1.toNatClampNeg)) (x1 + 1))
def ok_Mo_save_L2 : Nat → gT → Int32 → Prop
  | 0, G, x1 => False
  | n + 1, G, x1 => (((269 : Int32) ≤ x1 → True) ∧ (¬ (269 : Int32) ≤ x1 → (vp_in x1 269 ∧ (vp_in (((269 : Int32) * (f_Mo_slot G (G 16 11))) + x1) 275725 ∧ ok_Mo_save_L2 n (g_up G 21 ((((269 : Int32) * (f_Mo_slot G (G 16 11))) + x1).toNatClampNeg) (G 19 x1.toNatClampNeg)) (x1 + 1)))))
set_option maxHeartbeats 4000000 in
set_option maxRecDepth 100000 in
theorem w_Mo_save_L2 {p : Program} {l : Launch} {e : Env} {s0 s : State} {m : MethodId} {args : Array Value} {below : List Frame} {meth : Method} {c : Code} {D : va_G} {cI cL : ClassId} {ad : Nat → Nat} {O : Int64} (hC : CallFix p m c b_Mo_save 2 s args gtb R_Mo) (hr : meth.sig.returnType = none) (hlk : meth.locks = false) : ∀ (n : Nat) (G : gT) (x1 : Int32), ok_Mo_save_L2 n G x1 → ∀ (H : Heap) (locs : List Loc), gB s0 s D cI cL ad G O H locs → ∀ ls : Array Slot, lv_has ls 2 [(0, .ref (ad 16)), (1, .int x1)] → W p l e rm_Mo_save s m args below meth c H locs 0 0 (gE s0 below args s D cI cL ad 0 0 (.inl (none)) (f_Mo_save_L2 n G x1) O) (F0 m 2 ls []) := by
  have hx := hC.1
  have hb := hC.2.1
  intro n
  induction n with
  | zero =>
    intro G x1 hok
    exact absurd hok (fun h => h)
  | succ n ih =>
    intro G x1 hok H locs hB ls hl
    have hf : f_Mo_save_L2 (n + 1) G x1 = (if (269 : Int32) ≤ x1 then G else f_Mo_save_L2 n (g_up G 21 ((((269 : Int32) * (f_Mo_slot G (G 16 11))) + x1).toNatClampNeg) (G 19 x1.toNatClampNeg)) (x1 + 1)) := rfl
    have hok : (((269 : Int32) ≤ x1 → True) ∧ (¬ (269 : Int32) ≤ x1 → (vp_in x1 269 ∧ (vp_in (((269 : Int32) * (f_Mo_slot G (G 16 11))) + x1) 275725 ∧ ok_Mo_save_L2 n (g_up G 21 ((((269 : Int32) * (f_Mo_slot G (G 16 11))) + x1).toNatClampNeg) (G 19 x1.toNatClampNeg)) (x1 + 1))))) := hok
    refine lv_iload_n hx hb d_Mo_save_2 rfl (lv_at hl 1 rfl) ?_
    refine lv_sipush (v := 269) hx hb d_Mo_save_3 (by decide) ?_
    refine lv_icmp_ge (tgt := 39) hx hb d_Mo_save_6 (by decide) (fun c1 => ?_) (fun c1 => ?_)
    · replace hf := hf.trans (if_pos c1)
      replace hok := hok.1 c1
      exact g_vret hC hB hr hlk (by decide) (by decide) rfl hf d_Mo_save_39
    · replace hf := hf.trans (if_neg c1)
      replace hok := hok.2 c1
      refine lv_aload_n hx hb d_Mo_save_9 rfl (lv_at hl 0 rfl) ?_
      refine gr_16_8 hC hB fl_Mo_23 d_Mo_save_10 ?_
      refine lv_sipush (v := 269) hx hb d_Mo_save_13 (by decide) ?_
      refine lv_aload_n hx hb d_Mo_save_16 rfl (lv_at hl 0 rfl) ?_
      refine gg_16_11 (x := (G 16 11)) hC hB rfl fl_Mo_57 d_Mo_save_17 ?_
      refine g_callSi (As := [.int (G 16 11)]) (rest := [.int 269, .ref (ad 21)]) hC hB (c_Mo_slot l G (G 16 11) O) rfl key_Mo_slot rfl sta_Mo_slot ml_Mo_60 rfl hl.1 ⟨Nat.le_of_ble_eq_true rfl, Nat.le_of_ble_eq_true rfl, Nat.le_of_ble_eq_true rfl, Nat.le_of_ble_eq_true rfl⟩ d_Mo_save_20 (fun H locs hB => ?_)
      refine lv_imul hx hb d_Mo_save_23 ?_
      refine lv_iload_n hx hb d_Mo_save_24 rfl (lv_at hl 1 rfl) ?_
      refine lv_iadd hx hb d_Mo_save_25 ?_
      refine lv_aload_n hx hb d_Mo_save_26 rfl (lv_at hl 0 rfl) ?_
      refine gr_16_6 hC hB fl_Mo_16 d_Mo_save_27 ?_
      refine lv_iload_n hx hb d_Mo_save_30 rfl (lv_at hl 1 rfl) ?_
      refine ga_19 (x := (G 19 x1.toNatClampNeg)) hC hB hok.1 rfl d_Mo_save_31 ?_
      replace hok := hok.2
      refine gs_21 hC hB hok.1 d_Mo_save_32 (fun H locs hB => ?_)
      replace hok := hok.2
      refine lv_iinc (v := x1 + 1) (lv' := [(1, .int (x1 + 1)), (0, .ref (ad 16))]) hx hb d_Mo_save_33 hl (k := 1) rfl rfl (by decide) rfl (fun ls hl => ?_)
      refine lv_goto (tgt := 2) hx hb d_Mo_save_36 (by decide) ?_
      rw [hf]
      exact ih (g_up G 21 ((((269 : Int32) * (f_Mo_slot G (G 16 11))) + x1).toNatClampNeg) (G 19 x1.toNatClampNeg)) (x1 + 1) hok _ _ hB ls (lv_sub hl [1, 0] rfl)
def f_Mo_save (N : Nat) (G : gT) : gT := f_Mo_save_L2 N G 0
def ok_Mo_save (N : Nat) (G : gT) : Prop := ok_Mo_save_L2 N G 0
set_option maxHeartbeats 4000000 in
set_option maxRecDepth 100000 in
theorem c_Mo_save (l : Launch) (N : Nat) (G : gT) (O : Int64) (hok : ok_Mo_save N G) : gMet l y_Mo_save w_Mo_save rm_Mo_save (fun ad => [.ref (ad 16)]) G O (.inl (none)) (f_Mo_save N G) O := by
  refine g_body (by decide) (gCode_of _ _ _ _) (fun ad => by simp [lg_sl, Value.category]) ?_
  intro p e s0 s m args below meth c D cI cL ad hC hr hlk htb hB ls hl
  have hC : CallFix p m c b_Mo_save 2 s args gtb R_Mo := hC
  have hl : lv_has ls 2 [(0, .ref (ad 16))] := hl
  have hx := hC.1
  have hb := hC.2.1
  have hf : f_Mo_save N G = f_Mo_save_L2 N G 0 := rfl
  have hok : ok_Mo_save_L2 N G 0 := hok
  refine lv_iconst (v := 0) hx hb d_Mo_save_0 (by decide) ?_
  refine lv_istore_n (lv' := [(1, .int 0), (0, .ref (ad 16))]) hx hb d_Mo_save_1 rfl hl (by decide) rfl (fun ls hl => ?_)
  rw [hf]
  refine W.widen (k := 0) (n := 0) (by decide) (by decide) ?_
  exact w_Mo_save_L2 hC hr hlk N G 0 hok _ _ hB ls (lv_sub hl [1, 0] rfl)
abbrev rm_Mo_allCosts : Room := { frames := 1, cells := 0, slots := 0, locals := 14 }
def f_Mo_allCosts_L7 : Nat → gT → Int32 → Int32 → Int32
  | 0, G, x1, x2 => 0
  | n + 1, G, x1, x2 => (if (G 16 11) ≤ x2 then x1 else f_Mo_allCosts_L7 n G (x1 + (G 22 ((f_Mo_slot G x2).toNatClampNeg))) (x2 + 1))
def ok_Mo_allCosts_L7 : Nat → gT → Int32 → Int32 → Prop
  | 0, G, x1, x2 => False
  | n + 1, G, x1, x2 => (((G 16 11) ≤ x2 → True) ∧ (¬ (G 16 11) ≤ x2 → (vp_in (f_Mo_slot G x2) 1025 ∧ ok_Mo_allCosts_L7 n G (x1 + (G 22 ((f_Mo_slot G x2).toNatClampNeg))) (x2 + 1))))
set_option maxHeartbeats 4000000 in
set_option maxRecDepth 100000 in
theorem w_Mo_allCosts_L7 {p : Program} {l : Launch} {e : Env} {s0 s : State} {m : MethodId} {args : Array Value} {below : List Frame} {meth : Method} {c : Code} {D : va_G} {cI cL : ClassId} {ad : Nat → Nat} {O : Int64} (hC : CallFix p m c b_Mo_allCosts 3 s args gtb R_Mo) (hr : meth.sig.returnType = some .int) (hlk : meth.locks = false) : ∀ (n : Nat) (G : gT) (x1 : Int32) (x2 : Int32), ok_Mo_allCosts_L7 n G x1 x2 → ∀ (H : Heap) (locs : List Loc), gB s0 s D cI cL ad G O H locs → ∀ ls : Array Slot, lv_has ls 3 [(0, .ref (ad 16)), (1, .int x1), (2, .int x2)] → W p l e rm_Mo_allCosts s m args below meth c H locs 0 0 (gE s0 below args s D cI cL ad 0 0 (.inl (some (.int (f_Mo_allCosts_L7 n G x1 x2)))) G O) (F0 m 7 ls []) := by
  have hx := hC.1
  have hb := hC.2.1
  intro n
  induction n with
  | zero =>
    intro G x1 x2 hok
    exact absurd hok (fun h => h)
  | succ n ih =>
    intro G x1 x2 hok H locs hB ls hl
    have hf : f_Mo_allCosts_L7 (n + 1) G x1 x2 = (if (G 16 11) ≤ x2 then x1 else f_Mo_allCosts_L7 n G (x1 + (G 22 ((f_Mo_slot G x2).toNatClampNeg))) (x2 + 1)) := rfl
    have hok : (((G 16 11) ≤ x2 → True) ∧ (¬ (G 16 11) ≤ x2 → (vp_in (f_Mo_slot G x2) 1025 ∧ ok_Mo_allCosts_L7 n G (x1 + (G 22 ((f_Mo_slot G x2).toNatClampNeg))) (x2 + 1)))) := hok
    refine lv_iload_n hx hb d_Mo_allCosts_7 rfl (lv_at hl 2 rfl) ?_
    refine lv_aload_n hx hb d_Mo_allCosts_8 rfl (lv_at hl 0 rfl) ?_
    refine gg_16_11 (x := (G 16 11)) hC hB rfl fl_Mo_57 d_Mo_allCosts_9 ?_
    refine lv_icmp_ge (tgt := 33) hx hb d_Mo_allCosts_12 (by decide) (fun c1 => ?_) (fun c1 => ?_)
    · replace hf := hf.trans (if_pos c1)
      replace hok := hok.1 c1
      refine lv_iload_n hx hb d_Mo_allCosts_33 rfl (lv_at hl 1 rfl) ?_
      exact g_iret hC hB hr hlk (by decide) (by decide) (by rw [hf]) rfl d_Mo_allCosts_34
    · replace hf := hf.trans (if_neg c1)
      replace hok := hok.2 c1
      refine lv_iload_n hx hb d_Mo_allCosts_15 rfl (lv_at hl 1 rfl) ?_
      refine lv_aload_n hx hb d_Mo_allCosts_16 rfl (lv_at hl 0 rfl) ?_
      refine gr_16_9 hC hB fl_Mo_26 d_Mo_allCosts_17 ?_
      refine lv_iload_n hx hb d_Mo_allCosts_20 rfl (lv_at hl 2 rfl) ?_
      refine g_callSi (As := [.int x2]) (rest := [.ref (ad 22), .int x1]) hC hB (c_Mo_slot l G x2 O) rfl key_Mo_slot rfl sta_Mo_slot ml_Mo_60 rfl hl.1 ⟨Nat.le_of_ble_eq_true rfl, Nat.le_of_ble_eq_true rfl, Nat.le_of_ble_eq_true rfl, Nat.le_of_ble_eq_true rfl⟩ d_Mo_allCosts_21 (fun H locs hB => ?_)
      refine ga_22 (x := (G 22 ((f_Mo_slot G x2).toNatClampNeg))) hC hB hok.1 rfl d_Mo_allCosts_24 ?_
      replace hok := hok.2
      refine lv_iadd hx hb d_Mo_allCosts_25 ?_
      refine lv_istore_n (lv' := [(1, .int (x1 + (G 22 ((f_Mo_slot G x2).toNatClampNeg)))), (0, .ref (ad 16)), (2, .int x2)]) hx hb d_Mo_allCosts_26 rfl hl (by decide) rfl (fun ls hl => ?_)
      refine lv_iinc (v := x2 + 1) (lv' := [(2, .int (x2 + 1)), (1, .int (x1 + (G 22 ((f_Mo_slot G x2).toNatClampNeg)))), (0, .ref (ad 16))]) hx hb d_Mo_allCosts_27 hl (k := 2) rfl rfl (by decide) rfl (fun ls hl => ?_)
      refine lv_goto (tgt := 7) hx hb d_Mo_allCosts_30 (by decide) ?_
      rw [hf]
      exact ih G (x1 + (G 22 ((f_Mo_slot G x2).toNatClampNeg))) (x2 + 1) hok _ _ hB ls (lv_sub hl [2, 1, 0] rfl)
def f_Mo_allCosts (N : Nat) (G : gT) : Int32 := f_Mo_allCosts_L7 N G 0 (G 16 12)
def ok_Mo_allCosts (N : Nat) (G : gT) : Prop := ok_Mo_allCosts_L7 N G 0 (G 16 12)
set_option maxHeartbeats 4000000 in
set_option maxRecDepth 100000 in
theorem c_Mo_allCosts (l : Launch) (N : Nat) (G : gT) (O : Int64) (hok : ok_Mo_allCosts N G) : gMet l y_Mo_allCosts w_Mo_allCosts rm_Mo_allCosts (fun ad => [.ref (ad 16)]) G O (.inl (some (.int (f_Mo_allCosts N G)))) G O := by
  refine g_body (by decide) (gCode_of _ _ _ _) (fun ad => by simp [lg_sl, Value.category]) ?_
  intro p e s0 s m args below meth c D cI cL ad hC hr hlk htb hB ls hl
  have hC : CallFix p m c b_Mo_allCosts 3 s args gtb R_Mo := hC
  have hl : lv_has ls 3 [(0, .ref (ad 16))] := hl
  have hx := hC.1
  have hb := hC.2.1
  have hf : f_Mo_allCosts N G = f_Mo_allCosts_L7 N G 0 (G 16 12) := rfl
  have hok : ok_Mo_allCosts_L7 N G 0 (G 16 12) := hok
  refine lv_iconst (v := 0) hx hb d_Mo_allCosts_0 (by decide) ?_
  refine lv_istore_n (lv' := [(1, .int 0), (0, .ref (ad 16))]) hx hb d_Mo_allCosts_1 rfl hl (by decide) rfl (fun ls hl => ?_)
  refine lv_aload_n hx hb d_Mo_allCosts_2 rfl (lv_at hl 1 rfl) ?_
  refine gg_16_12 (x := (G 16 12)) hC hB rfl fl_Mo_66 d_Mo_allCosts_3 ?_
  refine lv_istore_n (lv' := [(2, .int (G 16 12)), (1, .int 0), (0, .ref (ad 16))]) hx hb d_Mo_allCosts_6 rfl hl (by decide) rfl (fun ls hl => ?_)
  rw [hf]
  refine W.widen (k := 0) (n := 0) (by decide) (by decide) ?_
  exact w_Mo_allCosts_L7 hC hr hlk N G 0 (G 16 12) hok _ _ hB ls (lv_sub hl [2, 1, 0] rfl)
abbrev rm_Mo_stepOnce : Room := { frames := 2, cells := 0, slots := 0, locals := 37 }
def f_Mo_stepOnce_L81 (N : Nat) : Nat → gT → Int32 → Int32 × gT
  | 0, G, x1 => (0, G)
  | n + 1, G, x1 => (if x1 ≤ (G 16 1) then (1, G) else f_Mo_stepOnce_L81 N n (g_up (g_up G 16 12 ((G 16 12) + (1 : Int32))) 16 13 ((G 16 13) + (1 : Int32))) (x1 - (G 22 ((f_Mo_slot G (G 16 12)).toNatClampNeg))))
def ok_Mo_stepOnce_L81 (N : Nat) : Nat → gT → Int32 → Prop
  | 0, G, x1 => False
  | n + 1, G, x1 => ((x1 ≤ (G 16 1) → True) ∧ (¬ x1 ≤ (G 16 1) → (vp_in (f_Mo_slot G (G 16 12)) 1025 ∧ ok_Mo_stepOnce_L81 N n (g_up (g_up G 16 12 ((G 16 12) + (1 : Int32))) 16 13 ((G 16 13) + (1 : Int32))) (x1 - (G 22 ((f_Mo_slot G (G 16 12)).toNatClampNeg))))))
set_option maxHeartbeats 4000000 in
set_option maxRecDepth 100000 in
theorem w_Mo_stepOnce_L81 {p : Program} {l : Launch} {e : Env} {s0 s : State} {m : MethodId} {args : Array Value} {below : List Frame} {meth : Method} {c : Code} {D : va_G} {cI cL : ClassId} {ad : Nat → Nat} {O : Int64} {N : Nat} (hC : CallFix p m c b_Mo_stepOnce 2 s args gtb R_Mo) (hr : meth.sig.returnType = some .boolean) (hlk : meth.locks = false) : ∀ (n : Nat) (G : gT) (x1 : Int32), ok_Mo_stepOnce_L81 N n G x1 → ∀ (H : Heap) (locs : List Loc), gB s0 s D cI cL ad G O H locs → ∀ ls : Array Slot, lv_has ls 2 [(0, .ref (ad 16)), (1, .int x1)] → W p l e rm_Mo_stepOnce s m args below meth c H locs 0 0 (gE s0 below args s D cI cL ad 0 0 (.inl (some (.int (f_Mo_stepOnce_L81 N n G x1).1))) ((f_Mo_stepOnce_L81 N n G x1).2) O) (F0 m 81 ls []) := by
  have hx := hC.1
  have hb := hC.2.1
  intro n
  induction n with
  | zero =>
    intro G x1 hok
    exact absurd hok (fun h => h)
  | succ n ih =>
    intro G x1 hok H locs hB ls hl
    have hf : f_Mo_stepOnce_L81 N (n + 1) G x1 = (if x1 ≤ (G 16 1) then (1, G) else f_Mo_stepOnce_L81 N n (g_up (g_up G 16 12 ((G 16 12) + (1 : Int32))) 16 13 ((G 16 13) + (1 : Int32))) (x1 - (G 22 ((f_Mo_slot G (G 16 12)).toNatClampNeg)))) := rfl
    have hok : ((x1 ≤ (G 16 1) → True) ∧ (¬ x1 ≤ (G 16 1) → (vp_in (f_Mo_slot G (G 16 12)) 1025 ∧ ok_Mo_stepOnce_L81 N n (g_up (g_up G 16 12 ((G 16 12) + (1 : Int32))) 16 13 ((G 16 13) + (1 : Int32))) (x1 - (G 22 ((f_Mo_slot G (G 16 12)).toNatClampNeg)))))) := hok
    refine lv_iload_n hx hb d_Mo_stepOnce_81 rfl (lv_at hl 1 rfl) ?_
    refine lv_aload_n hx hb d_Mo_stepOnce_82 rfl (lv_at hl 0 rfl) ?_
    refine gg_16_1 (x := (G 16 1)) hC hB rfl fl_Mo_36 d_Mo_stepOnce_83 ?_
    refine lv_icmp_le (tgt := 127) hx hb d_Mo_stepOnce_86 (by decide) (fun c3 => ?_) (fun c3 => ?_)
    · replace hf := hf.trans (if_pos c3)
      replace hok := hok.1 c3
      refine lv_iconst (v := 1) hx hb d_Mo_stepOnce_127 (by decide) ?_
      exact g_zret hC hB hr hlk (by decide) (by decide) (by decide) (by rw [hf]) (by rw [hf]) d_Mo_stepOnce_128
    · replace hf := hf.trans (if_neg c3)
      replace hok := hok.2 c3
      refine lv_iload_n hx hb d_Mo_stepOnce_89 rfl (lv_at hl 1 rfl) ?_
      refine lv_aload_n hx hb d_Mo_stepOnce_90 rfl (lv_at hl 0 rfl) ?_
      refine gr_16_9 hC hB fl_Mo_26 d_Mo_stepOnce_91 ?_
      refine lv_aload_n hx hb d_Mo_stepOnce_94 rfl (lv_at hl 0 rfl) ?_
      refine gg_16_12 (x := (G 16 12)) hC hB rfl fl_Mo_66 d_Mo_stepOnce_95 ?_
      refine g_callSi (As := [.int (G 16 12)]) (rest := [.ref (ad 22), .int x1]) hC hB (c_Mo_slot l G (G 16 12) O) rfl key_Mo_slot rfl sta_Mo_slot ml_Mo_60 rfl hl.1 ⟨Nat.le_of_ble_eq_true rfl, Nat.le_of_ble_eq_true rfl, Nat.le_of_ble_eq_true rfl, Nat.le_of_ble_eq_true rfl⟩ d_Mo_stepOnce_98 (fun H locs hB => ?_)
      refine ga_22 (x := (G 22 ((f_Mo_slot G (G 16 12)).toNatClampNeg))) hC hB hok.1 rfl d_Mo_stepOnce_101 ?_
      replace hok := hok.2
      refine lv_isub hx hb d_Mo_stepOnce_102 ?_
      refine lv_istore_n (lv' := [(1, .int (x1 - (G 22 ((f_Mo_slot G (G 16 12)).toNatClampNeg)))), (0, .ref (ad 16))]) hx hb d_Mo_stepOnce_103 rfl hl (by decide) rfl (fun ls hl => ?_)
      refine lv_aload_n hx hb d_Mo_stepOnce_104 rfl (lv_at hl 1 rfl) ?_
      refine lv_dup hx hb d_Mo_stepOnce_105 rfl ?_
      refine gg_16_12 (x := (G 16 12)) hC hB rfl fl_Mo_66 d_Mo_stepOnce_106 ?_
      refine lv_iconst (v := 1) hx hb d_Mo_stepOnce_109 (by decide) ?_
      refine lv_iadd hx hb d_Mo_stepOnce_110 ?_
      refine gp_16_12 hC hB fl_Mo_66 d_Mo_stepOnce_111 (fun H locs hB => ?_)
      refine lv_aload_n hx hb d_Mo_stepOnce_114 rfl (lv_at hl 1 rfl) ?_
      refine lv_dup hx hb d_Mo_stepOnce_115 rfl ?_
      refine gg_16_13 (x := (G 16 13)) hC hB rfl fl_Mo_63 d_Mo_stepOnce_116 ?_
      refine lv_iconst (v := 1) hx hb d_Mo_stepOnce_119 (by decide) ?_
      refine lv_iadd hx hb d_Mo_stepOnce_120 ?_
      refine gp_16_13 hC hB fl_Mo_63 d_Mo_stepOnce_121 (fun H locs hB => ?_)
      refine lv_goto (tgt := 81) hx hb d_Mo_stepOnce_124 (by decide) ?_
      rw [hf]
      exact ih (g_up (g_up G 16 12 ((G 16 12) + (1 : Int32))) 16 13 ((G 16 13) + (1 : Int32))) (x1 - (G 22 ((f_Mo_slot G (G 16 12)).toNatClampNeg))) hok _ _ hB ls (lv_sub hl [1, 0] rfl)
def f_Mo_stepOnce (N : Nat) (G : gT) : Int32 × gT := (if (G 19 268) ≤ 0 then (if ((f_Mo_advance_19 (f_Mo_save N G) ((f_Mo_save N G) 16 4)).1) = 0 then (0, (f_Mo_advance_19 (f_Mo_save N G) ((f_Mo_save N G) 16 4)).2) else f_Mo_stepOnce_L81 N N (g_up (g_up (g_up (f_Mo_advance_19 (f_Mo_save N G) ((f_Mo_save N G) 16 4)).2 22 ((f_Mo_slot ((f_Mo_advance_19 (f_Mo_save N G) ((f_Mo_save N G) 16 4)).2) ((f_Mo_advance_19 (f_Mo_save N G) ((f_Mo_save N G) 16 4)).2 16 11)).toNatClampNeg) (f_Mo_costOf ((f_Mo_advance_19 (f_Mo_save N G) ((f_Mo_save N G) 16 4)).2))) 23 ((f_Mo_slot (g_up (f_Mo_advance_19 (f_Mo_save N G) ((f_Mo_save N G) 16 4)).2 22 ((f_Mo_slot ((f_Mo_advance_19 (f_Mo_save N G) ((f_Mo_save N G) 16 4)).2) ((f_Mo_advance_19 (f_Mo_save N G) ((f_Mo_save N G) 16 4)).2 16 11)).toNatClampNeg) (f_Mo_costOf ((f_Mo_advance_19 (f_Mo_save N G) ((f_Mo_save N G) 16 4)).2))) ((f_Mo_advance_19 (f_Mo_save N G) ((f_Mo_save N G) 16 4)).2 16 11)).toNatClampNeg) ((f_Mo_advance_19 (f_Mo_save N G) ((f_Mo_save N G) 16 4)).2 16 14)) 16 11 (((f_Mo_advance_19 (f_Mo_save N G) ((f_Mo_save N G) 16 4)).2 16 11) + (1 : Int32))) (f_Mo_allCosts N (g_up (g_up (g_up (f_Mo_advance_19 (f_Mo_save N G) ((f_Mo_save N G) 16 4)).2 22 ((f_Mo_slot ((f_Mo_advance_19 (f_Mo_save N G) ((f_Mo_save N G) 16 4)).2) ((f_Mo_advance_19 (f_Mo_save N G) ((f_Mo_save N G) 16 4)).2 16 11)).toNatClampNeg) (f_Mo_costOf ((f_Mo_advance_19 (f_Mo_save N G) ((f_Mo_save N G) 16 4)).2))) 23 ((f_Mo_slot (g_up (f_Mo_advance_19 (f_Mo_save N G) ((f_Mo_save N G) 16 4)).2 22 ((f_Mo_slot ((f_Mo_advance_19 (f_Mo_save N G) ((f_Mo_save N G) 16 4)).2) ((f_Mo_advance_19 (f_Mo_save N G) ((f_Mo_save N G) 16 4)).2 16 11)).toNatClampNeg) (f_Mo_costOf ((f_Mo_advance_19 (f_Mo_save N G) ((f_Mo_save N G) 16 4)).2))) ((f_Mo_advance_19 (f_Mo_save N G) ((f_Mo_save N G) 16 4)).2 16 11)).toNatClampNeg) ((f_Mo_advance_19 (f_Mo_save N G) ((f_Mo_save N G) 16 4)).2 16 14)) 16 11 (((f_Mo_advance_19 (f_Mo_save N G) ((f_Mo_save N G) 16 4)).2 16 11) + (1 : Int32))))) else (0, G))
def ok_Mo_stepOnce (N : Nat) (G : gT) : Prop := (((G 19 268) ≤ 0 → (ok_Mo_save N G ∧ (ok_Mo_advance_19 (f_Mo_save N G) ((f_Mo_save N G) 16 4) ∧ ((((f_Mo_advance_19 (f_Mo_save N G) ((f_Mo_save N G) 16 4)).1) = 0 → True) ∧ (¬ ((f_Mo_advance_19 (f_Mo_save N G) ((f_Mo_save N G) 16 4)).1) = 0 → (ok_Mo_costOf ((f_Mo_advance_19 (f_Mo_save N G) ((f_Mo_save N G) 16 4)).2) ∧ (vp_in (f_Mo_slot ((f_Mo_advance_19 (f_Mo_save N G) ((f_Mo_save N G) 16 4)).2) ((f_Mo_advance_19 (f_Mo_save N G) ((f_Mo_save N G) 16 4)).2 16 11)) 1025 ∧ (vp_in (f_Mo_slot (g_up (f_Mo_advance_19 (f_Mo_save N G) ((f_Mo_save N G) 16 4)).2 22 ((f_Mo_slot ((f_Mo_advance_19 (f_Mo_save N G) ((f_Mo_save N G) 16 4)).2) ((f_Mo_advance_19 (f_Mo_save N G) ((f_Mo_save N G) 16 4)).2 16 11)).toNatClampNeg) (f_Mo_costOf ((f_Mo_advance_19 (f_Mo_save N G) ((f_Mo_save N G) 16 4)).2))) ((f_Mo_advance_19 (f_Mo_save N G) ((f_Mo_save N G) 16 4)).2 16 11)) 1025 ∧ (ok_Mo_allCosts N (g_up (g_up (g_up (f_Mo_advance_19 (f_Mo_save N G) ((f_Mo_save N G) 16 4)).2 22 ((f_Mo_slot ((f_Mo_advance_19 (f_Mo_save N G) ((f_Mo_save N G) 16 4)).2) ((f_Mo_advance_19 (f_Mo_save N G) ((f_Mo_save N G) 16 4)).2 16 11)).toNatClampNeg) (f_Mo_costOf ((f_Mo_advance_19 (f_Mo_save N G) ((f_Mo_save N G) 16 4)).2))) 23 ((f_Mo_slot (g_up (f_Mo_advance_19 (f_Mo_save N G) ((f_Mo_save N G) 16 4)).2 22 ((f_Mo_slot ((f_Mo_advance_19 (f_Mo_save N G) ((f_Mo_save N G) 16 4)).2) ((f_Mo_advance_19 (f_Mo_save N G) ((f_Mo_save N G) 16 4)).2 16 11)).toNatClampNeg) (f_Mo_costOf ((f_Mo_advance_19 (f_Mo_save N G) ((f_Mo_save N G) 16 4)).2))) ((f_Mo_advance_19 (f_Mo_save N G) ((f_Mo_save N G) 16 4)).2 16 11)).toNatClampNeg) ((f_Mo_advance_19 (f_Mo_save N G) ((f_Mo_save N G) 16 4)).2 16 14)) 16 11 (((f_Mo_advance_19 (f_Mo_save N G) ((f_Mo_save N G) 16 4)).2 16 11) + (1 : Int32))) ∧ ok_Mo_stepOnce_L81 N N (g_up (g_up (g_up (f_Mo_advance_19 (f_Mo_save N G) ((f_Mo_save N G) 16 4)).2 22 ((f_Mo_slot ((f_Mo_advance_19 (f_Mo_save N G) ((f_Mo_save N G) 16 4)).2) ((f_Mo_advance_19 (f_Mo_save N G) ((f_Mo_save N G) 16 4)).2 16 11)).toNatClampNeg) (f_Mo_costOf ((f_Mo_advance_19 (f_Mo_save N G) ((f_Mo_save N G) 16 4)).2))) 23 ((f_Mo_slot (g_up (f_Mo_advance_19 (f_Mo_save N G) ((f_Mo_save N G) 16 4)).2 22 ((f_Mo_slot ((f_Mo_advance_19 (f_Mo_save N G) ((f_Mo_save N G) 16 4)).2) ((f_Mo_advance_19 (f_Mo_save N G) ((f_Mo_save N G) 16 4)).2 16 11)).toNatClampNeg) (f_Mo_costOf ((f_Mo_advance_19 (f_Mo_save N G) ((f_Mo_save N G) 16 4)).2))) ((f_Mo_advance_19 (f_Mo_save N G) ((f_Mo_save N G) 16 4)).2 16 11)).toNatClampNeg) ((f_Mo_advance_19 (f_Mo_save N G) ((f_Mo_save N G) 16 4)).2 16 14)) 16 11 (((f_Mo_advance_19 (f_Mo_save N G) ((f_Mo_save N G) 16 4)).2 16 11) + (1 : Int32))) (f_Mo_allCosts N (g_up (g_up (g_up (f_Mo_advance_19 (f_Mo_save N G) ((f_Mo_save N G) 16 4)).2 22 ((f_Mo_slot ((f_Mo_advance_19 (f_Mo_save N G) ((f_Mo_save N G) 16 4)).2) ((f_Mo_advance_19 (f_Mo_save N G) ((f_Mo_save N G) 16 4)).2 16 11)).toNatClampNeg) (f_Mo_costOf ((f_Mo_advance_19 (f_Mo_save N G) ((f_Mo_save N G) 16 4)).2))) 23 ((f_Mo_slot (g_up (f_Mo_advance_19 (f_Mo_save N G) ((f_Mo_save N G) 16 4)).2 22 ((f_Mo_slot ((f_Mo_advance_19 (f_Mo_save N G) ((f_Mo_save N G) 16 4)).2) ((f_Mo_advance_19 (f_Mo_save N G) ((f_Mo_save N G) 16 4)).2 16 11)).toNatClampNeg) (f_Mo_costOf ((f_Mo_advance_19 (f_Mo_save N G) ((f_Mo_save N G) 16 4)).2))) ((f_Mo_advance_19 (f_Mo_save N G) ((f_Mo_save N G) 16 4)).2 16 11)).toNatClampNeg) ((f_Mo_advance_19 (f_Mo_save N G) ((f_Mo_save N G) 16 4)).2 16 14)) 16 11 (((f_Mo_advance_19 (f_Mo_save N G) ((f_Mo_save N G) 16 4)).2 16 11) + (1 : Int32))))))))))))) ∧ (¬ (G 19 268) ≤ 0 → True))
set_option maxHeartbeats 4000000 in
set_option maxRecDepth 100000 in
theorem c_Mo_stepOnce (l : Launch) (N : Nat) (G : gT) (O : Int64) (hok : ok_Mo_stepOnce N G) : gMet l y_Mo_stepOnce w_Mo_stepOnce rm_Mo_stepOnce (fun ad => [.ref (ad 16)]) G O (.inl (some (.int (f_Mo_stepOnce N G).1))) ((f_Mo_stepOnce N G).2) O := by
  refine g_body (by decide) (gCode_of _ _ _ _) (fun ad => by simp [lg_sl, Value.category]) ?_
  intro p e s0 s m args below meth c D cI cL ad hC hr hlk htb hB ls hl
  have hC : CallFix p m c b_Mo_stepOnce 2 s args gtb R_Mo := hC
  have hl : lv_has ls 2 [(0, .ref (ad 16))] := hl
  have hx := hC.1
  have hb := hC.2.1
  have hf : f_Mo_stepOnce N G = (if (G 19 268) ≤ 0 then (if ((f_Mo_advance_19 (f_Mo_save N G) ((f_Mo_save N G) 16 4)).1) = 0 then (0, (f_Mo_advance_19 (f_Mo_save N G) ((f_Mo_save N G) 16 4)).2) else f_Mo_stepOnce_L81 N N (g_up (g_up (g_up (f_Mo_advance_19 (f_Mo_save N G) ((f_Mo_save N G) 16 4)).2 22 ((f_Mo_slot ((f_Mo_advance_19 (f_Mo_save N G) ((f_Mo_save N G) 16 4)).2) ((f_Mo_advance_19 (f_Mo_save N G) ((f_Mo_save N G) 16 4)).2 16 11)).toNatClampNeg) (f_Mo_costOf ((f_Mo_advance_19 (f_Mo_save N G) ((f_Mo_save N G) 16 4)).2))) 23 ((f_Mo_slot (g_up (f_Mo_advance_19 (f_Mo_save N G) ((f_Mo_save N G) 16 4)).2 22 ((f_Mo_slot ((f_Mo_advance_19 (f_Mo_save N G) ((f_Mo_save N G) 16 4)).2) ((f_Mo_advance_19 (f_Mo_save N G) ((f_Mo_save N G) 16 4)).2 16 11)).toNatClampNeg) (f_Mo_costOf ((f_Mo_advance_19 (f_Mo_save N G) ((f_Mo_save N G) 16 4)).2))) ((f_Mo_advance_19 (f_Mo_save N G) ((f_Mo_save N G) 16 4)).2 16 11)).toNatClampNeg) ((f_Mo_advance_19 (f_Mo_save N G) ((f_Mo_save N G) 16 4)).2 16 14)) 16 11 (((f_Mo_advance_19 (f_Mo_save N G) ((f_Mo_save N G) 16 4)).2 16 11) + (1 : Int32))) (f_Mo_allCosts N (g_up (g_up (g_up (f_Mo_advance_19 (f_Mo_save N G) ((f_Mo_save N G) 16 4)).2 22 ((f_Mo_slot ((f_Mo_advance_19 (f_Mo_save N G) ((f_Mo_save N G) 16 4)).2) ((f_Mo_advance_19 (f_Mo_save N G) ((f_Mo_save N G) 16 4)).2 16 11)).toNatClampNeg) (f_Mo_costOf ((f_Mo_advance_19 (f_Mo_save N G) ((f_Mo_save N G) 16 4)).2))) 23 ((f_Mo_slot (g_up (f_Mo_advance_19 (f_Mo_save N G) ((f_Mo_save N G) 16 4)).2 22 ((f_Mo_slot ((f_Mo_advance_19 (f_Mo_save N G) ((f_Mo_save N G) 16 4)).2) ((f_Mo_advance_19 (f_Mo_save N G) ((f_Mo_save N G) 16 4)).2 16 11)).toNatClampNeg) (f_Mo_costOf ((f_Mo_advance_19 (f_Mo_save N G) ((f_Mo_save N G) 16 4)).2))) ((f_Mo_advance_19 (f_Mo_save N G) ((f_Mo_save N G) 16 4)).2 16 11)).toNatClampNeg) ((f_Mo_advance_19 (f_Mo_save N G) ((f_Mo_save N G) 16 4)).2 16 14)) 16 11 (((f_Mo_advance_19 (f_Mo_save N G) ((f_Mo_save N G) 16 4)).2 16 11) + (1 : Int32))))) else (0, G)) := rfl
  have hok : (((G 19 268) ≤ 0 → (ok_Mo_save N G ∧ (ok_Mo_advance_19 (f_Mo_save N G) ((f_Mo_save N G) 16 4) ∧ ((((f_Mo_advance_19 (f_Mo_save N G) ((f_Mo_save N G) 16 4)).1) = 0 → True) ∧ (¬ ((f_Mo_advance_19 (f_Mo_save N G) ((f_Mo_save N G) 16 4)).1) = 0 → (ok_Mo_costOf ((f_Mo_advance_19 (f_Mo_save N G) ((f_Mo_save N G) 16 4)).2) ∧ (vp_in (f_Mo_slot ((f_Mo_advance_19 (f_Mo_save N G) ((f_Mo_save N G) 16 4)).2) ((f_Mo_advance_19 (f_Mo_save N G) ((f_Mo_save N G) 16 4)).2 16 11)) 1025 ∧ (vp_in (f_Mo_slot (g_up (f_Mo_advance_19 (f_Mo_save N G) ((f_Mo_save N G) 16 4)).2 22 ((f_Mo_slot ((f_Mo_advance_19 (f_Mo_save N G) ((f_Mo_save N G) 16 4)).2) ((f_Mo_advance_19 (f_Mo_save N G) ((f_Mo_save N G) 16 4)).2 16 11)).toNatClampNeg) (f_Mo_costOf ((f_Mo_advance_19 (f_Mo_save N G) ((f_Mo_save N G) 16 4)).2))) ((f_Mo_advance_19 (f_Mo_save N G) ((f_Mo_save N G) 16 4)).2 16 11)) 1025 ∧ (ok_Mo_allCosts N (g_up (g_up (g_up (f_Mo_advance_19 (f_Mo_save N G) ((f_Mo_save N G) 16 4)).2 22 ((f_Mo_slot ((f_Mo_advance_19 (f_Mo_save N G) ((f_Mo_save N G) 16 4)).2) ((f_Mo_advance_19 (f_Mo_save N G) ((f_Mo_save N G) 16 4)).2 16 11)).toNatClampNeg) (f_Mo_costOf ((f_Mo_advance_19 (f_Mo_save N G) ((f_Mo_save N G) 16 4)).2))) 23 ((f_Mo_slot (g_up (f_Mo_advance_19 (f_Mo_save N G) ((f_Mo_save N G) 16 4)).2 22 ((f_Mo_slot ((f_Mo_advance_19 (f_Mo_save N G) ((f_Mo_save N G) 16 4)).2) ((f_Mo_advance_19 (f_Mo_save N G) ((f_Mo_save N G) 16 4)).2 16 11)).toNatClampNeg) (f_Mo_costOf ((f_Mo_advance_19 (f_Mo_save N G) ((f_Mo_save N G) 16 4)).2))) ((f_Mo_advance_19 (f_Mo_save N G) ((f_Mo_save N G) 16 4)).2 16 11)).toNatClampNeg) ((f_Mo_advance_19 (f_Mo_save N G) ((f_Mo_save N G) 16 4)).2 16 14)) 16 11 (((f_Mo_advance_19 (f_Mo_save N G) ((f_Mo_save N G) 16 4)).2 16 11) + (1 : Int32))) ∧ ok_Mo_stepOnce_L81 N N (g_up (g_up (g_up (f_Mo_advance_19 (f_Mo_save N G) ((f_Mo_save N G) 16 4)).2 22 ((f_Mo_slot ((f_Mo_advance_19 (f_Mo_save N G) ((f_Mo_save N G) 16 4)).2) ((f_Mo_advance_19 (f_Mo_save N G) ((f_Mo_save N G) 16 4)).2 16 11)).toNatClampNeg) (f_Mo_costOf ((f_Mo_advance_19 (f_Mo_save N G) ((f_Mo_save N G) 16 4)).2))) 23 ((f_Mo_slot (g_up (f_Mo_advance_19 (f_Mo_save N G) ((f_Mo_save N G) 16 4)).2 22 ((f_Mo_slot ((f_Mo_advance_19 (f_Mo_save N G) ((f_Mo_save N G) 16 4)).2) ((f_Mo_advance_19 (f_Mo_save N G) ((f_Mo_save N G) 16 4)).2 16 11)).toNatClampNeg) (f_Mo_costOf ((f_Mo_advance_19 (f_Mo_save N G) ((f_Mo_save N G) 16 4)).2))) ((f_Mo_advance_19 (f_Mo_save N G) ((f_Mo_save N G) 16 4)).2 16 11)).toNatClampNeg) ((f_Mo_advance_19 (f_Mo_save N G) ((f_Mo_save N G) 16 4)).2 16 14)) 16 11 (((f_Mo_advance_19 (f_Mo_save N G) ((f_Mo_save N G) 16 4)).2 16 11) + (1 : Int32))) (f_Mo_allCosts N (g_up (g_up (g_up (f_Mo_advance_19 (f_Mo_save N G) ((f_Mo_save N G) 16 4)).2 22 ((f_Mo_slot ((f_Mo_advance_19 (f_Mo_save N G) ((f_Mo_save N G) 16 4)).2) ((f_Mo_advance_19 (f_Mo_save N G) ((f_Mo_save N G) 16 4)).2 16 11)).toNatClampNeg) (f_Mo_costOf ((f_Mo_advance_19 (f_Mo_save N G) ((f_Mo_save N G) 16 4)).2))) 23 ((f_Mo_slot (g_up (f_Mo_advance_19 (f_Mo_save N G) ((f_Mo_save N G) 16 4)).2 22 ((f_Mo_slot ((f_Mo_advance_19 (f_Mo_save N G) ((f_Mo_save N G) 16 4)).2) ((f_Mo_advance_19 (f_Mo_save N G) ((f_Mo_save N G) 16 4)).2 16 11)).toNatClampNeg) (f_Mo_costOf ((f_Mo_advance_19 (f_Mo_save N G) ((f_Mo_save N G) 16 4)).2))) ((f_Mo_advance_19 (f_Mo_save N G) ((f_Mo_save N G) 16 4)).2 16 11)).toNatClampNeg) ((f_Mo_advance_19 (f_Mo_save N G) ((f_Mo_save N G) 16 4)).2 16 14)) 16 11 (((f_Mo_advance_19 (f_Mo_save N G) ((f_Mo_save N G) 16 4)).2 16 11) + (1 : Int32))))))))))))) ∧ (¬ (G 19 268) ≤ 0 → True)) := hok
  refine lv_aload_n hx hb d_Mo_stepOnce_0 rfl (lv_at hl 0 rfl) ?_
  refine gr_16_6 hC hB fl_Mo_16 d_Mo_stepOnce_1 ?_
  refine lv_sipush (v := 268) hx hb d_Mo_stepOnce_4 (by decide) ?_
  refine ga_19 (x := (G 19 268)) hC hB (by unfold vp_in; decide) rfl d_Mo_stepOnce_7 ?_
  refine lv_if_le (tgt := 13) hx hb d_Mo_stepOnce_8 (by decide) (fun c1 => ?_) (fun c1 => ?_)
  · replace hf := hf.trans (if_pos c1)
    replace hok := hok.1 c1
    refine lv_aload_n hx hb d_Mo_stepOnce_13 rfl (lv_at hl 0 rfl) ?_
    refine g_callVv (b := ad 16) (As := []) (rest := []) hC hB (c_Mo_save l N G O hok.1) rfl key_Mo_save rfl ins_Mo_save sel_Mo_save ml_Mo_79 (g_rec16 hB) rfl hl.1 ⟨Nat.le_of_ble_eq_true rfl, Nat.le_of_ble_eq_true rfl, Nat.le_of_ble_eq_true rfl, Nat.le_of_ble_eq_true rfl⟩ d_Mo_stepOnce_14 (fun H locs hB => ?_)
    replace hok := hok.2
    refine lv_aload_n hx hb d_Mo_stepOnce_17 rfl (lv_at hl 0 rfl) ?_
    refine lv_aload_n hx hb d_Mo_stepOnce_18 rfl (lv_at hl 0 rfl) ?_
    refine gr_16_6 hC hB fl_Mo_16 d_Mo_stepOnce_19 ?_
    refine lv_aload_n hx hb d_Mo_stepOnce_22 rfl (lv_at hl 0 rfl) ?_
    refine gg_16_4 (x := ((f_Mo_save N G) 16 4)) hC hB rfl fl_Mo_54 d_Mo_stepOnce_23 ?_
    refine g_callVi (b := ad 16) (As := [.ref (ad 19), .int ((f_Mo_save N G) 16 4)]) (rest := []) hC hB (c_Mo_advance_19 l (f_Mo_save N G) ((f_Mo_save N G) 16 4) O hok.1) rfl key_Mo_advance rfl ins_Mo_advance sel_Mo_advance ml_Mo_82 (g_rec16 hB) rfl hl.1 ⟨Nat.le_of_ble_eq_true rfl, Nat.le_of_ble_eq_true rfl, Nat.le_of_ble_eq_true rfl, Nat.le_of_ble_eq_true rfl⟩ d_Mo_stepOnce_26 (fun H locs hB => ?_)
    replace hok := hok.2
    refine lv_if_ne (tgt := 34) hx hb d_Mo_stepOnce_29 (by decide) (fun c2 => ?_) (fun c2 => ?_)
    · replace hf := hf.trans (if_neg c2)
      replace hok := hok.2 c2
      refine lv_aload_n hx hb d_Mo_stepOnce_34 rfl (lv_at hl 0 rfl) ?_
      refine gr_16_9 hC hB fl_Mo_26 d_Mo_stepOnce_35 ?_
      refine lv_aload_n hx hb d_Mo_stepOnce_38 rfl (lv_at hl 0 rfl) ?_
      refine gg_16_11 (x := ((f_Mo_advance_19 (f_Mo_save N G) ((f_Mo_save N G) 16 4)).2 16 11)) hC hB rfl fl_Mo_57 d_Mo_stepOnce_39 ?_
      refine g_callSi (As := [.int ((f_Mo_advance_19 (f_Mo_save N G) ((f_Mo_save N G) 16 4)).2 16 11)]) (rest := [.ref (ad 22)]) hC hB (c_Mo_slot l ((f_Mo_advance_19 (f_Mo_save N G) ((f_Mo_save N G) 16 4)).2) ((f_Mo_advance_19 (f_Mo_save N G) ((f_Mo_save N G) 16 4)).2 16 11) O) rfl key_Mo_slot rfl sta_Mo_slot ml_Mo_60 rfl hl.1 ⟨Nat.le_of_ble_eq_true rfl, Nat.le_of_ble_eq_true rfl, Nat.le_of_ble_eq_true rfl, Nat.le_of_ble_eq_true rfl⟩ d_Mo_stepOnce_42 (fun H locs hB => ?_)
      refine lv_aload_n hx hb d_Mo_stepOnce_45 rfl (lv_at hl 0 rfl) ?_
      refine g_callVi (b := ad 16) (As := []) (rest := [.int (f_Mo_slot ((f_Mo_advance_19 (f_Mo_save N G) ((f_Mo_save N G) 16 4)).2) ((f_Mo_advance_19 (f_Mo_save N G) ((f_Mo_save N G) 16 4)).2 16 11)), .ref (ad 22)]) hC hB (c_Mo_costOf l ((f_Mo_advance_19 (f_Mo_save N G) ((f_Mo_save N G) 16 4)).2) O hok.1) rfl key_Mo_costOf rfl ins_Mo_costOf sel_Mo_costOf ml_Mo_86 (g_rec16 hB) rfl hl.1 ⟨Nat.le_of_ble_eq_true rfl, Nat.le_of_ble_eq_true rfl, Nat.le_of_ble_eq_true rfl, Nat.le_of_ble_eq_true rfl⟩ d_Mo_stepOnce_46 (fun H locs hB => ?_)
      replace hok := hok.2
      refine gs_22 hC hB hok.1 d_Mo_stepOnce_49 (fun H locs hB => ?_)
      replace hok := hok.2
      refine lv_aload_n hx hb d_Mo_stepOnce_50 rfl (lv_at hl 0 rfl) ?_
      refine gr_16_10 hC hB fl_Mo_29 d_Mo_stepOnce_51 ?_
      refine lv_aload_n hx hb d_Mo_stepOnce_54 rfl (lv_at hl 0 rfl) ?_
      refine gg_16_11 (x := ((f_Mo_advance_19 (f_Mo_save N G) ((f_Mo_save N G) 16 4)).2 16 11)) hC hB rfl fl_Mo_57 d_Mo_stepOnce_55 ?_
      refine g_callSi (As := [.int ((f_Mo_advance_19 (f_Mo_save N G) ((f_Mo_save N G) 16 4)).2 16 11)]) (rest := [.ref (ad 23)]) hC hB (c_Mo_slot l (g_up (f_Mo_advance_19 (f_Mo_save N G) ((f_Mo_save N G) 16 4)).2 22 ((f_Mo_slot ((f_Mo_advance_19 (f_Mo_save N G) ((f_Mo_save N G) 16 4)).2) ((f_Mo_advance_19 (f_Mo_save N G) ((f_Mo_save N G) 16 4)).2 16 11)).toNatClampNeg) (f_Mo_costOf ((f_Mo_advance_19 (f_Mo_save N G) ((f_Mo_save N G) 16 4)).2))) ((f_Mo_advance_19 (f_Mo_save N G) ((f_Mo_save N G) 16 4)).2 16 11) O) rfl key_Mo_slot rfl sta_Mo_slot ml_Mo_60 rfl hl.1 ⟨Nat.le_of_ble_eq_true rfl, Nat.le_of_ble_eq_true rfl, Nat.le_of_ble_eq_true rfl, Nat.le_of_ble_eq_true rfl⟩ d_Mo_stepOnce_58 (fun H locs hB => ?_)
      refine lv_aload_n hx hb d_Mo_stepOnce_61 rfl (lv_at hl 0 rfl) ?_
      refine gg_16_14 (x := ((f_Mo_advance_19 (f_Mo_save N G) ((f_Mo_save N G) 16 4)).2 16 14)) hC hB rfl fl_Mo_72 d_Mo_stepOnce_62 ?_
      refine gs_23 hC hB hok.1 d_Mo_stepOnce_65 (fun H locs hB => ?_)
      replace hok := hok.2
      refine lv_aload_n hx hb d_Mo_stepOnce_66 rfl (lv_at hl 0 rfl) ?_
      refine lv_dup hx hb d_Mo_stepOnce_67 rfl ?_
      refine gg_16_11 (x := ((f_Mo_advance_19 (f_Mo_save N G) ((f_Mo_save N G) 16 4)).2 16 11)) hC hB rfl fl_Mo_57 d_Mo_stepOnce_68 ?_
      refine lv_iconst (v := 1) hx hb d_Mo_stepOnce_71 (by decide) ?_
      refine lv_iadd hx hb d_Mo_stepOnce_72 ?_
      refine gp_16_11 hC hB fl_Mo_57 d_Mo_stepOnce_73 (fun H locs hB => ?_)
      refine lv_aload_n hx hb d_Mo_stepOnce_76 rfl (lv_at hl 0 rfl) ?_
      refine g_callVi (b := ad 16) (As := []) (rest := []) hC hB (c_Mo_allCosts l N (g_up (g_up (g_up (f_Mo_advance_19 (f_Mo_save N G) ((f_Mo_save N G) 16 4)).2 22 ((f_Mo_slot ((f_Mo_advance_19 (f_Mo_save N G) ((f_Mo_save N G) 16 4)).2) ((f_Mo_advance_19 (f_Mo_save N G) ((f_Mo_save N G) 16 4)).2 16 11)).toNatClampNeg) (f_Mo_costOf ((f_Mo_advance_19 (f_Mo_save N G) ((f_Mo_save N G) 16 4)).2))) 23 ((f_Mo_slot (g_up (f_Mo_advance_19 (f_Mo_save N G) ((f_Mo_save N G) 16 4)).2 22 ((f_Mo_slot ((f_Mo_advance_19 (f_Mo_save N G) ((f_Mo_save N G) 16 4)).2) ((f_Mo_advance_19 (f_Mo_save N G) ((f_Mo_save N G) 16 4)).2 16 11)).toNatClampNeg) (f_Mo_costOf ((f_Mo_advance_19 (f_Mo_save N G) ((f_Mo_save N G) 16 4)).2))) ((f_Mo_advance_19 (f_Mo_save N G) ((f_Mo_save N G) 16 4)).2 16 11)).toNatClampNeg) ((f_Mo_advance_19 (f_Mo_save N G) ((f_Mo_save N G) 16 4)).2 16 14)) 16 11 (((f_Mo_advance_19 (f_Mo_save N G) ((f_Mo_save N G) 16 4)).2 16 11) + (1 : Int32))) O hok.1) rfl key_Mo_allCosts rfl ins_Mo_allCosts sel_Mo_allCosts ml_Mo_90 (g_rec16 hB) rfl hl.1 ⟨Nat.le_of_ble_eq_true rfl, Nat.le_of_ble_eq_true rfl, Nat.le_of_ble_eq_true rfl, Nat.le_of_ble_eq_true rfl⟩ d_Mo_stepOnce_77 (fun H locs hB => ?_)
      replace hok := hok.2
      refine lv_istore_n (lv' := [(1, .int (f_Mo_allCosts N (g_up (g_up (g_up (f_Mo_advance_19 (f_Mo_save N G) ((f_Mo_save N G) 16 4)).2 22 ((f_Mo_slot ((f_Mo_advance_19 (f_Mo_save N G) ((f_Mo_save N G) 16 4)).2) ((f_Mo_advance_19 (f_Mo_save N G) ((f_Mo_save N G) 16 4)).2 16 11)).toNatClampNeg) (f_Mo_costOf ((f_Mo_advance_19 (f_Mo_save N G) ((f_Mo_save N G) 16 4)).2))) 23 ((f_Mo_slot (g_up (f_Mo_advance_19 (f_Mo_save N G) ((f_Mo_save N G) 16 4)).2 22 ((f_Mo_slot ((f_Mo_advance_19 (f_Mo_save N G) ((f_Mo_save N G) 16 4)).2) ((f_Mo_advance_19 (f_Mo_save N G) ((f_Mo_save N G) 16 4)).2 16 11)).toNatClampNeg) (f_Mo_costOf ((f_Mo_advance_19 (f_Mo_save N G) ((f_Mo_save N G) 16 4)).2))) ((f_Mo_advance_19 (f_Mo_save N G) ((f_Mo_save N G) 16 4)).2 16 11)).toNatClampNeg) ((f_Mo_advance_19 (f_Mo_save N G) ((f_Mo_save N G) 16 4)).2 16 14)) 16 11 (((f_Mo_advance_19 (f_Mo_save N G) ((f_Mo_save N G) 16 4)).2 16 11) + (1 : Int32))))), (0, .ref (ad 16))]) hx hb d_Mo_stepOnce_80 rfl hl (by decide) rfl (fun ls hl => ?_)
      rw [hf]
      refine W.widen (k := 0) (n := 0) (by decide) (by decide) ?_
      exact w_Mo_stepOnce_L81 hC hr hlk N (g_up (g_up (g_up (f_Mo_advance_19 (f_Mo_save N G) ((f_Mo_save N G) 16 4)).2 22 ((f_Mo_slot ((f_Mo_advance_19 (f_Mo_save N G) ((f_Mo_save N G) 16 4)).2) ((f_Mo_advance_19 (f_Mo_save N G) ((f_Mo_save N G) 16 4)).2 16 11)).toNatClampNeg) (f_Mo_costOf ((f_Mo_advance_19 (f_Mo_save N G) ((f_Mo_save N G) 16 4)).2))) 23 ((f_Mo_slot (g_up (f_Mo_advance_19 (f_Mo_save N G) ((f_Mo_save N G) 16 4)).2 22 ((f_Mo_slot ((f_Mo_advance_19 (f_Mo_save N G) ((f_Mo_save N G) 16 4)).2) ((f_Mo_advance_19 (f_Mo_save N G) ((f_Mo_save N G) 16 4)).2 16 11)).toNatClampNeg) (f_Mo_costOf ((f_Mo_advance_19 (f_Mo_save N G) ((f_Mo_save N G) 16 4)).2))) ((f_Mo_advance_19 (f_Mo_save N G) ((f_Mo_save N G) 16 4)).2 16 11)).toNatClampNeg) ((f_Mo_advance_19 (f_Mo_save N G) ((f_Mo_save N G) 16 4)).2 16 14)) 16 11 (((f_Mo_advance_19 (f_Mo_save N G) ((f_Mo_save N G) 16 4)).2 16 11) + (1 : Int32))) (f_Mo_allCosts N (g_up (g_up (g_up (f_Mo_advance_19 (f_Mo_save N G) ((f_Mo_save N G) 16 4)).2 22 ((f_Mo_slot ((f_Mo_advance_19 (f_Mo_save N G) ((f_Mo_save N G) 16 4)).2) ((f_Mo_advance_19 (f_Mo_save N G) ((f_Mo_save N G) 16 4)).2 16 11)).toNatClampNeg) (f_Mo_costOf ((f_Mo_advance_19 (f_Mo_save N G) ((f_Mo_save N G) 16 4)).2))) 23 ((f_Mo_slot (g_up (f_Mo_advance_19 (f_Mo_save N G) ((f_Mo_save N G) 16 4)).2 22 ((f_Mo_slot ((f_Mo_advance_19 (f_Mo_save N G) ((f_Mo_save N G) 16 4)).2) ((f_Mo_advance_19 (f_Mo_save N G) ((f_Mo_save N G) 16 4)).2 16 11)).toNatClampNeg) (f_Mo_costOf ((f_Mo_advance_19 (f_Mo_save N G) ((f_Mo_save N G) 16 4)).2))) ((f_Mo_advance_19 (f_Mo_save N G) ((f_Mo_save N G) 16 4)).2 16 11)).toNatClampNeg) ((f_Mo_advance_19 (f_Mo_save N G) ((f_Mo_save N G) 16 4)).2 16 14)) 16 11 (((f_Mo_advance_19 (f_Mo_save N G) ((f_Mo_save N G) 16 4)).2 16 11) + (1 : Int32)))) hok _ _ hB ls (lv_sub hl [1, 0] rfl)
    · replace hf := hf.trans (if_pos c2)
      replace hok := hok.1 c2
      refine lv_iconst (v := 0) hx hb d_Mo_stepOnce_32 (by decide) ?_
      exact g_zret hC hB hr hlk (by decide) (by decide) (by decide) (by rw [hf]) (by rw [hf]) d_Mo_stepOnce_33
  · replace hf := hf.trans (if_neg c1)
    replace hok := hok.2 c1
    refine lv_iconst (v := 0) hx hb d_Mo_stepOnce_11 (by decide) ?_
    exact g_zret hC hB hr hlk (by decide) (by decide) (by decide) (by rw [hf]) (by rw [hf]) d_Mo_stepOnce_12
abbrev rm_Mo_step : Room := { frames := 3, cells := 0, slots := 0, locals := 50 }
def f_Mo_step_L24 (N : Nat) : Nat → gT → Int32 → Int32 → Int32 × gT
  | 0, G, x1, x2 => (0, G)
  | n + 1, G, x1, x2 => (if x1 ≤ x2 then (x2, G) else (if ((f_Mo_stepOnce N G).1) = 0 then (x2, (f_Mo_stepOnce N G).2) else f_Mo_step_L24 N n ((f_Mo_stepOnce N G).2) x1 (x2 + 1)))
def ok_Mo_step_L24 (N : Nat) : Nat → gT → Int32 → Int32 → Prop
  | 0, G, x1, x2 => False
  | n + 1, G, x1, x2 => ((x1 ≤ x2 → True) ∧ (¬ x1 ≤ x2 → (ok_Mo_stepOnce N G ∧ ((((f_Mo_stepOnce N G).1) = 0 → True) ∧ (¬ ((f_Mo_stepOnce N G).1) = 0 → ok_Mo_step_L24 N n ((f_Mo_stepOnce N G).2) x1 (x2 + 1))))))
set_option maxHeartbeats 4000000 in
set_option maxRecDepth 100000 in
theorem w_Mo_step_L24 {p : Program} {l : Launch} {e : Env} {s0 s : State} {m : MethodId} {args : Array Value} {below : List Frame} {meth : Method} {c : Code} {D : va_G} {cI cL : ClassId} {ad : Nat → Nat} {O : Int64} {N : Nat} (hC : CallFix p m c b_Mo_step 3 s args gtb R_Mo) (hr : meth.sig.returnType = some .int) (hlk : meth.locks = false) : ∀ (n : Nat) (G : gT) (x1 : Int32) (x2 : Int32), ok_Mo_step_L24 N n G x1 x2 → ∀ (H : Heap) (locs : List Loc), gB s0 s D cI cL ad G O H locs → ∀ ls : Array Slot, lv_has ls 3 [(0, .ref (ad 16)), (1, .int x1), (2, .int x2)] → W p l e rm_Mo_step s m args below meth c H locs 0 0 (gE s0 below args s D cI cL ad 0 0 (.inl (some (.int (f_Mo_step_L24 N n G x1 x2).1))) ((f_Mo_step_L24 N n G x1 x2).2) O) (F0 m 24 ls []) := by
  have hx := hC.1
  have hb := hC.2.1
  intro n
  induction n with
  | zero =>
    intro G x1 x2 hok
    exact absurd hok (fun h => h)
  | succ n ih =>
    intro G x1 x2 hok H locs hB ls hl
    have hf : f_Mo_step_L24 N (n + 1) G x1 x2 = (if x1 ≤ x2 then (x2, G) else (if ((f_Mo_stepOnce N G).1) = 0 then (x2, (f_Mo_stepOnce N G).2) else f_Mo_step_L24 N n ((f_Mo_stepOnce N G).2) x1 (x2 + 1))) := rfl
    have hok : ((x1 ≤ x2 → True) ∧ (¬ x1 ≤ x2 → (ok_Mo_stepOnce N G ∧ ((((f_Mo_stepOnce N G).1) = 0 → True) ∧ (¬ ((f_Mo_stepOnce N G).1) = 0 → ok_Mo_step_L24 N n ((f_Mo_stepOnce N G).2) x1 (x2 + 1)))))) := hok
    refine lv_iload_n hx hb d_Mo_step_24 rfl (lv_at hl 2 rfl) ?_
    refine lv_iload_n hx hb d_Mo_step_25 rfl (lv_at hl 1 rfl) ?_
    refine lv_icmp_ge (tgt := 42) hx hb d_Mo_step_26 (by decide) (fun c2 => ?_) (fun c2 => ?_)
    · replace hf := hf.trans (if_pos c2)
      replace hok := hok.1 c2
      refine lv_iload_n hx hb d_Mo_step_42 rfl (lv_at hl 2 rfl) ?_
      exact g_iret hC hB hr hlk (by decide) (by decide) (by rw [hf]) (by rw [hf]) d_Mo_step_43
    · replace hf := hf.trans (if_neg c2)
      replace hok := hok.2 c2
      refine lv_aload_n hx hb d_Mo_step_29 rfl (lv_at hl 0 rfl) ?_
      refine g_callVi (b := ad 16) (As := []) (rest := []) hC hB (c_Mo_stepOnce l N G O hok.1) rfl key_Mo_stepOnce rfl ins_Mo_stepOnce sel_Mo_stepOnce ml_Mo_93 (g_rec16 hB) rfl hl.1 ⟨Nat.le_of_ble_eq_true rfl, Nat.le_of_ble_eq_true rfl, Nat.le_of_ble_eq_true rfl, Nat.le_of_ble_eq_true rfl⟩ d_Mo_step_30 (fun H locs hB => ?_)
      replace hok := hok.2
      refine lv_if_eq (tgt := 42) hx hb d_Mo_step_33 (by decide) (fun c3 => ?_) (fun c3 => ?_)
      · replace hf := hf.trans (if_pos c3)
        replace hok := hok.1 c3
        refine lv_iload_n hx hb d_Mo_step_42 rfl (lv_at hl 2 rfl) ?_
        exact g_iret hC hB hr hlk (by decide) (by decide) (by rw [hf]) (by rw [hf]) d_Mo_step_43
      · replace hf := hf.trans (if_neg c3)
        replace hok := hok.2 c3
        refine lv_iinc (v := x2 + 1) (lv' := [(2, .int (x2 + 1)), (0, .ref (ad 16)), (1, .int x1)]) hx hb d_Mo_step_36 hl (k := 2) rfl rfl (by decide) rfl (fun ls hl => ?_)
        refine lv_goto (tgt := 24) hx hb d_Mo_step_39 (by decide) ?_
        rw [hf]
        exact ih ((f_Mo_stepOnce N G).2) x1 (x2 + 1) hok _ _ hB ls (lv_sub hl [1, 2, 0] rfl)
def f_Mo_step (N : Nat) (G : gT) (p1 : Int32) : Int32 × gT := (if (f_Mo_within (g_up G 16 0 0) p1 1 2000) = 0 then ((f_Mo_fail (g_up G 16 0 0) 1).1, (f_Mo_fail (g_up G 16 0 0) 1).2) else f_Mo_step_L24 N N (g_up G 16 0 0) p1 0)
def ok_Mo_step (N : Nat) (G : gT) (p1 : Int32) : Prop := (((f_Mo_within (g_up G 16 0 0) p1 1 2000) = 0 → True) ∧ (¬ (f_Mo_within (g_up G 16 0 0) p1 1 2000) = 0 → ok_Mo_step_L24 N N (g_up G 16 0 0) p1 0))
set_option maxHeartbeats 4000000 in
set_option maxRecDepth 100000 in
theorem c_Mo_step (l : Launch) (N : Nat) (G : gT) (p1 : Int32) (O : Int64) (hok : ok_Mo_step N G p1) : gMet l y_Mo_step w_Mo_step rm_Mo_step (fun ad => [.ref (ad 16), .int p1]) G O (.inl (some (.int (f_Mo_step N G p1).1))) ((f_Mo_step N G p1).2) O := by
  refine g_body (by decide) (gCode_of _ _ _ _) (fun ad => by simp [lg_sl, Value.category]) ?_
  intro p e s0 s m args below meth c D cI cL ad hC hr hlk htb hB ls hl
  have hC : CallFix p m c b_Mo_step 3 s args gtb R_Mo := hC
  have hl : lv_has ls 3 [(0, .ref (ad 16)), (1, .int p1)] := hl
  have hx := hC.1
  have hb := hC.2.1
  have hf : f_Mo_step N G p1 = (if (f_Mo_within (g_up G 16 0 0) p1 1 2000) = 0 then ((f_Mo_fail (g_up G 16 0 0) 1).1, (f_Mo_fail (g_up G 16 0 0) 1).2) else f_Mo_step_L24 N N (g_up G 16 0 0) p1 0) := rfl
  have hok : (((f_Mo_within (g_up G 16 0 0) p1 1 2000) = 0 → True) ∧ (¬ (f_Mo_within (g_up G 16 0 0) p1 1 2000) = 0 → ok_Mo_step_L24 N N (g_up G 16 0 0) p1 0)) := hok
  refine lv_aload_n hx hb d_Mo_step_0 rfl (lv_at hl 0 rfl) ?_
  refine lv_iconst (v := 0) hx hb d_Mo_step_1 (by decide) ?_
  refine gp_16_0 hC hB fl_Mo_43 d_Mo_step_2 (fun H locs hB => ?_)
  refine lv_iload_n hx hb d_Mo_step_5 rfl (lv_at hl 1 rfl) ?_
  refine lv_iconst (v := 1) hx hb d_Mo_step_6 (by decide) ?_
  refine lv_sipush (v := 2000) hx hb d_Mo_step_7 (by decide) ?_
  refine g_callSi (As := [.int p1, .int 1, .int 2000]) (rest := []) hC hB (c_Mo_within l (g_up G 16 0 0) p1 1 2000 O) rfl key_Mo_within rfl sta_Mo_within ml_Mo_46 rfl hl.1 ⟨Nat.le_of_ble_eq_true rfl, Nat.le_of_ble_eq_true rfl, Nat.le_of_ble_eq_true rfl, Nat.le_of_ble_eq_true rfl⟩ d_Mo_step_10 (fun H locs hB => ?_)
  refine lv_if_ne (tgt := 22) hx hb d_Mo_step_13 (by decide) (fun c1 => ?_) (fun c1 => ?_)
  · replace hf := hf.trans (if_neg c1)
    replace hok := hok.2 c1
    refine lv_iconst (v := 0) hx hb d_Mo_step_22 (by decide) ?_
    refine lv_istore_n (lv' := [(2, .int 0), (0, .ref (ad 16)), (1, .int p1)]) hx hb d_Mo_step_23 rfl hl (by decide) rfl (fun ls hl => ?_)
    rw [hf]
    refine W.widen (k := 0) (n := 0) (by decide) (by decide) ?_
    exact w_Mo_step_L24 hC hr hlk N (g_up G 16 0 0) p1 0 hok _ _ hB ls (lv_sub hl [1, 2, 0] rfl)
  · replace hf := hf.trans (if_pos c1)
    replace hok := hok.1 c1
    refine lv_aload_n hx hb d_Mo_step_16 rfl (lv_at hl 0 rfl) ?_
    refine lv_iconst (v := 1) hx hb d_Mo_step_17 (by decide) ?_
    refine g_callVi (b := ad 16) (As := [.int 1]) (rest := []) hC hB (c_Mo_fail l (g_up G 16 0 0) 1 O) rfl key_Mo_fail rfl ins_Mo_fail sel_Mo_fail ml_Mo_50 (g_rec16 hB) rfl hl.1 ⟨Nat.le_of_ble_eq_true rfl, Nat.le_of_ble_eq_true rfl, Nat.le_of_ble_eq_true rfl, Nat.le_of_ble_eq_true rfl⟩ d_Mo_step_18 (fun H locs hB => ?_)
    exact g_iret hC hB hr hlk (by decide) (by decide) (by rw [hf]) (by rw [hf]) d_Mo_step_21
abbrev rm_Mo_back : Room := { frames := 2, cells := 0, slots := 0, locals := 30 }
def f_Mo_back_L28 : Nat → gT → Int32 → Int32 → Int32 → Int32 × gT
  | 0, G, x1, x2, x3 => (0, G)
  | n + 1, G, x1, x2, x3 => (if (269 : Int32) ≤ x3 then (x2, (g_up G 16 11 x1)) else f_Mo_back_L28 n (g_up G 19 x3.toNatClampNeg (f_Mo_stateAt G x1 x3)) x1 x2 (x3 + 1))
def ok_Mo_back_L28 : Nat → gT → Int32 → Int32 → Int32 → Prop
  | 0, G, x1, x2, x3 => False
  | n + 1, G, x1, x2, x3 => (((269 : Int32) ≤ x3 → True) ∧ (¬ (269 : Int32) ≤ x3 → (ok_Mo_stateAt G x1 x3 ∧ (vp_in x3 269 ∧ ok_Mo_back_L28 n (g_up G 19 x3.toNatClampNeg (f_Mo_stateAt G x1 x3)) x1 x2 (x3 + 1)))))
set_option maxHeartbeats 4000000 in
set_option maxRecDepth 100000 in
theorem w_Mo_back_L28 {p : Program} {l : Launch} {e : Env} {s0 s : State} {m : MethodId} {args : Array Value} {below : List Frame} {meth : Method} {c : Code} {D : va_G} {cI cL : ClassId} {ad : Nat → Nat} {O : Int64} (hC : CallFix p m c b_Mo_back 4 s args gtb R_Mo) (hr : meth.sig.returnType = some .int) (hlk : meth.locks = false) : ∀ (n : Nat) (G : gT) (x1 : Int32) (x2 : Int32) (x3 : Int32), ok_Mo_back_L28 n G x1 x2 x3 → ∀ (H : Heap) (locs : List Loc), gB s0 s D cI cL ad G O H locs → ∀ ls : Array Slot, lv_has ls 4 [(0, .ref (ad 16)), (1, .int x1), (2, .int x2), (3, .int x3)] → W p l e rm_Mo_back s m args below meth c H locs 0 0 (gE s0 below args s D cI cL ad 0 0 (.inl (some (.int (f_Mo_back_L28 n G x1 x2 x3).1))) ((f_Mo_back_L28 n G x1 x2 x3).2) O) (F0 m 28 ls []) := by
  have hx := hC.1
  have hb := hC.2.1
  intro n
  induction n with
  | zero =>
    intro G x1 x2 x3 hok
    exact absurd hok (fun h => h)
  | succ n ih =>
    intro G x1 x2 x3 hok H locs hB ls hl
    have hf : f_Mo_back_L28 (n + 1) G x1 x2 x3 = (if (269 : Int32) ≤ x3 then (x2, (g_up G 16 11 x1)) else f_Mo_back_L28 n (g_up G 19 x3.toNatClampNeg (f_Mo_stateAt G x1 x3)) x1 x2 (x3 + 1)) := rfl
    have hok : (((269 : Int32) ≤ x3 → True) ∧ (¬ (269 : Int32) ≤ x3 → (ok_Mo_stateAt G x1 x3 ∧ (vp_in x3 269 ∧ ok_Mo_back_L28 n (g_up G 19 x3.toNatClampNeg (f_Mo_stateAt G x1 x3)) x1 x2 (x3 + 1))))) := hok
    refine lv_iload_n hx hb d_Mo_back_28 rfl (lv_at hl 3 rfl) ?_
    refine lv_sipush (v := 269) hx hb d_Mo_back_29 (by decide) ?_
    refine lv_icmp_ge (tgt := 53) hx hb d_Mo_back_32 (by decide) (fun c2 => ?_) (fun c2 => ?_)
    · replace hf := hf.trans (if_pos c2)
      replace hok := hok.1 c2
      refine lv_aload_n hx hb d_Mo_back_53 rfl (lv_at hl 0 rfl) ?_
      refine lv_iload_n hx hb d_Mo_back_54 rfl (lv_at hl 1 rfl) ?_
      refine gp_16_11 hC hB fl_Mo_57 d_Mo_back_55 (fun H locs hB => ?_)
      refine lv_iload_n hx hb d_Mo_back_58 rfl (lv_at hl 2 rfl) ?_
      exact g_iret hC hB hr hlk (by decide) (by decide) (by rw [hf]) (by rw [hf]) d_Mo_back_59
    · replace hf := hf.trans (if_neg c2)
      replace hok := hok.2 c2
      refine lv_aload_n hx hb d_Mo_back_35 rfl (lv_at hl 0 rfl) ?_
      refine gr_16_6 hC hB fl_Mo_16 d_Mo_back_36 ?_
      refine lv_iload_n hx hb d_Mo_back_39 rfl (lv_at hl 3 rfl) ?_
      refine lv_aload_n hx hb d_Mo_back_40 rfl (lv_at hl 0 rfl) ?_
      refine lv_iload_n hx hb d_Mo_back_41 rfl (lv_at hl 1 rfl) ?_
      refine lv_iload_n hx hb d_Mo_back_42 rfl (lv_at hl 3 rfl) ?_
      refine g_callVi (b := ad 16) (As := [.int x1, .int x3]) (rest := [.int x3, .ref (ad 19)]) hC hB (c_Mo_stateAt l G x1 x3 O hok.1) rfl key_Mo_stateAt rfl ins_Mo_stateAt sel_Mo_stateAt ml_Mo_101 (g_rec16 hB) rfl hl.1 ⟨Nat.le_of_ble_eq_true rfl, Nat.le_of_ble_eq_true rfl, Nat.le_of_ble_eq_true rfl, Nat.le_of_ble_eq_true rfl⟩ d_Mo_back_43 (fun H locs hB => ?_)
      replace hok := hok.2
      refine gs_19 hC hB hok.1 d_Mo_back_46 (fun H locs hB => ?_)
      replace hok := hok.2
      refine lv_iinc (v := x3 + 1) (lv' := [(3, .int (x3 + 1)), (0, .ref (ad 16)), (1, .int x1), (2, .int x2)]) hx hb d_Mo_back_47 hl (k := 3) rfl rfl (by decide) rfl (fun ls hl => ?_)
      refine lv_goto (tgt := 28) hx hb d_Mo_back_50 (by decide) ?_
      rw [hf]
      exact ih (g_up G 19 x3.toNatClampNeg (f_Mo_stateAt G x1 x3)) x1 x2 (x3 + 1) hok _ _ hB ls (lv_sub hl [1, 2, 3, 0] rfl)
def f_Mo_back (N : Nat) (G : gT) (p1 : Int32) : Int32 × gT := (if (f_Mo_isKept (g_up G 16 0 0) p1) = 0 then ((f_Mo_fail (g_up G 16 0 0) 1).1, (f_Mo_fail (g_up G 16 0 0) 1).2) else f_Mo_back_L28 N (g_up G 16 0 0) p1 ((G 16 11) - p1) 0)
def ok_Mo_back (N : Nat) (G : gT) (p1 : Int32) : Prop := (((f_Mo_isKept (g_up G 16 0 0) p1) = 0 → True) ∧ (¬ (f_Mo_isKept (g_up G 16 0 0) p1) = 0 → ok_Mo_back_L28 N (g_up G 16 0 0) p1 ((G 16 11) - p1) 0))
set_option maxHeartbeats 4000000 in
set_option maxRecDepth 100000 in
theorem c_Mo_back (l : Launch) (N : Nat) (G : gT) (p1 : Int32) (O : Int64) (hok : ok_Mo_back N G p1) : gMet l y_Mo_back w_Mo_back rm_Mo_back (fun ad => [.ref (ad 16), .int p1]) G O (.inl (some (.int (f_Mo_back N G p1).1))) ((f_Mo_back N G p1).2) O := by
  refine g_body (by decide) (gCode_of _ _ _ _) (fun ad => by simp [lg_sl, Value.category]) ?_
  intro p e s0 s m args below meth c D cI cL ad hC hr hlk htb hB ls hl
  have hC : CallFix p m c b_Mo_back 4 s args gtb R_Mo := hC
  have hl : lv_has ls 4 [(0, .ref (ad 16)), (1, .int p1)] := hl
  have hx := hC.1
  have hb := hC.2.1
  have hf : f_Mo_back N G p1 = (if (f_Mo_isKept (g_up G 16 0 0) p1) = 0 then ((f_Mo_fail (g_up G 16 0 0) 1).1, (f_Mo_fail (g_up G 16 0 0) 1).2) else f_Mo_back_L28 N (g_up G 16 0 0) p1 ((G 16 11) - p1) 0) := rfl
  have hok : (((f_Mo_isKept (g_up G 16 0 0) p1) = 0 → True) ∧ (¬ (f_Mo_isKept (g_up G 16 0 0) p1) = 0 → ok_Mo_back_L28 N (g_up G 16 0 0) p1 ((G 16 11) - p1) 0)) := hok
  refine lv_aload_n hx hb d_Mo_back_0 rfl (lv_at hl 0 rfl) ?_
  refine lv_iconst (v := 0) hx hb d_Mo_back_1 (by decide) ?_
  refine gp_16_0 hC hB fl_Mo_43 d_Mo_back_2 (fun H locs hB => ?_)
  refine lv_aload_n hx hb d_Mo_back_5 rfl (lv_at hl 0 rfl) ?_
  refine lv_iload_n hx hb d_Mo_back_6 rfl (lv_at hl 1 rfl) ?_
  refine g_callVi (b := ad 16) (As := [.int p1]) (rest := []) hC hB (c_Mo_isKept l (g_up G 16 0 0) p1 O) rfl key_Mo_isKept rfl ins_Mo_isKept sel_Mo_isKept ml_Mo_97 (g_rec16 hB) rfl hl.1 ⟨Nat.le_of_ble_eq_true rfl, Nat.le_of_ble_eq_true rfl, Nat.le_of_ble_eq_true rfl, Nat.le_of_ble_eq_true rfl⟩ d_Mo_back_7 (fun H locs hB => ?_)
  refine lv_if_ne (tgt := 19) hx hb d_Mo_back_10 (by decide) (fun c1 => ?_) (fun c1 => ?_)
  · replace hf := hf.trans (if_neg c1)
    replace hok := hok.2 c1
    refine lv_aload_n hx hb d_Mo_back_19 rfl (lv_at hl 0 rfl) ?_
    refine gg_16_11 (x := (G 16 11)) hC hB rfl fl_Mo_57 d_Mo_back_20 ?_
    refine lv_iload_n hx hb d_Mo_back_23 rfl (lv_at hl 1 rfl) ?_
    refine lv_isub hx hb d_Mo_back_24 ?_
    refine lv_istore_n (lv' := [(2, .int ((G 16 11) - p1)), (0, .ref (ad 16)), (1, .int p1)]) hx hb d_Mo_back_25 rfl hl (by decide) rfl (fun ls hl => ?_)
    refine lv_iconst (v := 0) hx hb d_Mo_back_26 (by decide) ?_
    refine lv_istore_n (lv' := [(3, .int 0), (2, .int ((G 16 11) - p1)), (0, .ref (ad 16)), (1, .int p1)]) hx hb d_Mo_back_27 rfl hl (by decide) rfl (fun ls hl => ?_)
    rw [hf]
    refine W.widen (k := 0) (n := 0) (by decide) (by decide) ?_
    exact w_Mo_back_L28 hC hr hlk N (g_up G 16 0 0) p1 ((G 16 11) - p1) 0 hok _ _ hB ls (lv_sub hl [2, 3, 1, 0] rfl)
  · replace hf := hf.trans (if_pos c1)
    replace hok := hok.1 c1
    refine lv_aload_n hx hb d_Mo_back_13 rfl (lv_at hl 0 rfl) ?_
    refine lv_iconst (v := 1) hx hb d_Mo_back_14 (by decide) ?_
    refine g_callVi (b := ad 16) (As := [.int 1]) (rest := []) hC hB (c_Mo_fail l (g_up G 16 0 0) 1 O) rfl key_Mo_fail rfl ins_Mo_fail sel_Mo_fail ml_Mo_50 (g_rec16 hB) rfl hl.1 ⟨Nat.le_of_ble_eq_true rfl, Nat.le_of_ble_eq_true rfl, Nat.le_of_ble_eq_true rfl, Nat.le_of_ble_eq_true rfl⟩ d_Mo_back_15 (fun H locs hB => ?_)
    exact g_iret hC hB hr hlk (by decide) (by decide) (by rw [hf]) (by rw [hf]) d_Mo_back_18
abbrev rm_Mo_wrote : Room := { frames := 1, cells := 0, slots := 0, locals := 14 }
def f_Mo_wrote_L29 : Nat → gT → Int32 → Int32 → Int32 × gT
  | 0, G, x1, x2 => (0, G)
  | n + 1, G, x1, x2 => (if x2 < (G 16 12) then ((-1), G) else (if (G 23 ((f_Mo_slot G x2).toNatClampNeg)) = x1 then (x2 + (1 : Int32), G) else f_Mo_wrote_L29 n G x1 (x2 + (-1))))
def ok_Mo_wrote_L29 : Nat → gT → Int32 → Int32 → Prop
  | 0, G, x1, x2 => False
  | n + 1, G, x1, x2 => ((x2 < (G 16 12) → True) ∧ (¬ x2 < (G 16 12) → (vp_in (f_Mo_slot G x2) 1025 ∧ (((G 23 ((f_Mo_slot G x2).toNatClampNeg)) = x1 → True) ∧ (¬ (G 23 ((f_Mo_slot G x2).toNatClampNeg)) = x1 → ok_Mo_wrote_L29 n G x1 (x2 + (-1)))))))
set_option maxHeartbeats 4000000 in
set_option maxRecDepth 100000 in
theorem w_Mo_wrote_L29 {p : Program} {l : Launch} {e : Env} {s0 s : State} {m : MethodId} {args : Array Value} {below : List Frame} {meth : Method} {c : Code} {D : va_G} {cI cL : ClassId} {ad : Nat → Nat} {O : Int64} (hC : CallFix p m c b_Mo_wrote 3 s args gtb R_Mo) (hr : meth.sig.returnType = some .int) (hlk : meth.locks = false) : ∀ (n : Nat) (G : gT) (x1 : Int32) (x2 : Int32), ok_Mo_wrote_L29 n G x1 x2 → ∀ (H : Heap) (locs : List Loc), gB s0 s D cI cL ad G O H locs → ∀ ls : Array Slot, lv_has ls 3 [(0, .ref (ad 16)), (1, .int x1), (2, .int x2)] → W p l e rm_Mo_wrote s m args below meth c H locs 0 0 (gE s0 below args s D cI cL ad 0 0 (.inl (some (.int (f_Mo_wrote_L29 n G x1 x2).1))) ((f_Mo_wrote_L29 n G x1 x2).2) O) (F0 m 29 ls []) := by
  have hx := hC.1
  have hb := hC.2.1
  intro n
  induction n with
  | zero =>
    intro G x1 x2 hok
    exact absurd hok (fun h => h)
  | succ n ih =>
    intro G x1 x2 hok H locs hB ls hl
    have hf : f_Mo_wrote_L29 (n + 1) G x1 x2 = (if x2 < (G 16 12) then ((-1), G) else (if (G 23 ((f_Mo_slot G x2).toNatClampNeg)) = x1 then (x2 + (1 : Int32), G) else f_Mo_wrote_L29 n G x1 (x2 + (-1)))) := rfl
    have hok : ((x2 < (G 16 12) → True) ∧ (¬ x2 < (G 16 12) → (vp_in (f_Mo_slot G x2) 1025 ∧ (((G 23 ((f_Mo_slot G x2).toNatClampNeg)) = x1 → True) ∧ (¬ (G 23 ((f_Mo_slot G x2).toNatClampNeg)) = x1 → ok_Mo_wrote_L29 n G x1 (x2 + (-1))))))) := hok
    refine lv_iload_n hx hb d_Mo_wrote_29 rfl (lv_at hl 2 rfl) ?_
    refine lv_aload_n hx hb d_Mo_wrote_30 rfl (lv_at hl 0 rfl) ?_
    refine gg_16_12 (x := (G 16 12)) hC hB rfl fl_Mo_66 d_Mo_wrote_31 ?_
    refine lv_icmp_lt (tgt := 60) hx hb d_Mo_wrote_34 (by decide) (fun c2 => ?_) (fun c2 => ?_)
    · replace hf := hf.trans (if_pos c2)
      replace hok := hok.1 c2
      refine lv_iconst (v := (-1)) hx hb d_Mo_wrote_60 (by decide) ?_
      exact g_iret hC hB hr hlk (by decide) (by decide) (by rw [hf]) (by rw [hf]) d_Mo_wrote_61
    · replace hf := hf.trans (if_neg c2)
      replace hok := hok.2 c2
      refine lv_aload_n hx hb d_Mo_wrote_37 rfl (lv_at hl 0 rfl) ?_
      refine gr_16_10 hC hB fl_Mo_29 d_Mo_wrote_38 ?_
      refine lv_iload_n hx hb d_Mo_wrote_41 rfl (lv_at hl 2 rfl) ?_
      refine g_callSi (As := [.int x2]) (rest := [.ref (ad 23)]) hC hB (c_Mo_slot l G x2 O) rfl key_Mo_slot rfl sta_Mo_slot ml_Mo_60 rfl hl.1 ⟨Nat.le_of_ble_eq_true rfl, Nat.le_of_ble_eq_true rfl, Nat.le_of_ble_eq_true rfl, Nat.le_of_ble_eq_true rfl⟩ d_Mo_wrote_42 (fun H locs hB => ?_)
      refine ga_23 (x := (G 23 ((f_Mo_slot G x2).toNatClampNeg))) hC hB hok.1 rfl d_Mo_wrote_45 ?_
      replace hok := hok.2
      refine lv_iload_n hx hb d_Mo_wrote_46 rfl (lv_at hl 1 rfl) ?_
      refine lv_icmp_ne (tgt := 54) hx hb d_Mo_wrote_47 (by decide) (fun c3 => ?_) (fun c3 => ?_)
      · replace hf := hf.trans (if_neg c3)
        replace hok := hok.2 c3
        refine lv_iinc (v := x2 + (-1)) (lv' := [(2, .int (x2 + (-1))), (0, .ref (ad 16)), (1, .int x1)]) hx hb d_Mo_wrote_54 hl (k := 2) rfl (congrArg (fun z : Int32 => x2 + z) (by decide)) (by decide) rfl (fun ls hl => ?_)
        refine lv_goto (tgt := 29) hx hb d_Mo_wrote_57 (by decide) ?_
        rw [hf]
        exact ih G x1 (x2 + (-1)) hok _ _ hB ls (lv_sub hl [1, 2, 0] rfl)
      · replace hf := hf.trans (if_pos c3)
        replace hok := hok.1 c3
        refine lv_iload_n hx hb d_Mo_wrote_50 rfl (lv_at hl 2 rfl) ?_
        refine lv_iconst (v := 1) hx hb d_Mo_wrote_51 (by decide) ?_
        refine lv_iadd hx hb d_Mo_wrote_52 ?_
        exact g_iret hC hB hr hlk (by decide) (by decide) (by rw [hf]) (by rw [hf]) d_Mo_wrote_53
def f_Mo_wrote (N : Nat) (G : gT) (p1 : Int32) : Int32 × gT := (if (f_Mo_within (g_up G 16 0 0) p1 0 263) = 0 then ((f_Mo_fail (g_up G 16 0 0) 1).1, (f_Mo_fail (g_up G 16 0 0) 1).2) else f_Mo_wrote_L29 N (g_up G 16 0 0) p1 ((G 16 11) - (1 : Int32)))
def ok_Mo_wrote (N : Nat) (G : gT) (p1 : Int32) : Prop := (((f_Mo_within (g_up G 16 0 0) p1 0 263) = 0 → True) ∧ (¬ (f_Mo_within (g_up G 16 0 0) p1 0 263) = 0 → ok_Mo_wrote_L29 N (g_up G 16 0 0) p1 ((G 16 11) - (1 : Int32))))
set_option maxHeartbeats 4000000 in
set_option maxRecDepth 100000 in
theorem c_Mo_wrote (l : Launch) (N : Nat) (G : gT) (p1 : Int32) (O : Int64) (hok : ok_Mo_wrote N G p1) : gMet l y_Mo_wrote w_Mo_wrote rm_Mo_wrote (fun ad => [.ref (ad 16), .int p1]) G O (.inl (some (.int (f_Mo_wrote N G p1).1))) ((f_Mo_wrote N G p1).2) O := by
  refine g_body (by decide) (gCode_of _ _ _ _) (fun ad => by simp [lg_sl, Value.category]) ?_
  intro p e s0 s m args below meth c D cI cL ad hC hr hlk htb hB ls hl
  have hC : CallFix p m c b_Mo_wrote 3 s args gtb R_Mo := hC
  have hl : lv_has ls 3 [(0, .ref (ad 16)), (1, .int p1)] := hl
  have hx := hC.1
  have hb := hC.2.1
  have hf : f_Mo_wrote N G p1 = (if (f_Mo_within (g_up G 16 0 0) p1 0 263) = 0 then ((f_Mo_fail (g_up G 16 0 0) 1).1, (f_Mo_fail (g_up G 16 0 0) 1).2) else f_Mo_wrote_L29 N (g_up G 16 0 0) p1 ((G 16 11) - (1 : Int32))) := rfl
  have hok : (((f_Mo_within (g_up G 16 0 0) p1 0 263) = 0 → True) ∧ (¬ (f_Mo_within (g_up G 16 0 0) p1 0 263) = 0 → ok_Mo_wrote_L29 N (g_up G 16 0 0) p1 ((G 16 11) - (1 : Int32)))) := hok
  refine lv_aload_n hx hb d_Mo_wrote_0 rfl (lv_at hl 0 rfl) ?_
  refine lv_iconst (v := 0) hx hb d_Mo_wrote_1 (by decide) ?_
  refine gp_16_0 hC hB fl_Mo_43 d_Mo_wrote_2 (fun H locs hB => ?_)
  refine lv_iload_n hx hb d_Mo_wrote_5 rfl (lv_at hl 1 rfl) ?_
  refine lv_iconst (v := 0) hx hb d_Mo_wrote_6 (by decide) ?_
  refine lv_sipush (v := 263) hx hb d_Mo_wrote_7 (by decide) ?_
  refine g_callSi (As := [.int p1, .int 0, .int 263]) (rest := []) hC hB (c_Mo_within l (g_up G 16 0 0) p1 0 263 O) rfl key_Mo_within rfl sta_Mo_within ml_Mo_46 rfl hl.1 ⟨Nat.le_of_ble_eq_true rfl, Nat.le_of_ble_eq_true rfl, Nat.le_of_ble_eq_true rfl, Nat.le_of_ble_eq_true rfl⟩ d_Mo_wrote_10 (fun H locs hB => ?_)
  refine lv_if_ne (tgt := 22) hx hb d_Mo_wrote_13 (by decide) (fun c1 => ?_) (fun c1 => ?_)
  · replace hf := hf.trans (if_neg c1)
    replace hok := hok.2 c1
    refine lv_aload_n hx hb d_Mo_wrote_22 rfl (lv_at hl 0 rfl) ?_
    refine gg_16_11 (x := (G 16 11)) hC hB rfl fl_Mo_57 d_Mo_wrote_23 ?_
    refine lv_iconst (v := 1) hx hb d_Mo_wrote_26 (by decide) ?_
    refine lv_isub hx hb d_Mo_wrote_27 ?_
    refine lv_istore_n (lv' := [(2, .int ((G 16 11) - (1 : Int32))), (0, .ref (ad 16)), (1, .int p1)]) hx hb d_Mo_wrote_28 rfl hl (by decide) rfl (fun ls hl => ?_)
    rw [hf]
    refine W.widen (k := 0) (n := 0) (by decide) (by decide) ?_
    exact w_Mo_wrote_L29 hC hr hlk N (g_up G 16 0 0) p1 ((G 16 11) - (1 : Int32)) hok _ _ hB ls (lv_sub hl [1, 2, 0] rfl)
  · replace hf := hf.trans (if_pos c1)
    replace hok := hok.1 c1
    refine lv_aload_n hx hb d_Mo_wrote_16 rfl (lv_at hl 0 rfl) ?_
    refine lv_iconst (v := 1) hx hb d_Mo_wrote_17 (by decide) ?_
    refine g_callVi (b := ad 16) (As := [.int 1]) (rest := []) hC hB (c_Mo_fail l (g_up G 16 0 0) 1 O) rfl key_Mo_fail rfl ins_Mo_fail sel_Mo_fail ml_Mo_50 (g_rec16 hB) rfl hl.1 ⟨Nat.le_of_ble_eq_true rfl, Nat.le_of_ble_eq_true rfl, Nat.le_of_ble_eq_true rfl, Nat.le_of_ble_eq_true rfl⟩ d_Mo_wrote_18 (fun H locs hB => ?_)
    exact g_iret hC hB hr hlk (by decide) (by decide) (by rw [hf]) (by rw [hf]) d_Mo_wrote_21
abbrev rm_Mo_when : Room := { frames := 2, cells := 0, slots := 0, locals := 28 }
def f_Mo_when_L39 : Nat → gT → Int32 → Int32 → Int32 → Int32 → Int32 × gT
  | 0, G, x1, x2, x3, x4 => (0, G)
  | n + 1, G, x1, x2, x3, x4 => (if x4 < (G 16 12) then ((-1), G) else (if (f_Mo_stateAt G x4 x2) = x3 then (x4, G) else f_Mo_when_L39 n G x1 x2 x3 (x4 + (-1))))
def ok_Mo_when_L39 : Nat → gT → Int32 → Int32 → Int32 → Int32 → Prop
  | 0, G, x1, x2, x3, x4 => False
  | n + 1, G, x1, x2, x3, x4 => ((x4 < (G 16 12) → True) ∧ (¬ x4 < (G 16 12) → (ok_Mo_stateAt G x4 x2 ∧ (((f_Mo_stateAt G x4 x2) = x3 → True) ∧ (¬ (f_Mo_stateAt G x4 x2) = x3 → ok_Mo_when_L39 n G x1 x2 x3 (x4 + (-1)))))))
set_option maxHeartbeats 4000000 in
set_option maxRecDepth 100000 in
theorem w_Mo_when_L39 {p : Program} {l : Launch} {e : Env} {s0 s : State} {m : MethodId} {args : Array Value} {below : List Frame} {meth : Method} {c : Code} {D : va_G} {cI cL : ClassId} {ad : Nat → Nat} {O : Int64} (hC : CallFix p m c b_Mo_when 5 s args gtb R_Mo) (hr : meth.sig.returnType = some .int) (hlk : meth.locks = false) : ∀ (n : Nat) (G : gT) (x1 : Int32) (x2 : Int32) (x3 : Int32) (x4 : Int32), ok_Mo_when_L39 n G x1 x2 x3 x4 → ∀ (H : Heap) (locs : List Loc), gB s0 s D cI cL ad G O H locs → ∀ ls : Array Slot, lv_has ls 5 [(0, .ref (ad 16)), (1, .int x1), (2, .int x2), (3, .int x3), (4, .int x4)] → W p l e rm_Mo_when s m args below meth c H locs 0 0 (gE s0 below args s D cI cL ad 0 0 (.inl (some (.int (f_Mo_when_L39 n G x1 x2 x3 x4).1))) ((f_Mo_when_L39 n G x1 x2 x3 x4).2) O) (F0 m 39 ls []) := by
  have hx := hC.1
  have hb := hC.2.1
  intro n
  induction n with
  | zero =>
    intro G x1 x2 x3 x4 hok
    exact absurd hok (fun h => h)
  | succ n ih =>
    intro G x1 x2 x3 x4 hok H locs hB ls hl
    have hf : f_Mo_when_L39 (n + 1) G x1 x2 x3 x4 = (if x4 < (G 16 12) then ((-1), G) else (if (f_Mo_stateAt G x4 x2) = x3 then (x4, G) else f_Mo_when_L39 n G x1 x2 x3 (x4 + (-1)))) := rfl
    have hok : ((x4 < (G 16 12) → True) ∧ (¬ x4 < (G 16 12) → (ok_Mo_stateAt G x4 x2 ∧ (((f_Mo_stateAt G x4 x2) = x3 → True) ∧ (¬ (f_Mo_stateAt G x4 x2) = x3 → ok_Mo_when_L39 n G x1 x2 x3 (x4 + (-1))))))) := hok
    refine lv_iload hx hb d_Mo_when_39 (lv_at hl 4 rfl) ?_
    refine lv_aload_n hx hb d_Mo_when_41 rfl (lv_at hl 0 rfl) ?_
    refine gg_16_12 (x := (G 16 12)) hC hB rfl fl_Mo_66 d_Mo_when_42 ?_
    refine lv_icmp_lt (tgt := 68) hx hb d_Mo_when_45 (by decide) (fun c3 => ?_) (fun c3 => ?_)
    · replace hf := hf.trans (if_pos c3)
      replace hok := hok.1 c3
      refine lv_iconst (v := (-1)) hx hb d_Mo_when_68 (by decide) ?_
      exact g_iret hC hB hr hlk (by decide) (by decide) (by rw [hf]) (by rw [hf]) d_Mo_when_69
    · replace hf := hf.trans (if_neg c3)
      replace hok := hok.2 c3
      refine lv_aload_n hx hb d_Mo_when_48 rfl (lv_at hl 0 rfl) ?_
      refine lv_iload hx hb d_Mo_when_49 (lv_at hl 4 rfl) ?_
      refine lv_iload_n hx hb d_Mo_when_51 rfl (lv_at hl 2 rfl) ?_
      refine g_callVi (b := ad 16) (As := [.int x4, .int x2]) (rest := []) hC hB (c_Mo_stateAt l G x4 x2 O hok.1) rfl key_Mo_stateAt rfl ins_Mo_stateAt sel_Mo_stateAt ml_Mo_101 (g_rec16 hB) rfl hl.1 ⟨Nat.le_of_ble_eq_true rfl, Nat.le_of_ble_eq_true rfl, Nat.le_of_ble_eq_true rfl, Nat.le_of_ble_eq_true rfl⟩ d_Mo_when_52 (fun H locs hB => ?_)
      replace hok := hok.2
      refine lv_iload_n hx hb d_Mo_when_55 rfl (lv_at hl 3 rfl) ?_
      refine lv_icmp_ne (tgt := 62) hx hb d_Mo_when_56 (by decide) (fun c4 => ?_) (fun c4 => ?_)
      · replace hf := hf.trans (if_neg c4)
        replace hok := hok.2 c4
        refine lv_iinc (v := x4 + (-1)) (lv' := [(4, .int (x4 + (-1))), (0, .ref (ad 16)), (1, .int x1), (2, .int x2), (3, .int x3)]) hx hb d_Mo_when_62 hl (k := 4) rfl (congrArg (fun z : Int32 => x4 + z) (by decide)) (by decide) rfl (fun ls hl => ?_)
        refine lv_goto (tgt := 39) hx hb d_Mo_when_65 (by decide) ?_
        rw [hf]
        exact ih G x1 x2 x3 (x4 + (-1)) hok _ _ hB ls (lv_sub hl [1, 2, 3, 4, 0] rfl)
      · replace hf := hf.trans (if_pos c4)
        replace hok := hok.1 c4
        refine lv_iload hx hb d_Mo_when_59 (lv_at hl 4 rfl) ?_
        exact g_iret hC hB hr hlk (by decide) (by decide) (by rw [hf]) (by rw [hf]) d_Mo_when_61
def f_Mo_when (N : Nat) (G : gT) (p1 : Int32) (p2 : Int32) (p3 : Int32) : Int32 × gT := (if (f_Mo_isKept (g_up G 16 0 0) p1) = 0 then ((f_Mo_fail (g_up G 16 0 0) 1).1, (f_Mo_fail (g_up G 16 0 0) 1).2) else (if (f_Mo_within (g_up G 16 0 0) p2 0 263) = 0 then ((f_Mo_fail (g_up G 16 0 0) 2).1, (f_Mo_fail (g_up G 16 0 0) 2).2) else f_Mo_when_L39 N (g_up G 16 0 0) p1 p2 p3 p1))
def ok_Mo_when (N : Nat) (G : gT) (p1 : Int32) (p2 : Int32) (p3 : Int32) : Prop := (((f_Mo_isKept (g_up G 16 0 0) p1) = 0 → True) ∧ (¬ (f_Mo_isKept (g_up G 16 0 0) p1) = 0 → (((f_Mo_within (g_up G 16 0 0) p2 0 263) = 0 → True) ∧ (¬ (f_Mo_within (g_up G 16 0 0) p2 0 263) = 0 → ok_Mo_when_L39 N (g_up G 16 0 0) p1 p2 p3 p1))))
set_option maxHeartbeats 4000000 in
set_option maxRecDepth 100000 in
theorem c_Mo_when (l : Launch) (N : Nat) (G : gT) (p1 : Int32) (p2 : Int32) (p3 : Int32) (O : Int64) (hok : ok_Mo_when N G p1 p2 p3) : gMet l y_Mo_when w_Mo_when rm_Mo_when (fun ad => [.ref (ad 16), .int p1, .int p2, .int p3]) G O (.inl (some (.int (f_Mo_when N G p1 p2 p3).1))) ((f_Mo_when N G p1 p2 p3).2) O := by
  refine g_body (by decide) (gCode_of _ _ _ _) (fun ad => by simp [lg_sl, Value.category]) ?_
  intro p e s0 s m args below meth c D cI cL ad hC hr hlk htb hB ls hl
  have hC : CallFix p m c b_Mo_when 5 s args gtb R_Mo := hC
  have hl : lv_has ls 5 [(0, .ref (ad 16)), (1, .int p1), (2, .int p2), (3, .int p3)] := hl
  have hx := hC.1
  have hb := hC.2.1
  have hf : f_Mo_when N G p1 p2 p3 = (if (f_Mo_isKept (g_up G 16 0 0) p1) = 0 then ((f_Mo_fail (g_up G 16 0 0) 1).1, (f_Mo_fail (g_up G 16 0 0) 1).2) else (if (f_Mo_within (g_up G 16 0 0) p2 0 263) = 0 then ((f_Mo_fail (g_up G 16 0 0) 2).1, (f_Mo_fail (g_up G 16 0 0) 2).2) else f_Mo_when_L39 N (g_up G 16 0 0) p1 p2 p3 p1)) := rfl
  have hok : (((f_Mo_isKept (g_up G 16 0 0) p1) = 0 → True) ∧ (¬ (f_Mo_isKept (g_up G 16 0 0) p1) = 0 → (((f_Mo_within (g_up G 16 0 0) p2 0 263) = 0 → True) ∧ (¬ (f_Mo_within (g_up G 16 0 0) p2 0 263) = 0 → ok_Mo_when_L39 N (g_up G 16 0 0) p1 p2 p3 p1)))) := hok
  refine lv_aload_n hx hb d_Mo_when_0 rfl (lv_at hl 0 rfl) ?_
  refine lv_iconst (v := 0) hx hb d_Mo_when_1 (by decide) ?_
  refine gp_16_0 hC hB fl_Mo_43 d_Mo_when_2 (fun H locs hB => ?_)
  refine lv_aload_n hx hb d_Mo_when_5 rfl (lv_at hl 0 rfl) ?_
  refine lv_iload_n hx hb d_Mo_when_6 rfl (lv_at hl 1 rfl) ?_
  refine g_callVi (b := ad 16) (As := [.int p1]) (rest := []) hC hB (c_Mo_isKept l (g_up G 16 0 0) p1 O) rfl key_Mo_isKept rfl ins_Mo_isKept sel_Mo_isKept ml_Mo_97 (g_rec16 hB) rfl hl.1 ⟨Nat.le_of_ble_eq_true rfl, Nat.le_of_ble_eq_true rfl, Nat.le_of_ble_eq_true rfl, Nat.le_of_ble_eq_true rfl⟩ d_Mo_when_7 (fun H locs hB => ?_)
  refine lv_if_ne (tgt := 19) hx hb d_Mo_when_10 (by decide) (fun c1 => ?_) (fun c1 => ?_)
  · replace hf := hf.trans (if_neg c1)
    replace hok := hok.2 c1
    refine lv_iload_n hx hb d_Mo_when_19 rfl (lv_at hl 2 rfl) ?_
    refine lv_iconst (v := 0) hx hb d_Mo_when_20 (by decide) ?_
    refine lv_sipush (v := 263) hx hb d_Mo_when_21 (by decide) ?_
    refine g_callSi (As := [.int p2, .int 0, .int 263]) (rest := []) hC hB (c_Mo_within l (g_up G 16 0 0) p2 0 263 O) rfl key_Mo_within rfl sta_Mo_within ml_Mo_46 rfl hl.1 ⟨Nat.le_of_ble_eq_true rfl, Nat.le_of_ble_eq_true rfl, Nat.le_of_ble_eq_true rfl, Nat.le_of_ble_eq_true rfl⟩ d_Mo_when_24 (fun H locs hB => ?_)
    refine lv_if_ne (tgt := 36) hx hb d_Mo_when_27 (by decide) (fun c2 => ?_) (fun c2 => ?_)
    · replace hf := hf.trans (if_neg c2)
      replace hok := hok.2 c2
      refine lv_iload_n hx hb d_Mo_when_36 rfl (lv_at hl 1 rfl) ?_
      refine lv_istore (lv' := [(4, .int p1), (0, .ref (ad 16)), (1, .int p1), (2, .int p2), (3, .int p3)]) hx hb d_Mo_when_37 hl (by decide) rfl (fun ls hl => ?_)
      rw [hf]
      refine W.widen (k := 0) (n := 0) (by decide) (by decide) ?_
      exact w_Mo_when_L39 hC hr hlk N (g_up G 16 0 0) p1 p2 p3 p1 hok _ _ hB ls (lv_sub hl [1, 2, 3, 4, 0] rfl)
    · replace hf := hf.trans (if_pos c2)
      replace hok := hok.1 c2
      refine lv_aload_n hx hb d_Mo_when_30 rfl (lv_at hl 0 rfl) ?_
      refine lv_iconst (v := 2) hx hb d_Mo_when_31 (by decide) ?_
      refine g_callVi (b := ad 16) (As := [.int 2]) (rest := []) hC hB (c_Mo_fail l (g_up G 16 0 0) 2 O) rfl key_Mo_fail rfl ins_Mo_fail sel_Mo_fail ml_Mo_50 (g_rec16 hB) rfl hl.1 ⟨Nat.le_of_ble_eq_true rfl, Nat.le_of_ble_eq_true rfl, Nat.le_of_ble_eq_true rfl, Nat.le_of_ble_eq_true rfl⟩ d_Mo_when_32 (fun H locs hB => ?_)
      exact g_iret hC hB hr hlk (by decide) (by decide) (by rw [hf]) (by rw [hf]) d_Mo_when_35
  · replace hf := hf.trans (if_pos c1)
    replace hok := hok.1 c1
    refine lv_aload_n hx hb d_Mo_when_13 rfl (lv_at hl 0 rfl) ?_
    refine lv_iconst (v := 1) hx hb d_Mo_when_14 (by decide) ?_
    refine g_callVi (b := ad 16) (As := [.int 1]) (rest := []) hC hB (c_Mo_fail l (g_up G 16 0 0) 1 O) rfl key_Mo_fail rfl ins_Mo_fail sel_Mo_fail ml_Mo_50 (g_rec16 hB) rfl hl.1 ⟨Nat.le_of_ble_eq_true rfl, Nat.le_of_ble_eq_true rfl, Nat.le_of_ble_eq_true rfl, Nat.le_of_ble_eq_true rfl⟩ d_Mo_when_15 (fun H locs hB => ?_)
    exact g_iret hC hB hr hlk (by decide) (by decide) (by rw [hf]) (by rw [hf]) d_Mo_when_18
abbrev rm_Mo_isSame : Room := { frames := 2, cells := 0, slots := 0, locals := 29 }
def f_Mo_isSame_L4 : Nat → gT → Int32 → Int32 → Int32 → Int32
  | 0, G, x1, x2, x3 => 0
  | n + 1, G, x1, x2, x3 => (if (269 : Int32) ≤ x3 then x2 else (if x2 = 0 then x2 else (if (G 20 x3.toNatClampNeg) = (f_Mo_stateAt G x1 x3) then f_Mo_isSame_L4 n G x1 1 (x3 + 1) else f_Mo_isSame_L4 n G x1 0 (x3 + 1))))
def ok_Mo_isSame_L4 : Nat → gT → Int32 → Int32 → Int32 → Prop
  | 0, G, x1, x2, x3 => False
  | n + 1, G, x1, x2, x3 => (((269 : Int32) ≤ x3 → ((x2 = 0 ∨ x2 = 1) ∧ True)) ∧ (¬ (269 : Int32) ≤ x3 → ((x2 = 0 → ((x2 = 0 ∨ x2 = 1) ∧ True)) ∧ (¬ x2 = 0 → (vp_in x3 269 ∧ (ok_Mo_stateAt G x1 x3 ∧ (((G 20 x3.toNatClampNeg) = (f_Mo_stateAt G x1 x3) → ok_Mo_isSame_L4 n G x1 1 (x3 + 1)) ∧ (¬ (G 20 x3.toNatClampNeg) = (f_Mo_stateAt G x1 x3) → ok_Mo_isSame_L4 n G x1 0 (x3 + 1)))))))))
set_option maxHeartbeats 4000000 in
set_option maxRecDepth 100000 in
theorem w_Mo_isSame_L4 {p : Program} {l : Launch} {e : Env} {s0 s : State} {m : MethodId} {args : Array Value} {below : List Frame} {meth : Method} {c : Code} {D : va_G} {cI cL : ClassId} {ad : Nat → Nat} {O : Int64} (hC : CallFix p m c b_Mo_isSame 4 s args gtb R_Mo) (hr : meth.sig.returnType = some .boolean) (hlk : meth.locks = false) : ∀ (n : Nat) (G : gT) (x1 : Int32) (x2 : Int32) (x3 : Int32), ok_Mo_isSame_L4 n G x1 x2 x3 → ∀ (H : Heap) (locs : List Loc), gB s0 s D cI cL ad G O H locs → ∀ ls : Array Slot, lv_has ls 4 [(0, .ref (ad 16)), (1, .int x1), (2, .int x2), (3, .int x3)] → W p l e rm_Mo_isSame s m args below meth c H locs 0 0 (gE s0 below args s D cI cL ad 0 0 (.inl (some (.int (f_Mo_isSame_L4 n G x1 x2 x3)))) G O) (F0 m 4 ls []) := by
  have hx := hC.1
  have hb := hC.2.1
  intro n
  induction n with
  | zero =>
    intro G x1 x2 x3 hok
    exact absurd hok (fun h => h)
  | succ n ih =>
    intro G x1 x2 x3 hok H locs hB ls hl
    have hf : f_Mo_isSame_L4 (n + 1) G x1 x2 x3 = (if (269 : Int32) ≤ x3 then x2 else (if x2 = 0 then x2 else (if (G 20 x3.toNatClampNeg) = (f_Mo_stateAt G x1 x3) then f_Mo_isSame_L4 n G x1 1 (x3 + 1) else f_Mo_isSame_L4 n G x1 0 (x3 + 1)))) := rfl
    have hok : (((269 : Int32) ≤ x3 → ((x2 = 0 ∨ x2 = 1) ∧ True)) ∧ (¬ (269 : Int32) ≤ x3 → ((x2 = 0 → ((x2 = 0 ∨ x2 = 1) ∧ True)) ∧ (¬ x2 = 0 → (vp_in x3 269 ∧ (ok_Mo_stateAt G x1 x3 ∧ (((G 20 x3.toNatClampNeg) = (f_Mo_stateAt G x1 x3) → ok_Mo_isSame_L4 n G x1 1 (x3 + 1)) ∧ (¬ (G 20 x3.toNatClampNeg) = (f_Mo_stateAt G x1 x3) → ok_Mo_isSame_L4 n G x1 0 (x3 + 1))))))))) := hok
    refine lv_iload_n hx hb d_Mo_isSame_4 rfl (lv_at hl 3 rfl) ?_
    refine lv_sipush (v := 269) hx hb d_Mo_isSame_5 (by decide) ?_
    refine lv_icmp_ge (tgt := 42) hx hb d_Mo_isSame_8 (by decide) (fun c1 => ?_) (fun c1 => ?_)
    · replace hf := hf.trans (if_pos c1)
      replace hok := hok.1 c1
      refine lv_iload_n hx hb d_Mo_isSame_42 rfl (lv_at hl 2 rfl) ?_
      exact g_zret hC hB hr hlk (by decide) (by decide) hok.1 (by rw [hf]) rfl d_Mo_isSame_43
    · replace hf := hf.trans (if_neg c1)
      replace hok := hok.2 c1
      refine lv_iload_n hx hb d_Mo_isSame_11 rfl (lv_at hl 2 rfl) ?_
      refine lv_if_eq (tgt := 42) hx hb d_Mo_isSame_12 (by decide) (fun c2 => ?_) (fun c2 => ?_)
      · replace hf := hf.trans (if_pos c2)
        replace hok := hok.1 c2
        refine lv_iload_n hx hb d_Mo_isSame_42 rfl (lv_at hl 2 rfl) ?_
        exact g_zret hC hB hr hlk (by decide) (by decide) hok.1 (by rw [hf]) rfl d_Mo_isSame_43
      · replace hf := hf.trans (if_neg c2)
        replace hok := hok.2 c2
        refine lv_aload_n hx hb d_Mo_isSame_15 rfl (lv_at hl 0 rfl) ?_
        refine gr_16_7 hC hB fl_Mo_19 d_Mo_isSame_16 ?_
        refine lv_iload_n hx hb d_Mo_isSame_19 rfl (lv_at hl 3 rfl) ?_
        refine ga_20 (x := (G 20 x3.toNatClampNeg)) hC hB hok.1 rfl d_Mo_isSame_20 ?_
        replace hok := hok.2
        refine lv_aload_n hx hb d_Mo_isSame_21 rfl (lv_at hl 0 rfl) ?_
        refine lv_iload_n hx hb d_Mo_isSame_22 rfl (lv_at hl 1 rfl) ?_
        refine lv_iload_n hx hb d_Mo_isSame_23 rfl (lv_at hl 3 rfl) ?_
        refine g_callVi (b := ad 16) (As := [.int x1, .int x3]) (rest := [.int (G 20 x3.toNatClampNeg)]) hC hB (c_Mo_stateAt l G x1 x3 O hok.1) rfl key_Mo_stateAt rfl ins_Mo_stateAt sel_Mo_stateAt ml_Mo_101 (g_rec16 hB) rfl hl.1 ⟨Nat.le_of_ble_eq_true rfl, Nat.le_of_ble_eq_true rfl, Nat.le_of_ble_eq_true rfl, Nat.le_of_ble_eq_true rfl⟩ d_Mo_isSame_24 (fun H locs hB => ?_)
        replace hok := hok.2
        refine lv_icmp_ne (tgt := 34) hx hb d_Mo_isSame_27 (by decide) (fun c3 => ?_) (fun c3 => ?_)
        · replace hf := hf.trans (if_neg c3)
          replace hok := hok.2 c3
          refine lv_iconst (v := 0) hx hb d_Mo_isSame_34 (by decide) ?_
          refine lv_istore_n (lv' := [(2, .int 0), (0, .ref (ad 16)), (1, .int x1), (3, .int x3)]) hx hb d_Mo_isSame_35 rfl hl (by decide) rfl (fun ls hl => ?_)
          refine lv_iinc (v := x3 + 1) (lv' := [(3, .int (x3 + 1)), (2, .int 0), (0, .ref (ad 16)), (1, .int x1)]) hx hb d_Mo_isSame_36 hl (k := 3) rfl rfl (by decide) rfl (fun ls hl => ?_)
          refine lv_goto (tgt := 4) hx hb d_Mo_isSame_39 (by decide) ?_
          rw [hf]
          exact ih G x1 0 (x3 + 1) hok _ _ hB ls (lv_sub hl [2, 3, 1, 0] rfl)
        · replace hf := hf.trans (if_pos c3)
          replace hok := hok.1 c3
          refine lv_iconst (v := 1) hx hb d_Mo_isSame_30 (by decide) ?_
          refine lv_goto (tgt := 35) hx hb d_Mo_isSame_31 (by decide) ?_
          refine lv_istore_n (lv' := [(2, .int 1), (0, .ref (ad 16)), (1, .int x1), (3, .int x3)]) hx hb d_Mo_isSame_35 rfl hl (by decide) rfl (fun ls hl => ?_)
          refine lv_iinc (v := x3 + 1) (lv' := [(3, .int (x3 + 1)), (2, .int 1), (0, .ref (ad 16)), (1, .int x1)]) hx hb d_Mo_isSame_36 hl (k := 3) rfl rfl (by decide) rfl (fun ls hl => ?_)
          refine lv_goto (tgt := 4) hx hb d_Mo_isSame_39 (by decide) ?_
          rw [hf]
          exact ih G x1 1 (x3 + 1) hok _ _ hB ls (lv_sub hl [2, 3, 1, 0] rfl)
def f_Mo_isSame (N : Nat) (G : gT) (p1 : Int32) : Int32 := f_Mo_isSame_L4 N G p1 1 0
def ok_Mo_isSame (N : Nat) (G : gT) (p1 : Int32) : Prop := ok_Mo_isSame_L4 N G p1 1 0
set_option maxHeartbeats 4000000 in
set_option maxRecDepth 100000 in
theorem c_Mo_isSame (l : Launch) (N : Nat) (G : gT) (p1 : Int32) (O : Int64) (hok : ok_Mo_isSame N G p1) : gMet l y_Mo_isSame w_Mo_isSame rm_Mo_isSame (fun ad => [.ref (ad 16), .int p1]) G O (.inl (some (.int (f_Mo_isSame N G p1)))) G O := by
  refine g_body (by decide) (gCode_of _ _ _ _) (fun ad => by simp [lg_sl, Value.category]) ?_
  intro p e s0 s m args below meth c D cI cL ad hC hr hlk htb hB ls hl
  have hC : CallFix p m c b_Mo_isSame 4 s args gtb R_Mo := hC
  have hl : lv_has ls 4 [(0, .ref (ad 16)), (1, .int p1)] := hl
  have hx := hC.1
  have hb := hC.2.1
  have hf : f_Mo_isSame N G p1 = f_Mo_isSame_L4 N G p1 1 0 := rfl
  have hok : ok_Mo_isSame_L4 N G p1 1 0 := hok
  refine lv_iconst (v := 1) hx hb d_Mo_isSame_0 (by decide) ?_
  refine lv_istore_n (lv' := [(2, .int 1), (0, .ref (ad 16)), (1, .int p1)]) hx hb d_Mo_isSame_1 rfl hl (by decide) rfl (fun ls hl => ?_)
  refine lv_iconst (v := 0) hx hb d_Mo_isSame_2 (by decide) ?_
  refine lv_istore_n (lv' := [(3, .int 0), (2, .int 1), (0, .ref (ad 16)), (1, .int p1)]) hx hb d_Mo_isSame_3 rfl hl (by decide) rfl (fun ls hl => ?_)
  rw [hf]
  refine W.widen (k := 0) (n := 0) (by decide) (by decide) ?_
  exact w_Mo_isSame_L4 hC hr hlk N G p1 1 0 hok _ _ hB ls (lv_sub hl [2, 3, 1, 0] rfl)
abbrev rm_Mo_replay : Room := { frames := 3, cells := 0, slots := 0, locals := 44 }
def f_Mo_replay_L42 (N : Nat) : Nat → gT → Int32 → Int32 × gT
  | 0, G, x1 => (0, G)
  | n + 1, G, x1 => (if (G 16 11) < x1 then ((-1), G) else (if (0 : Int32) < (G 20 268) then (x1, G) else (if ((f_Mo_advance_20 G (G 19 265)).1) = 0 then (x1, (f_Mo_advance_20 G (G 19 265)).2) else (if (f_Mo_isSame N ((f_Mo_advance_20 G (G 19 265)).2) x1) = 0 then (x1, (f_Mo_advance_20 G (G 19 265)).2) else f_Mo_replay_L42 N n ((f_Mo_advance_20 G (G 19 265)).2) (x1 + 1)))))
def ok_Mo_replay_L42 (N : Nat) : Nat → gT → Int32 → Prop
  | 0, G, x1 => False
  | n + 1, G, x1 => (((G 16 11) < x1 → True) ∧ (¬ (G 16 11) < x1 → (((0 : Int32) < (G 20 268) → True) ∧ (¬ (0 : Int32) < (G 20 268) → (ok_Mo_advance_20 G (G 19 265) ∧ ((((f_Mo_advance_20 G (G 19 265)).1) = 0 → True) ∧ (¬ ((f_Mo_advance_20 G (G 19 265)).1) = 0 → (ok_Mo_isSame N ((f_Mo_advance_20 G (G 19 265)).2) x1 ∧ (((f_Mo_isSame N ((f_Mo_advance_20 G (G 19 265)).2) x1) = 0 → True) ∧ (¬ (f_Mo_isSame N ((f_Mo_advance_20 G (G 19 265)).2) x1) = 0 → ok_Mo_replay_L42 N n ((f_Mo_advance_20 G (G 19 265)).2) (x1 + 1)))))))))))
set_option maxHeartbeats 4000000 in
set_option maxRecDepth 100000 in
theorem w_Mo_replay_L42 {p : Program} {l : Launch} {e : Env} {s0 s : State} {m : MethodId} {args : Array Value} {below : List Frame} {meth : Method} {c : Code} {D : va_G} {cI cL : ClassId} {ad : Nat → Nat} {O : Int64} {N : Nat} (hC : CallFix p m c b_Mo_replay 2 s args gtb R_Mo) (hr : meth.sig.returnType = some .int) (hlk : meth.locks = false) : ∀ (n : Nat) (G : gT) (x1 : Int32), ok_Mo_replay_L42 N n G x1 → ∀ (H : Heap) (locs : List Loc), gB s0 s D cI cL ad G O H locs → ∀ ls : Array Slot, lv_has ls 2 [(0, .ref (ad 16)), (1, .int x1)] → W p l e rm_Mo_replay s m args below meth c H locs 0 0 (gE s0 below args s D cI cL ad 0 0 (.inl (some (.int (f_Mo_replay_L42 N n G x1).1))) ((f_Mo_replay_L42 N n G x1).2) O) (F0 m 42 ls []) := by
  have hx := hC.1
  have hb := hC.2.1
  intro n
  induction n with
  | zero =>
    intro G x1 hok
    exact absurd hok (fun h => h)
  | succ n ih =>
    intro G x1 hok H locs hB ls hl
    have hf : f_Mo_replay_L42 N (n + 1) G x1 = (if (G 16 11) < x1 then ((-1), G) else (if (0 : Int32) < (G 20 268) then (x1, G) else (if ((f_Mo_advance_20 G (G 19 265)).1) = 0 then (x1, (f_Mo_advance_20 G (G 19 265)).2) else (if (f_Mo_isSame N ((f_Mo_advance_20 G (G 19 265)).2) x1) = 0 then (x1, (f_Mo_advance_20 G (G 19 265)).2) else f_Mo_replay_L42 N n ((f_Mo_advance_20 G (G 19 265)).2) (x1 + 1))))) := rfl
    have hok : (((G 16 11) < x1 → True) ∧ (¬ (G 16 11) < x1 → (((0 : Int32) < (G 20 268) → True) ∧ (¬ (0 : Int32) < (G 20 268) → (ok_Mo_advance_20 G (G 19 265) ∧ ((((f_Mo_advance_20 G (G 19 265)).1) = 0 → True) ∧ (¬ ((f_Mo_advance_20 G (G 19 265)).1) = 0 → (ok_Mo_isSame N ((f_Mo_advance_20 G (G 19 265)).2) x1 ∧ (((f_Mo_isSame N ((f_Mo_advance_20 G (G 19 265)).2) x1) = 0 → True) ∧ (¬ (f_Mo_isSame N ((f_Mo_advance_20 G (G 19 265)).2) x1) = 0 → ok_Mo_replay_L42 N n ((f_Mo_advance_20 G (G 19 265)).2) (x1 + 1))))))))))) := hok
    refine lv_iload_n hx hb d_Mo_replay_42 rfl (lv_at hl 1 rfl) ?_
    refine lv_aload_n hx hb d_Mo_replay_43 rfl (lv_at hl 0 rfl) ?_
    refine gg_16_11 (x := (G 16 11)) hC hB rfl fl_Mo_57 d_Mo_replay_44 ?_
    refine lv_icmp_gt (tgt := 96) hx hb d_Mo_replay_47 (by decide) (fun c2 => ?_) (fun c2 => ?_)
    · replace hf := hf.trans (if_pos c2)
      replace hok := hok.1 c2
      refine lv_iconst (v := (-1)) hx hb d_Mo_replay_96 (by decide) ?_
      exact g_iret hC hB hr hlk (by decide) (by decide) (by rw [hf]) (by rw [hf]) d_Mo_replay_97
    · replace hf := hf.trans (if_neg c2)
      replace hok := hok.2 c2
      refine lv_aload_n hx hb d_Mo_replay_50 rfl (lv_at hl 0 rfl) ?_
      refine gr_16_7 hC hB fl_Mo_19 d_Mo_replay_51 ?_
      refine lv_sipush (v := 268) hx hb d_Mo_replay_54 (by decide) ?_
      refine ga_20 (x := (G 20 268)) hC hB (by unfold vp_in; decide) rfl d_Mo_replay_57 ?_
      refine lv_if_gt (tgt := 88) hx hb d_Mo_replay_58 (by decide) (fun c3 => ?_) (fun c3 => ?_)
      · replace hf := hf.trans (if_pos c3)
        replace hok := hok.1 c3
        refine lv_iload_n hx hb d_Mo_replay_88 rfl (lv_at hl 1 rfl) ?_
        exact g_iret hC hB hr hlk (by decide) (by decide) (by rw [hf]) (by rw [hf]) d_Mo_replay_89
      · replace hf := hf.trans (if_neg c3)
        replace hok := hok.2 c3
        refine lv_aload_n hx hb d_Mo_replay_61 rfl (lv_at hl 0 rfl) ?_
        refine lv_aload_n hx hb d_Mo_replay_62 rfl (lv_at hl 0 rfl) ?_
        refine gr_16_7 hC hB fl_Mo_19 d_Mo_replay_63 ?_
        refine lv_aload_n hx hb d_Mo_replay_66 rfl (lv_at hl 0 rfl) ?_
        refine gr_16_6 hC hB fl_Mo_16 d_Mo_replay_67 ?_
        refine lv_sipush (v := 265) hx hb d_Mo_replay_70 (by decide) ?_
        refine ga_19 (x := (G 19 265)) hC hB (by unfold vp_in; decide) rfl d_Mo_replay_73 ?_
        refine g_callVi (b := ad 16) (As := [.ref (ad 20), .int (G 19 265)]) (rest := []) hC hB (c_Mo_advance_20 l G (G 19 265) O hok.1) rfl key_Mo_advance rfl ins_Mo_advance sel_Mo_advance ml_Mo_82 (g_rec16 hB) rfl hl.1 ⟨Nat.le_of_ble_eq_true rfl, Nat.le_of_ble_eq_true rfl, Nat.le_of_ble_eq_true rfl, Nat.le_of_ble_eq_true rfl⟩ d_Mo_replay_74 (fun H locs hB => ?_)
        replace hok := hok.2
        refine lv_if_eq (tgt := 88) hx hb d_Mo_replay_77 (by decide) (fun c4 => ?_) (fun c4 => ?_)
        · replace hf := hf.trans (if_pos c4)
          replace hok := hok.1 c4
          refine lv_iload_n hx hb d_Mo_replay_88 rfl (lv_at hl 1 rfl) ?_
          exact g_iret hC hB hr hlk (by decide) (by decide) (by rw [hf]) (by rw [hf]) d_Mo_replay_89
        · replace hf := hf.trans (if_neg c4)
          replace hok := hok.2 c4
          refine lv_aload_n hx hb d_Mo_replay_80 rfl (lv_at hl 0 rfl) ?_
          refine lv_iload_n hx hb d_Mo_replay_81 rfl (lv_at hl 1 rfl) ?_
          refine g_callVi (b := ad 16) (As := [.int x1]) (rest := []) hC hB (c_Mo_isSame l N ((f_Mo_advance_20 G (G 19 265)).2) x1 O hok.1) rfl key_Mo_isSame rfl ins_Mo_isSame sel_Mo_isSame ml_Mo_104 (g_rec16 hB) rfl hl.1 ⟨Nat.le_of_ble_eq_true rfl, Nat.le_of_ble_eq_true rfl, Nat.le_of_ble_eq_true rfl, Nat.le_of_ble_eq_true rfl⟩ d_Mo_replay_82 (fun H locs hB => ?_)
          replace hok := hok.2
          refine lv_if_ne (tgt := 90) hx hb d_Mo_replay_85 (by decide) (fun c5 => ?_) (fun c5 => ?_)
          · replace hf := hf.trans (if_neg c5)
            replace hok := hok.2 c5
            refine lv_iinc (v := x1 + 1) (lv' := [(1, .int (x1 + 1)), (0, .ref (ad 16))]) hx hb d_Mo_replay_90 hl (k := 1) rfl rfl (by decide) rfl (fun ls hl => ?_)
            refine lv_goto (tgt := 42) hx hb d_Mo_replay_93 (by decide) ?_
            rw [hf]
            exact ih ((f_Mo_advance_20 G (G 19 265)).2) (x1 + 1) hok _ _ hB ls (lv_sub hl [1, 0] rfl)
          · replace hf := hf.trans (if_pos c5)
            replace hok := hok.1 c5
            refine lv_iload_n hx hb d_Mo_replay_88 rfl (lv_at hl 1 rfl) ?_
            exact g_iret hC hB hr hlk (by decide) (by decide) (by rw [hf]) (by rw [hf]) d_Mo_replay_89
def f_Mo_replay_L7 (N : Nat) : Nat → gT → Int32 → Int32 × gT
  | 0, G, x1 => (0, G)
  | n + 1, G, x1 => (if (269 : Int32) ≤ x1 then f_Mo_replay_L42 N N G ((G 16 12) + (1 : Int32)) else f_Mo_replay_L7 N n (g_up G 20 x1.toNatClampNeg (f_Mo_stateAt G (G 16 12) x1)) (x1 + 1))
def ok_Mo_replay_L7 (N : Nat) : Nat → gT → Int32 → Prop
  | 0, G, x1 => False
  | n + 1, G, x1 => (((269 : Int32) ≤ x1 → ok_Mo_replay_L42 N N G ((G 16 12) + (1 : Int32))) ∧ (¬ (269 : Int32) ≤ x1 → (ok_Mo_stateAt G (G 16 12) x1 ∧ (vp_in x1 269 ∧ ok_Mo_replay_L7 N n (g_up G 20 x1.toNatClampNeg (f_Mo_stateAt G (G 16 12) x1)) (x1 + 1)))))
set_option maxHeartbeats 4000000 in
set_option maxRecDepth 100000 in
theorem w_Mo_replay_L7 {p : Program} {l : Launch} {e : Env} {s0 s : State} {m : MethodId} {args : Array Value} {below : List Frame} {meth : Method} {c : Code} {D : va_G} {cI cL : ClassId} {ad : Nat → Nat} {O : Int64} {N : Nat} (hC : CallFix p m c b_Mo_replay 2 s args gtb R_Mo) (hr : meth.sig.returnType = some .int) (hlk : meth.locks = false) : ∀ (n : Nat) (G : gT) (x1 : Int32), ok_Mo_replay_L7 N n G x1 → ∀ (H : Heap) (locs : List Loc), gB s0 s D cI cL ad G O H locs → ∀ ls : Array Slot, lv_has ls 2 [(0, .ref (ad 16)), (1, .int x1)] → W p l e rm_Mo_replay s m args below meth c H locs 0 0 (gE s0 below args s D cI cL ad 0 0 (.inl (some (.int (f_Mo_replay_L7 N n G x1).1))) ((f_Mo_replay_L7 N n G x1).2) O) (F0 m 7 ls []) := by
  have hx := hC.1
  have hb := hC.2.1
  intro n
  induction n with
  | zero =>
    intro G x1 hok
    exact absurd hok (fun h => h)
  | succ n ih =>
    intro G x1 hok H locs hB ls hl
    have hf : f_Mo_replay_L7 N (n + 1) G x1 = (if (269 : Int32) ≤ x1 then f_Mo_replay_L42 N N G ((G 16 12) + (1 : Int32)) else f_Mo_replay_L7 N n (g_up G 20 x1.toNatClampNeg (f_Mo_stateAt G (G 16 12) x1)) (x1 + 1)) := rfl
    have hok : (((269 : Int32) ≤ x1 → ok_Mo_replay_L42 N N G ((G 16 12) + (1 : Int32))) ∧ (¬ (269 : Int32) ≤ x1 → (ok_Mo_stateAt G (G 16 12) x1 ∧ (vp_in x1 269 ∧ ok_Mo_replay_L7 N n (g_up G 20 x1.toNatClampNeg (f_Mo_stateAt G (G 16 12) x1)) (x1 + 1))))) := hok
    refine lv_iload_n hx hb d_Mo_replay_7 rfl (lv_at hl 1 rfl) ?_
    refine lv_sipush (v := 269) hx hb d_Mo_replay_8 (by decide) ?_
    refine lv_icmp_ge (tgt := 35) hx hb d_Mo_replay_11 (by decide) (fun c1 => ?_) (fun c1 => ?_)
    · replace hf := hf.trans (if_pos c1)
      replace hok := hok.1 c1
      refine lv_aload_n hx hb d_Mo_replay_35 rfl (lv_at hl 0 rfl) ?_
      refine gg_16_12 (x := (G 16 12)) hC hB rfl fl_Mo_66 d_Mo_replay_36 ?_
      refine lv_iconst (v := 1) hx hb d_Mo_replay_39 (by decide) ?_
      refine lv_iadd hx hb d_Mo_replay_40 ?_
      refine lv_istore_n (lv' := [(1, .int ((G 16 12) + (1 : Int32))), (0, .ref (ad 16))]) hx hb d_Mo_replay_41 rfl hl (by decide) rfl (fun ls hl => ?_)
      rw [hf]
      refine W.widen (k := 0) (n := 0) (by decide) (by decide) ?_
      exact w_Mo_replay_L42 hC hr hlk N G ((G 16 12) + (1 : Int32)) hok _ _ hB ls (lv_sub hl [1, 0] rfl)
    · replace hf := hf.trans (if_neg c1)
      replace hok := hok.2 c1
      refine lv_aload_n hx hb d_Mo_replay_14 rfl (lv_at hl 0 rfl) ?_
      refine gr_16_7 hC hB fl_Mo_19 d_Mo_replay_15 ?_
      refine lv_iload_n hx hb d_Mo_replay_18 rfl (lv_at hl 1 rfl) ?_
      refine lv_aload_n hx hb d_Mo_replay_19 rfl (lv_at hl 0 rfl) ?_
      refine lv_aload_n hx hb d_Mo_replay_20 rfl (lv_at hl 0 rfl) ?_
      refine gg_16_12 (x := (G 16 12)) hC hB rfl fl_Mo_66 d_Mo_replay_21 ?_
      refine lv_iload_n hx hb d_Mo_replay_24 rfl (lv_at hl 1 rfl) ?_
      refine g_callVi (b := ad 16) (As := [.int (G 16 12), .int x1]) (rest := [.int x1, .ref (ad 20)]) hC hB (c_Mo_stateAt l G (G 16 12) x1 O hok.1) rfl key_Mo_stateAt rfl ins_Mo_stateAt sel_Mo_stateAt ml_Mo_101 (g_rec16 hB) rfl hl.1 ⟨Nat.le_of_ble_eq_true rfl, Nat.le_of_ble_eq_true rfl, Nat.le_of_ble_eq_true rfl, Nat.le_of_ble_eq_true rfl⟩ d_Mo_replay_25 (fun H locs hB => ?_)
      replace hok := hok.2
      refine gs_20 hC hB hok.1 d_Mo_replay_28 (fun H locs hB => ?_)
      replace hok := hok.2
      refine lv_iinc (v := x1 + 1) (lv' := [(1, .int (x1 + 1)), (0, .ref (ad 16))]) hx hb d_Mo_replay_29 hl (k := 1) rfl rfl (by decide) rfl (fun ls hl => ?_)
      refine lv_goto (tgt := 7) hx hb d_Mo_replay_32 (by decide) ?_
      rw [hf]
      exact ih (g_up G 20 x1.toNatClampNeg (f_Mo_stateAt G (G 16 12) x1)) (x1 + 1) hok _ _ hB ls (lv_sub hl [1, 0] rfl)
def f_Mo_replay (N : Nat) (G : gT) : Int32 × gT := f_Mo_replay_L7 N N (g_up G 16 0 0) 0
def ok_Mo_replay (N : Nat) (G : gT) : Prop := ok_Mo_replay_L7 N N (g_up G 16 0 0) 0
set_option maxHeartbeats 4000000 in
set_option maxRecDepth 100000 in
theorem c_Mo_replay (l : Launch) (N : Nat) (G : gT) (O : Int64) (hok : ok_Mo_replay N G) : gMet l y_Mo_replay w_Mo_replay rm_Mo_replay (fun ad => [.ref (ad 16)]) G O (.inl (some (.int (f_Mo_replay N G).1))) ((f_Mo_replay N G).2) O := by
  refine g_body (by decide) (gCode_of _ _ _ _) (fun ad => by simp [lg_sl, Value.category]) ?_
  intro p e s0 s m args below meth c D cI cL ad hC hr hlk htb hB ls hl
  have hC : CallFix p m c b_Mo_replay 2 s args gtb R_Mo := hC
  have hl : lv_has ls 2 [(0, .ref (ad 16))] := hl
  have hx := hC.1
  have hb := hC.2.1
  have hf : f_Mo_replay N G = f_Mo_replay_L7 N N (g_up G 16 0 0) 0 := rfl
  have hok : ok_Mo_replay_L7 N N (g_up G 16 0 0) 0 := hok
  refine lv_aload_n hx hb d_Mo_replay_0 rfl (lv_at hl 0 rfl) ?_
  refine lv_iconst (v := 0) hx hb d_Mo_replay_1 (by decide) ?_
  refine gp_16_0 hC hB fl_Mo_43 d_Mo_replay_2 (fun H locs hB => ?_)
  refine lv_iconst (v := 0) hx hb d_Mo_replay_5 (by decide) ?_
  refine lv_istore_n (lv' := [(1, .int 0), (0, .ref (ad 16))]) hx hb d_Mo_replay_6 rfl hl (by decide) rfl (fun ls hl => ?_)
  rw [hf]
  refine W.widen (k := 0) (n := 0) (by decide) (by decide) ?_
  exact w_Mo_replay_L7 hC hr hlk N (g_up G 16 0 0) 0 hok _ _ hB ls (lv_sub hl [1, 0] rfl)
abbrev rm_Mo_count : Room := { frames := 2, cells := 0, slots := 0, locals := 28 }
def f_Mo_count_L120 (N : Nat) : Nat → gT → Int32 → Int32 → Int32 → Int32 × gT
  | 0, G, x1, x2, x3 => (0, G)
  | n + 1, G, x1, x2, x3 => (if (G 16 11) < x3 then (x2, G) else (if (x3 - x3 / (G 16 2) * (G 16 2)) = 0 then f_Mo_count_L120 N n G x1 (x2 + (1 : Int32)) (x3 + 1) else f_Mo_count_L120 N n G x1 (x2 + (0 : Int32)) (x3 + 1)))
def ok_Mo_count_L120 (N : Nat) : Nat → gT → Int32 → Int32 → Int32 → Prop
  | 0, G, x1, x2, x3 => False
  | n + 1, G, x1, x2, x3 => (((G 16 11) < x3 → True) ∧ (¬ (G 16 11) < x3 → (¬ (G 16 2) = 0 ∧ (((x3 - x3 / (G 16 2) * (G 16 2)) = 0 → ok_Mo_count_L120 N n G x1 (x2 + (1 : Int32)) (x3 + 1)) ∧ (¬ (x3 - x3 / (G 16 2) * (G 16 2)) = 0 → ok_Mo_count_L120 N n G x1 (x2 + (0 : Int32)) (x3 + 1))))))
set_option maxHeartbeats 4000000 in
set_option maxRecDepth 100000 in
theorem w_Mo_count_L120 {p : Program} {l : Launch} {e : Env} {s0 s : State} {m : MethodId} {args : Array Value} {below : List Frame} {meth : Method} {c : Code} {D : va_G} {cI cL : ClassId} {ad : Nat → Nat} {O : Int64} {N : Nat} (hC : CallFix p m c b_Mo_count 4 s args gtb R_Mo) (hr : meth.sig.returnType = some .int) (hlk : meth.locks = false) : ∀ (n : Nat) (G : gT) (x1 : Int32) (x2 : Int32) (x3 : Int32), ok_Mo_count_L120 N n G x1 x2 x3 → ∀ (H : Heap) (locs : List Loc), gB s0 s D cI cL ad G O H locs → ∀ ls : Array Slot, lv_has ls 4 [(0, .ref (ad 16)), (1, .int x1), (2, .int x2), (3, .int x3)] → W p l e rm_Mo_count s m args below meth c H locs 0 0 (gE s0 below args s D cI cL ad 0 0 (.inl (some (.int (f_Mo_count_L120 N n G x1 x2 x3).1))) ((f_Mo_count_L120 N n G x1 x2 x3).2) O) (F0 m 120 ls []) := by
  have hx := hC.1
  have hb := hC.2.1
  intro n
  induction n with
  | zero =>
    intro G x1 x2 x3 hok
    exact absurd hok (fun h => h)
  | succ n ih =>
    intro G x1 x2 x3 hok H locs hB ls hl
    have hf : f_Mo_count_L120 N (n + 1) G x1 x2 x3 = (if (G 16 11) < x3 then (x2, G) else (if (x3 - x3 / (G 16 2) * (G 16 2)) = 0 then f_Mo_count_L120 N n G x1 (x2 + (1 : Int32)) (x3 + 1) else f_Mo_count_L120 N n G x1 (x2 + (0 : Int32)) (x3 + 1))) := rfl
    have hok : (((G 16 11) < x3 → True) ∧ (¬ (G 16 11) < x3 → (¬ (G 16 2) = 0 ∧ (((x3 - x3 / (G 16 2) * (G 16 2)) = 0 → ok_Mo_count_L120 N n G x1 (x2 + (1 : Int32)) (x3 + 1)) ∧ (¬ (x3 - x3 / (G 16 2) * (G 16 2)) = 0 → ok_Mo_count_L120 N n G x1 (x2 + (0 : Int32)) (x3 + 1)))))) := hok
    refine lv_iload_n hx hb d_Mo_count_120 rfl (lv_at hl 3 rfl) ?_
    refine lv_aload_n hx hb d_Mo_count_121 rfl (lv_at hl 0 rfl) ?_
    refine gg_16_11 (x := (G 16 11)) hC hB rfl fl_Mo_57 d_Mo_count_122 ?_
    refine lv_icmp_gt (tgt := 151) hx hb d_Mo_count_125 (by decide) (fun c5 => ?_) (fun c5 => ?_)
    · replace hf := hf.trans (if_pos c5)
      replace hok := hok.1 c5
      refine lv_iload_n hx hb d_Mo_count_151 rfl (lv_at hl 2 rfl) ?_
      exact g_iret hC hB hr hlk (by decide) (by decide) (by rw [hf]) (by rw [hf]) d_Mo_count_152
    · replace hf := hf.trans (if_neg c5)
      replace hok := hok.2 c5
      refine lv_iload_n hx hb d_Mo_count_128 rfl (lv_at hl 2 rfl) ?_
      refine lv_iload_n hx hb d_Mo_count_129 rfl (lv_at hl 3 rfl) ?_
      refine lv_aload_n hx hb d_Mo_count_130 rfl (lv_at hl 0 rfl) ?_
      refine gg_16_2 (x := (G 16 2)) hC hB rfl fl_Mo_40 d_Mo_count_131 ?_
      refine lv_irem hx hb d_Mo_count_134 hok.1 ?_
      replace hok := hok.2
      refine lv_if_ne (tgt := 142) hx hb d_Mo_count_135 (by decide) (fun c6 => ?_) (fun c6 => ?_)
      · replace hf := hf.trans (if_neg c6)
        replace hok := hok.2 c6
        refine lv_iconst (v := 0) hx hb d_Mo_count_142 (by decide) ?_
        refine lv_iadd hx hb d_Mo_count_143 ?_
        refine lv_istore_n (lv' := [(2, .int (x2 + (0 : Int32))), (0, .ref (ad 16)), (1, .int x1), (3, .int x3)]) hx hb d_Mo_count_144 rfl hl (by decide) rfl (fun ls hl => ?_)
        refine lv_iinc (v := x3 + 1) (lv' := [(3, .int (x3 + 1)), (2, .int (x2 + (0 : Int32))), (0, .ref (ad 16)), (1, .int x1)]) hx hb d_Mo_count_145 hl (k := 3) rfl rfl (by decide) rfl (fun ls hl => ?_)
        refine lv_goto (tgt := 120) hx hb d_Mo_count_148 (by decide) ?_
        rw [hf]
        exact ih G x1 (x2 + (0 : Int32)) (x3 + 1) hok _ _ hB ls (lv_sub hl [2, 3, 1, 0] rfl)
      · replace hf := hf.trans (if_pos c6)
        replace hok := hok.1 c6
        refine lv_iconst (v := 1) hx hb d_Mo_count_138 (by decide) ?_
        refine lv_goto (tgt := 143) hx hb d_Mo_count_139 (by decide) ?_
        refine lv_iadd hx hb d_Mo_count_143 ?_
        refine lv_istore_n (lv' := [(2, .int (x2 + (1 : Int32))), (0, .ref (ad 16)), (1, .int x1), (3, .int x3)]) hx hb d_Mo_count_144 rfl hl (by decide) rfl (fun ls hl => ?_)
        refine lv_iinc (v := x3 + 1) (lv' := [(3, .int (x3 + 1)), (2, .int (x2 + (1 : Int32))), (0, .ref (ad 16)), (1, .int x1)]) hx hb d_Mo_count_145 hl (k := 3) rfl rfl (by decide) rfl (fun ls hl => ?_)
        refine lv_goto (tgt := 120) hx hb d_Mo_count_148 (by decide) ?_
        rw [hf]
        exact ih G x1 (x2 + (1 : Int32)) (x3 + 1) hok _ _ hB ls (lv_sub hl [2, 3, 1, 0] rfl)
def f_Mo_count (N : Nat) (G : gT) (p1 : Int32) : Int32 × gT := (if (f_Mo_within (g_up G 16 0 0) p1 0 6) = 0 then ((-1), (g_up G 16 0 0)) else (if (3 : Int32) ≤ p1 then (if (5 : Int32) ≤ p1 then (if p1 = 6 then (if (G 19 268) ≤ 0 then (if (f_Mo_waits (g_up G 16 0 0)) = 0 then (0, (g_up G 16 0 0)) else (3, (g_up G 16 0 0))) else ((G 19 268), (g_up G 16 0 0))) else f_Mo_count_L120 N N (g_up G 16 0 0) p1 0 (G 16 12)) else (if p1 = 3 then ((G 16 13), (g_up G 16 0 0)) else ((G 16 4), (g_up G 16 0 0)))) else (if p1 = 0 then ((G 16 11), (g_up G 16 0 0)) else (if p1 = 1 then ((G 16 12), (g_up G 16 0 0)) else ((f_Mo_allCosts N (g_up G 16 0 0)), (g_up G 16 0 0))))))
def ok_Mo_count (N : Nat) (G : gT) (p1 : Int32) : Prop := (((f_Mo_within (g_up G 16 0 0) p1 0 6) = 0 → True) ∧ (¬ (f_Mo_within (g_up G 16 0 0) p1 0 6) = 0 → (((3 : Int32) ≤ p1 → (((5 : Int32) ≤ p1 → ((p1 = 6 → (((G 19 268) ≤ 0 → (ok_Mo_waits (g_up G 16 0 0) ∧ True)) ∧ (¬ (G 19 268) ≤ 0 → True))) ∧ (¬ p1 = 6 → ok_Mo_count_L120 N N (g_up G 16 0 0) p1 0 (G 16 12)))) ∧ (¬ (5 : Int32) ≤ p1 → True))) ∧ (¬ (3 : Int32) ≤ p1 → ((p1 = 0 → True) ∧ (¬ p1 = 0 → ((p1 = 1 → True) ∧ (¬ p1 = 1 → (ok_Mo_allCosts N (g_up G 16 0 0) ∧ True)))))))))
set_option maxHeartbeats 4000000 in
set_option maxRecDepth 100000 in
theorem c_Mo_count (l : Launch) (N : Nat) (G : gT) (p1 : Int32) (O : Int64) (hok : ok_Mo_count N G p1) : gMet l y_Mo_count w_Mo_count rm_Mo_count (fun ad => [.ref (ad 16), .int p1]) G O (.inl (some (.int (f_Mo_count N G p1).1))) ((f_Mo_count N G p1).2) O := by
  refine g_body (by decide) (gCode_of _ _ _ _) (fun ad => by simp [lg_sl, Value.category]) ?_
  intro p e s0 s m args below meth c D cI cL ad hC hr hlk htb hB ls hl
  have hC : CallFix p m c b_Mo_count 4 s args gtb R_Mo := hC
  have hl : lv_has ls 4 [(0, .ref (ad 16)), (1, .int p1)] := hl
  have hx := hC.1
  have hb := hC.2.1
  have hf : f_Mo_count N G p1 = (if (f_Mo_within (g_up G 16 0 0) p1 0 6) = 0 then ((-1), (g_up G 16 0 0)) else (if (3 : Int32) ≤ p1 then (if (5 : Int32) ≤ p1 then (if p1 = 6 then (if (G 19 268) ≤ 0 then (if (f_Mo_waits (g_up G 16 0 0)) = 0 then (0, (g_up G 16 0 0)) else (3, (g_up G 16 0 0))) else ((G 19 268), (g_up G 16 0 0))) else f_Mo_count_L120 N N (g_up G 16 0 0) p1 0 (G 16 12)) else (if p1 = 3 then ((G 16 13), (g_up G 16 0 0)) else ((G 16 4), (g_up G 16 0 0)))) else (if p1 = 0 then ((G 16 11), (g_up G 16 0 0)) else (if p1 = 1 then ((G 16 12), (g_up G 16 0 0)) else ((f_Mo_allCosts N (g_up G 16 0 0)), (g_up G 16 0 0)))))) := rfl
  have hok : (((f_Mo_within (g_up G 16 0 0) p1 0 6) = 0 → True) ∧ (¬ (f_Mo_within (g_up G 16 0 0) p1 0 6) = 0 → (((3 : Int32) ≤ p1 → (((5 : Int32) ≤ p1 → ((p1 = 6 → (((G 19 268) ≤ 0 → (ok_Mo_waits (g_up G 16 0 0) ∧ True)) ∧ (¬ (G 19 268) ≤ 0 → True))) ∧ (¬ p1 = 6 → ok_Mo_count_L120 N N (g_up G 16 0 0) p1 0 (G 16 12)))) ∧ (¬ (5 : Int32) ≤ p1 → True))) ∧ (¬ (3 : Int32) ≤ p1 → ((p1 = 0 → True) ∧ (¬ p1 = 0 → ((p1 = 1 → True) ∧ (¬ p1 = 1 → (ok_Mo_allCosts N (g_up G 16 0 0) ∧ True))))))))) := hok
  refine lv_aload_n hx hb d_Mo_count_0 rfl (lv_at hl 0 rfl) ?_
  refine lv_iconst (v := 0) hx hb d_Mo_count_1 (by decide) ?_
  refine gp_16_0 hC hB fl_Mo_43 d_Mo_count_2 (fun H locs hB => ?_)
  refine lv_iload_n hx hb d_Mo_count_5 rfl (lv_at hl 1 rfl) ?_
  refine lv_iconst (v := 0) hx hb d_Mo_count_6 (by decide) ?_
  refine lv_bipush (v := 6) hx hb d_Mo_count_7 (by decide) ?_
  refine g_callSi (As := [.int p1, .int 0, .int 6]) (rest := []) hC hB (c_Mo_within l (g_up G 16 0 0) p1 0 6 O) rfl key_Mo_within rfl sta_Mo_within ml_Mo_46 rfl hl.1 ⟨Nat.le_of_ble_eq_true rfl, Nat.le_of_ble_eq_true rfl, Nat.le_of_ble_eq_true rfl, Nat.le_of_ble_eq_true rfl⟩ d_Mo_count_9 (fun H locs hB => ?_)
  refine lv_if_ne (tgt := 17) hx hb d_Mo_count_12 (by decide) (fun c1 => ?_) (fun c1 => ?_)
  · replace hf := hf.trans (if_neg c1)
    replace hok := hok.2 c1
    refine lv_iload_n hx hb d_Mo_count_17 rfl (lv_at hl 1 rfl) ?_
    refine lv_iconst (v := 3) hx hb d_Mo_count_18 (by decide) ?_
    refine lv_icmp_ge (tgt := 50) hx hb d_Mo_count_19 (by decide) (fun c2 => ?_) (fun c2 => ?_)
    · replace hf := hf.trans (if_pos c2)
      replace hok := hok.1 c2
      refine lv_iload_n hx hb d_Mo_count_50 rfl (lv_at hl 1 rfl) ?_
      refine lv_iconst (v := 5) hx hb d_Mo_count_51 (by decide) ?_
      refine lv_icmp_ge (tgt := 72) hx hb d_Mo_count_52 (by decide) (fun c3 => ?_) (fun c3 => ?_)
      · replace hf := hf.trans (if_pos c3)
        replace hok := hok.1 c3
        refine lv_iload_n hx hb d_Mo_count_72 rfl (lv_at hl 1 rfl) ?_
        refine lv_bipush (v := 6) hx hb d_Mo_count_73 (by decide) ?_
        refine lv_icmp_ne (tgt := 113) hx hb d_Mo_count_75 (by decide) (fun c4 => ?_) (fun c4 => ?_)
        · replace hf := hf.trans (if_neg c4)
          replace hok := hok.2 c4
          refine lv_iconst (v := 0) hx hb d_Mo_count_113 (by decide) ?_
          refine lv_istore_n (lv' := [(2, .int 0), (0, .ref (ad 16)), (1, .int p1)]) hx hb d_Mo_count_114 rfl hl (by decide) rfl (fun ls hl => ?_)
          refine lv_aload_n hx hb d_Mo_count_115 rfl (lv_at hl 1 rfl) ?_
          refine gg_16_12 (x := (G 16 12)) hC hB rfl fl_Mo_66 d_Mo_count_116 ?_
          refine lv_istore_n (lv' := [(3, .int (G 16 12)), (2, .int 0), (0, .ref (ad 16)), (1, .int p1)]) hx hb d_Mo_count_119 rfl hl (by decide) rfl (fun ls hl => ?_)
          rw [hf]
          refine W.widen (k := 0) (n := 0) (by decide) (by decide) ?_
          exact w_Mo_count_L120 hC hr hlk N (g_up G 16 0 0) p1 0 (G 16 12) hok _ _ hB ls (lv_sub hl [2, 3, 1, 0] rfl)
        · replace hf := hf.trans (if_pos c4)
          replace hok := hok.1 c4
          refine lv_aload_n hx hb d_Mo_count_78 rfl (lv_at hl 0 rfl) ?_
          refine gr_16_6 hC hB fl_Mo_16 d_Mo_count_79 ?_
          refine lv_sipush (v := 268) hx hb d_Mo_count_82 (by decide) ?_
          refine ga_19 (x := (G 19 268)) hC hB (by unfold vp_in; decide) rfl d_Mo_count_85 ?_
          refine lv_if_le (tgt := 100) hx hb d_Mo_count_86 (by decide) (fun c7 => ?_) (fun c7 => ?_)
          · replace hf := hf.trans (if_pos c7)
            replace hok := hok.1 c7
            refine lv_aload_n hx hb d_Mo_count_100 rfl (lv_at hl 0 rfl) ?_
            refine g_callVi (b := ad 16) (As := []) (rest := []) hC hB (c_Mo_waits l (g_up G 16 0 0) O hok.1) rfl key_Mo_waits rfl ins_Mo_waits sel_Mo_waits ml_Mo_107 (g_rec16 hB) rfl hl.1 ⟨Nat.le_of_ble_eq_true rfl, Nat.le_of_ble_eq_true rfl, Nat.le_of_ble_eq_true rfl, Nat.le_of_ble_eq_true rfl⟩ d_Mo_count_101 (fun H locs hB => ?_)
            replace hok := hok.2
            refine lv_if_eq (tgt := 111) hx hb d_Mo_count_104 (by decide) (fun c8 => ?_) (fun c8 => ?_)
            · replace hf := hf.trans (if_pos c8)
              refine lv_iconst (v := 0) hx hb d_Mo_count_111 (by decide) ?_
              exact g_iret hC hB hr hlk (by decide) (by decide) (by rw [hf]) (by rw [hf]) d_Mo_count_112
            · replace hf := hf.trans (if_neg c8)
              refine lv_iconst (v := 3) hx hb d_Mo_count_107 (by decide) ?_
              refine lv_goto (tgt := 112) hx hb d_Mo_count_108 (by decide) ?_
              exact g_iret hC hB hr hlk (by decide) (by decide) (by rw [hf]) (by rw [hf]) d_Mo_count_112
          · replace hf := hf.trans (if_neg c7)
            replace hok := hok.2 c7
            refine lv_aload_n hx hb d_Mo_count_89 rfl (lv_at hl 0 rfl) ?_
            refine gr_16_6 hC hB fl_Mo_16 d_Mo_count_90 ?_
            refine lv_sipush (v := 268) hx hb d_Mo_count_93 (by decide) ?_
            refine ga_19 (x := (G 19 268)) hC hB (by unfold vp_in; decide) rfl d_Mo_count_96 ?_
            refine lv_goto (tgt := 112) hx hb d_Mo_count_97 (by decide) ?_
            exact g_iret hC hB hr hlk (by decide) (by decide) (by rw [hf]) (by rw [hf]) d_Mo_count_112
      · replace hf := hf.trans (if_neg c3)
        replace hok := hok.2 c3
        refine lv_iload_n hx hb d_Mo_count_55 rfl (lv_at hl 1 rfl) ?_
        refine lv_iconst (v := 3) hx hb d_Mo_count_56 (by decide) ?_
        refine lv_icmp_ne (tgt := 67) hx hb d_Mo_count_57 (by decide) (fun c9 => ?_) (fun c9 => ?_)
        · replace hf := hf.trans (if_neg c9)
          refine lv_aload_n hx hb d_Mo_count_67 rfl (lv_at hl 0 rfl) ?_
          refine gg_16_4 (x := (G 16 4)) hC hB rfl fl_Mo_54 d_Mo_count_68 ?_
          exact g_iret hC hB hr hlk (by decide) (by decide) (by rw [hf]) (by rw [hf]) d_Mo_count_71
        · replace hf := hf.trans (if_pos c9)
          refine lv_aload_n hx hb d_Mo_count_60 rfl (lv_at hl 0 rfl) ?_
          refine gg_16_13 (x := (G 16 13)) hC hB rfl fl_Mo_63 d_Mo_count_61 ?_
          refine lv_goto (tgt := 71) hx hb d_Mo_count_64 (by decide) ?_
          exact g_iret hC hB hr hlk (by decide) (by decide) (by rw [hf]) (by rw [hf]) d_Mo_count_71
    · replace hf := hf.trans (if_neg c2)
      replace hok := hok.2 c2
      refine lv_iload_n hx hb d_Mo_count_22 rfl (lv_at hl 1 rfl) ?_
      refine lv_if_ne (tgt := 33) hx hb d_Mo_count_23 (by decide) (fun c10 => ?_) (fun c10 => ?_)
      · replace hf := hf.trans (if_neg c10)
        replace hok := hok.2 c10
        refine lv_iload_n hx hb d_Mo_count_33 rfl (lv_at hl 1 rfl) ?_
        refine lv_iconst (v := 1) hx hb d_Mo_count_34 (by decide) ?_
        refine lv_icmp_ne (tgt := 45) hx hb d_Mo_count_35 (by decide) (fun c11 => ?_) (fun c11 => ?_)
        · replace hf := hf.trans (if_neg c11)
          replace hok := hok.2 c11
          refine lv_aload_n hx hb d_Mo_count_45 rfl (lv_at hl 0 rfl) ?_
          refine g_callVi (b := ad 16) (As := []) (rest := []) hC hB (c_Mo_allCosts l N (g_up G 16 0 0) O hok.1) rfl key_Mo_allCosts rfl ins_Mo_allCosts sel_Mo_allCosts ml_Mo_90 (g_rec16 hB) rfl hl.1 ⟨Nat.le_of_ble_eq_true rfl, Nat.le_of_ble_eq_true rfl, Nat.le_of_ble_eq_true rfl, Nat.le_of_ble_eq_true rfl⟩ d_Mo_count_46 (fun H locs hB => ?_)
          replace hok := hok.2
          exact g_iret hC hB hr hlk (by decide) (by decide) (by rw [hf]) (by rw [hf]) d_Mo_count_49
        · replace hf := hf.trans (if_pos c11)
          replace hok := hok.1 c11
          refine lv_aload_n hx hb d_Mo_count_38 rfl (lv_at hl 0 rfl) ?_
          refine gg_16_12 (x := (G 16 12)) hC hB rfl fl_Mo_66 d_Mo_count_39 ?_
          refine lv_goto (tgt := 49) hx hb d_Mo_count_42 (by decide) ?_
          exact g_iret hC hB hr hlk (by decide) (by decide) (by rw [hf]) (by rw [hf]) d_Mo_count_49
      · replace hf := hf.trans (if_pos c10)
        replace hok := hok.1 c10
        refine lv_aload_n hx hb d_Mo_count_26 rfl (lv_at hl 0 rfl) ?_
        refine gg_16_11 (x := (G 16 11)) hC hB rfl fl_Mo_57 d_Mo_count_27 ?_
        refine lv_goto (tgt := 49) hx hb d_Mo_count_30 (by decide) ?_
        exact g_iret hC hB hr hlk (by decide) (by decide) (by rw [hf]) (by rw [hf]) d_Mo_count_49
  · replace hf := hf.trans (if_pos c1)
    replace hok := hok.1 c1
    refine lv_iconst (v := (-1)) hx hb d_Mo_count_15 (by decide) ?_
    exact g_iret hC hB hr hlk (by decide) (by decide) (by rw [hf]) (by rw [hf]) d_Mo_count_16
