abbrev rm_Ro_forgetBehind : Room := { frames := 1, cells := 0, slots := 0, locals := 15 }
def f_Ro_forgetBehind_L0 : Nat → gT → Int32 → gT
  | 0, G, x1 => G
  | n + 1, G, x1 => (if (G 7 1) ≤ x1 then G else f_Ro_forgetBehind_L0 n (g_up (g_up G 7 1 ((G 7 1) - (1 : Int32))) 7 3 ((G 7 3) - (G 8 ((f_Ro_slot (g_up G 7 1 ((G 7 1) - (1 : Int32))) ((G 7 1) - (1 : Int32))).toNatClampNeg)))) x1)
def ok_Ro_forgetBehind_L0 : Nat → gT → Int32 → Prop
  | 0, G, x1 => False
  | n + 1, G, x1 => (((G 7 1) ≤ x1 → True) ∧ (¬ (G 7 1) ≤ x1 → (vp_in (f_Ro_slot (g_up G 7 1 ((G 7 1) - (1 : Int32))) ((G 7 1) - (1 : Int32))) 1024 ∧ ok_Ro_forgetBehind_L0 n (g_up (g_up G 7 1 ((G 7 1) - (1 : Int32))) 7 3 ((G 7 3) - (G 8 ((f_Ro_slot (g_up G 7 1 ((G 7 1) - (1 : Int32))) ((G 7 1) - (1 : Int32))).toNatClampNeg)))) x1)))
set_option maxHeartbeats 4000000 in
set_option maxRecDepth 100000 in
theorem w_Ro_forgetBehind_L0 {p : Program} {l : Launch} {e : Env} {s0 s : State} {m : MethodId} {args : Array Value} {below : List Frame} {meth : Method} {c : Code} {D : va_G} {cI cL : ClassId} {ad : Nat → Nat} {O : Int64} (hC : CallFix p m c b_Ro_forgetBehind 2 s args gtb R_Ro) (hr : meth.sig.returnType = none) (hlk : meth.locks = false) : ∀ (n : Nat) (G : gT) (x1 : Int32), ok_Ro_forgetBehind_L0 n G x1 → ∀ (H : Heap) (locs : List Loc), gB s0 s D cI cL ad G O H locs → ∀ ls : Array Slot, lv_has ls 2 [(0, .ref (ad 7)), (1, .int x1)] → W p l e rm_Ro_forgetBehind s m args below meth c H locs 0 0 (gE s0 below args s D cI cL ad 0 0 (.inl (none)) (f_Ro_forgetBehind_L0 n G x1) O) (F0 m 0 ls []) := by
  have hx := hC.1
  have hb := hC.2.1
  intro n
  induction n with
  | zero =>
    intro G x1 hok
    exact absurd hok (fun h => h)
  | succ n ih =>
    intro G x1 hok H locs hB ls hl
    have hf : f_Ro_forgetBehind_L0 (n + 1) G x1 = (if (G 7 1) ≤ x1 then G else f_Ro_forgetBehind_L0 n (g_up (g_up G 7 1 ((G 7 1) - (1 : Int32))) 7 3 ((G 7 3) - (G 8 ((f_Ro_slot (g_up G 7 1 ((G 7 1) - (1 : Int32))) ((G 7 1) - (1 : Int32))).toNatClampNeg)))) x1) := rfl
    have hok : (((G 7 1) ≤ x1 → True) ∧ (¬ (G 7 1) ≤ x1 → (vp_in (f_Ro_slot (g_up G 7 1 ((G 7 1) - (1 : Int32))) ((G 7 1) - (1 : Int32))) 1024 ∧ ok_Ro_forgetBehind_L0 n (g_up (g_up G 7 1 ((G 7 1) - (1 : Int32))) 7 3 ((G 7 3) - (G 8 ((f_Ro_slot (g_up G 7 1 ((G 7 1) - (1 : Int32))) ((G 7 1) - (1 : Int32))).toNatClampNeg)))) x1))) := hok
    refine lv_aload_n hx hb d_Ro_forgetBehind_0 rfl (lv_at hl 0 rfl) ?_
    refine gg_7_1 (x := (G 7 1)) hC hB rfl fl_Ro_49 d_Ro_forgetBehind_1 ?_
    refine lv_iload_n hx hb d_Ro_forgetBehind_4 rfl (lv_at hl 1 rfl) ?_
    refine lv_icmp_le (tgt := 42) hx hb d_Ro_forgetBehind_5 (by decide) (fun c1 => ?_) (fun c1 => ?_)
    · replace hf := hf.trans (if_pos c1)
      replace hok := hok.1 c1
      exact g_vret hC hB hr hlk (by decide) (by decide) rfl hf d_Ro_forgetBehind_42
    · replace hf := hf.trans (if_neg c1)
      replace hok := hok.2 c1
      refine lv_aload_n hx hb d_Ro_forgetBehind_8 rfl (lv_at hl 0 rfl) ?_
      refine lv_dup hx hb d_Ro_forgetBehind_9 rfl ?_
      refine gg_7_1 (x := (G 7 1)) hC hB rfl fl_Ro_49 d_Ro_forgetBehind_10 ?_
      refine lv_iconst (v := 1) hx hb d_Ro_forgetBehind_13 (by decide) ?_
      refine lv_isub hx hb d_Ro_forgetBehind_14 ?_
      refine gp_7_1 hC hB fl_Ro_49 d_Ro_forgetBehind_15 (fun H locs hB => ?_)
      refine lv_aload_n hx hb d_Ro_forgetBehind_18 rfl (lv_at hl 0 rfl) ?_
      refine lv_dup hx hb d_Ro_forgetBehind_19 rfl ?_
      refine gg_7_3 (x := (G 7 3)) hC hB rfl fl_Ro_52 d_Ro_forgetBehind_20 ?_
      refine lv_aload_n hx hb d_Ro_forgetBehind_23 rfl (lv_at hl 0 rfl) ?_
      refine gr_7_5 hC hB fl_Ro_11 d_Ro_forgetBehind_24 ?_
      refine lv_aload_n hx hb d_Ro_forgetBehind_27 rfl (lv_at hl 0 rfl) ?_
      refine gg_7_1 (x := (G 7 1) - (1 : Int32)) hC hB rfl fl_Ro_49 d_Ro_forgetBehind_28 ?_
      refine g_callSi (As := [.int ((G 7 1) - (1 : Int32))]) (rest := [.ref (ad 8), .int (G 7 3), .ref (ad 7)]) hC hB (c_Ro_slot l (g_up G 7 1 ((G 7 1) - (1 : Int32))) ((G 7 1) - (1 : Int32)) O) rfl key_Ro_slot rfl sta_Ro_slot ml_Ro_55 rfl hl.1 ⟨Nat.le_of_ble_eq_true rfl, Nat.le_of_ble_eq_true rfl, Nat.le_of_ble_eq_true rfl, Nat.le_of_ble_eq_true rfl⟩ d_Ro_forgetBehind_31 (fun H locs hB => ?_)
      refine ga_8 (x := (G 8 ((f_Ro_slot (g_up G 7 1 ((G 7 1) - (1 : Int32))) ((G 7 1) - (1 : Int32))).toNatClampNeg))) hC hB hok.1 rfl d_Ro_forgetBehind_34 ?_
      replace hok := hok.2
      refine lv_isub hx hb d_Ro_forgetBehind_35 ?_
      refine gp_7_3 hC hB fl_Ro_52 d_Ro_forgetBehind_36 (fun H locs hB => ?_)
      refine lv_goto (tgt := 0) hx hb d_Ro_forgetBehind_39 (by decide) ?_
      rw [hf]
      exact ih (g_up (g_up G 7 1 ((G 7 1) - (1 : Int32))) 7 3 ((G 7 3) - (G 8 ((f_Ro_slot (g_up G 7 1 ((G 7 1) - (1 : Int32))) ((G 7 1) - (1 : Int32))).toNatClampNeg)))) x1 hok _ _ hB ls (lv_sub hl [0, 1] rfl)
def f_Ro_forgetBehind (N : Nat) (G : gT) (p1 : Int32) : gT := f_Ro_forgetBehind_L0 N G p1
def ok_Ro_forgetBehind (N : Nat) (G : gT) (p1 : Int32) : Prop := ok_Ro_forgetBehind_L0 N G p1
set_option maxHeartbeats 4000000 in
set_option maxRecDepth 100000 in
theorem c_Ro_forgetBehind (l : Launch) (N : Nat) (G : gT) (p1 : Int32) (O : Int64) (hok : ok_Ro_forgetBehind N G p1) : gMet l y_Ro_forgetBehind w_Ro_forgetBehind rm_Ro_forgetBehind (fun ad => [.ref (ad 7), .int p1]) G O (.inl (none)) (f_Ro_forgetBehind N G p1) O := by
  refine g_body (by decide) (gCode_of _ _ _ _) (fun ad => by simp [lg_sl, Value.category]) ?_
  intro p e s0 s m args below meth c D cI cL ad hC hr hlk htb hB ls hl
  have hC : CallFix p m c b_Ro_forgetBehind 2 s args gtb R_Ro := hC
  have hl : lv_has ls 2 [(0, .ref (ad 7)), (1, .int p1)] := hl
  have hx := hC.1
  have hb := hC.2.1
  have hf : f_Ro_forgetBehind N G p1 = f_Ro_forgetBehind_L0 N G p1 := rfl
  have hok : ok_Ro_forgetBehind_L0 N G p1 := hok
  rw [hf]
  refine W.widen (k := 0) (n := 0) (by decide) (by decide) ?_
  exact w_Ro_forgetBehind_L0 hC hr hlk N G p1 hok _ _ hB ls (lv_sub hl [0, 1] rfl)
abbrev rm_Ro_undoDownTo_3 : Room := { frames := 1, cells := 0, slots := 0, locals := 14 }
def f_Ro_undoDownTo_3_L5 : Nat → gT → Int32 → Int32 → gT
  | 0, G, x1, x3 => G
  | n + 1, G, x1, x3 => (if x3 ≤ x1 then G else f_Ro_undoDownTo_3_L5 n (f_Ro_undo_3 G (f_Ro_slot G (x3 - (1 : Int32)))) x1 (x3 + (-1)))
def ok_Ro_undoDownTo_3_L5 : Nat → gT → Int32 → Int32 → Prop
  | 0, G, x1, x3 => False
  | n + 1, G, x1, x3 => ((x3 ≤ x1 → True) ∧ (¬ x3 ≤ x1 → (ok_Ro_undo_3 G (f_Ro_slot G (x3 - (1 : Int32))) ∧ ok_Ro_undoDownTo_3_L5 n (f_Ro_undo_3 G (f_Ro_slot G (x3 - (1 : Int32)))) x1 (x3 + (-1)))))
set_option maxHeartbeats 4000000 in
set_option maxRecDepth 100000 in
theorem w_Ro_undoDownTo_3_L5 {p : Program} {l : Launch} {e : Env} {s0 s : State} {m : MethodId} {args : Array Value} {below : List Frame} {meth : Method} {c : Code} {D : va_G} {cI cL : ClassId} {ad : Nat → Nat} {O : Int64} (hC : CallFix p m c b_Ro_undoDownTo 4 s args gtb R_Ro) (hr : meth.sig.returnType = none) (hlk : meth.locks = false) : ∀ (n : Nat) (G : gT) (x1 : Int32) (x3 : Int32), ok_Ro_undoDownTo_3_L5 n G x1 x3 → ∀ (H : Heap) (locs : List Loc), gB s0 s D cI cL ad G O H locs → ∀ ls : Array Slot, lv_has ls 4 [(0, .ref (ad 7)), (1, .int x1), (2, .ref (ad 3)), (3, .int x3)] → W p l e rm_Ro_undoDownTo_3 s m args below meth c H locs 0 0 (gE s0 below args s D cI cL ad 0 0 (.inl (none)) (f_Ro_undoDownTo_3_L5 n G x1 x3) O) (F0 m 5 ls []) := by
  have hx := hC.1
  have hb := hC.2.1
  intro n
  induction n with
  | zero =>
    intro G x1 x3 hok
    exact absurd hok (fun h => h)
  | succ n ih =>
    intro G x1 x3 hok H locs hB ls hl
    have hf : f_Ro_undoDownTo_3_L5 (n + 1) G x1 x3 = (if x3 ≤ x1 then G else f_Ro_undoDownTo_3_L5 n (f_Ro_undo_3 G (f_Ro_slot G (x3 - (1 : Int32)))) x1 (x3 + (-1))) := rfl
    have hok : ((x3 ≤ x1 → True) ∧ (¬ x3 ≤ x1 → (ok_Ro_undo_3 G (f_Ro_slot G (x3 - (1 : Int32))) ∧ ok_Ro_undoDownTo_3_L5 n (f_Ro_undo_3 G (f_Ro_slot G (x3 - (1 : Int32)))) x1 (x3 + (-1))))) := hok
    refine lv_iload_n hx hb d_Ro_undoDownTo_5 rfl (lv_at hl 3 rfl) ?_
    refine lv_iload_n hx hb d_Ro_undoDownTo_6 rfl (lv_at hl 1 rfl) ?_
    refine lv_icmp_le (tgt := 27) hx hb d_Ro_undoDownTo_7 (by decide) (fun c1 => ?_) (fun c1 => ?_)
    · replace hf := hf.trans (if_pos c1)
      replace hok := hok.1 c1
      exact g_vret hC hB hr hlk (by decide) (by decide) rfl hf d_Ro_undoDownTo_27
    · replace hf := hf.trans (if_neg c1)
      replace hok := hok.2 c1
      refine lv_aload_n hx hb d_Ro_undoDownTo_10 rfl (lv_at hl 0 rfl) ?_
      refine lv_iload_n hx hb d_Ro_undoDownTo_11 rfl (lv_at hl 3 rfl) ?_
      refine lv_iconst (v := 1) hx hb d_Ro_undoDownTo_12 (by decide) ?_
      refine lv_isub hx hb d_Ro_undoDownTo_13 ?_
      refine g_callSi (As := [.int (x3 - (1 : Int32))]) (rest := [.ref (ad 7)]) hC hB (c_Ro_slot l G (x3 - (1 : Int32)) O) rfl key_Ro_slot rfl sta_Ro_slot ml_Ro_55 rfl hl.1 ⟨Nat.le_of_ble_eq_true rfl, Nat.le_of_ble_eq_true rfl, Nat.le_of_ble_eq_true rfl, Nat.le_of_ble_eq_true rfl⟩ d_Ro_undoDownTo_14 (fun H locs hB => ?_)
      refine lv_aload_n hx hb d_Ro_undoDownTo_17 rfl (lv_at hl 2 rfl) ?_
      refine g_callVv (b := ad 7) (As := [.int (f_Ro_slot G (x3 - (1 : Int32))), .ref (ad 3)]) (rest := []) hC hB (c_Ro_undo_3 l G (f_Ro_slot G (x3 - (1 : Int32))) O hok.1) rfl key_Ro_undo rfl ins_Ro_undo sel_Ro_undo ml_Ro_82 (g_rec7 hB) rfl hl.1 ⟨Nat.le_of_ble_eq_true rfl, Nat.le_of_ble_eq_true rfl, Nat.le_of_ble_eq_true rfl, Nat.le_of_ble_eq_true rfl⟩ d_Ro_undoDownTo_18 (fun H locs hB => ?_)
      replace hok := hok.2
      refine lv_iinc (v := x3 + (-1)) (lv' := [(3, .int (x3 + (-1))), (0, .ref (ad 7)), (1, .int x1), (2, .ref (ad 3))]) hx hb d_Ro_undoDownTo_21 hl (k := 3) rfl (congrArg (fun z : Int32 => x3 + z) (by decide)) (by decide) rfl (fun ls hl => ?_)
      refine lv_goto (tgt := 5) hx hb d_Ro_undoDownTo_24 (by decide) ?_
      rw [hf]
      exact ih (f_Ro_undo_3 G (f_Ro_slot G (x3 - (1 : Int32)))) x1 (x3 + (-1)) hok _ _ hB ls (lv_sub hl [1, 2, 3, 0] rfl)
def f_Ro_undoDownTo_3 (N : Nat) (G : gT) (p1 : Int32) : gT := f_Ro_undoDownTo_3_L5 N G p1 (G 7 1)
def ok_Ro_undoDownTo_3 (N : Nat) (G : gT) (p1 : Int32) : Prop := ok_Ro_undoDownTo_3_L5 N G p1 (G 7 1)
set_option maxHeartbeats 4000000 in
set_option maxRecDepth 100000 in
theorem c_Ro_undoDownTo_3 (l : Launch) (N : Nat) (G : gT) (p1 : Int32) (O : Int64) (hok : ok_Ro_undoDownTo_3 N G p1) : gMet l y_Ro_undoDownTo w_Ro_undoDownTo rm_Ro_undoDownTo_3 (fun ad => [.ref (ad 7), .int p1, .ref (ad 3)]) G O (.inl (none)) (f_Ro_undoDownTo_3 N G p1) O := by
  refine g_body (by decide) (gCode_of _ _ _ _) (fun ad => by simp [lg_sl, Value.category]) ?_
  intro p e s0 s m args below meth c D cI cL ad hC hr hlk htb hB ls hl
  have hC : CallFix p m c b_Ro_undoDownTo 4 s args gtb R_Ro := hC
  have hl : lv_has ls 4 [(0, .ref (ad 7)), (1, .int p1), (2, .ref (ad 3))] := hl
  have hx := hC.1
  have hb := hC.2.1
  have hf : f_Ro_undoDownTo_3 N G p1 = f_Ro_undoDownTo_3_L5 N G p1 (G 7 1) := rfl
  have hok : ok_Ro_undoDownTo_3_L5 N G p1 (G 7 1) := hok
  refine lv_aload_n hx hb d_Ro_undoDownTo_0 rfl (lv_at hl 0 rfl) ?_
  refine gg_7_1 (x := (G 7 1)) hC hB rfl fl_Ro_49 d_Ro_undoDownTo_1 ?_
  refine lv_istore_n (lv' := [(3, .int (G 7 1)), (0, .ref (ad 7)), (1, .int p1), (2, .ref (ad 3))]) hx hb d_Ro_undoDownTo_4 rfl hl (by decide) rfl (fun ls hl => ?_)
  rw [hf]
  refine W.widen (k := 0) (n := 0) (by decide) (by decide) ?_
  exact w_Ro_undoDownTo_3_L5 hC hr hlk N G p1 (G 7 1) hok _ _ hB ls (lv_sub hl [1, 2, 3, 0] rfl)
abbrev rm_Ro_undoDownTo_5 : Room := { frames := 1, cells := 0, slots := 0, locals := 14 }
def f_Ro_undoDownTo_5_L5 : Nat → gT → Int32 → Int32 → gT
  | 0, G, x1, x3 => G
  | n + 1, G, x1, x3 => (if x3 ≤ x1 then G else f_Ro_undoDownTo_5_L5 n (f_Ro_undo_5 G (f_Ro_slot G (x3 - (1 : Int32)))) x1 (x3 + (-1)))
def ok_Ro_undoDownTo_5_L5 : Nat → gT → Int32 → Int32 → Prop
  | 0, G, x1, x3 => False
  | n + 1, G, x1, x3 => ((x3 ≤ x1 → True) ∧ (¬ x3 ≤ x1 → (ok_Ro_undo_5 G (f_Ro_slot G (x3 - (1 : Int32))) ∧ ok_Ro_undoDownTo_5_L5 n (f_Ro_undo_5 G (f_Ro_slot G (x3 - (1 : Int32)))) x1 (x3 + (-1)))))
set_option maxHeartbeats 4000000 in
set_option maxRecDepth 100000 in
theorem w_Ro_undoDownTo_5_L5 {p : Program} {l : Launch} {e : Env} {s0 s : State} {m : MethodId} {args : Array Value} {below : List Frame} {meth : Method} {c : Code} {D : va_G} {cI cL : ClassId} {ad : Nat → Nat} {O : Int64} (hC : CallFix p m c b_Ro_undoDownTo 4 s args gtb R_Ro) (hr : meth.sig.returnType = none) (hlk : meth.locks = false) : ∀ (n : Nat) (G : gT) (x1 : Int32) (x3 : Int32), ok_Ro_undoDownTo_5_L5 n G x1 x3 → ∀ (H : Heap) (locs : List Loc), gB s0 s D cI cL ad G O H locs → ∀ ls : Array Slot, lv_has ls 4 [(0, .ref (ad 7)), (1, .int x1), (2, .ref (ad 5)), (3, .int x3)] → W p l e rm_Ro_undoDownTo_5 s m args below meth c H locs 0 0 (gE s0 below args s D cI cL ad 0 0 (.inl (none)) (f_Ro_undoDownTo_5_L5 n G x1 x3) O) (F0 m 5 ls []) := by
  have hx := hC.1
  have hb := hC.2.1
  intro n
  induction n with
  | zero =>
    intro G x1 x3 hok
    exact absurd hok (fun h => h)
  | succ n ih =>
    intro G x1 x3 hok H locs hB ls hl
    have hf : f_Ro_undoDownTo_5_L5 (n + 1) G x1 x3 = (if x3 ≤ x1 then G else f_Ro_undoDownTo_5_L5 n (f_Ro_undo_5 G (f_Ro_slot G (x3 - (1 : Int32)))) x1 (x3 + (-1))) := rfl
    have hok : ((x3 ≤ x1 → True) ∧ (¬ x3 ≤ x1 → (ok_Ro_undo_5 G (f_Ro_slot G (x3 - (1 : Int32))) ∧ ok_Ro_undoDownTo_5_L5 n (f_Ro_undo_5 G (f_Ro_slot G (x3 - (1 : Int32)))) x1 (x3 + (-1))))) := hok
    refine lv_iload_n hx hb d_Ro_undoDownTo_5 rfl (lv_at hl 3 rfl) ?_
    refine lv_iload_n hx hb d_Ro_undoDownTo_6 rfl (lv_at hl 1 rfl) ?_
    refine lv_icmp_le (tgt := 27) hx hb d_Ro_undoDownTo_7 (by decide) (fun c1 => ?_) (fun c1 => ?_)
    · replace hf := hf.trans (if_pos c1)
      replace hok := hok.1 c1
      exact g_vret hC hB hr hlk (by decide) (by decide) rfl hf d_Ro_undoDownTo_27
    · replace hf := hf.trans (if_neg c1)
      replace hok := hok.2 c1
      refine lv_aload_n hx hb d_Ro_undoDownTo_10 rfl (lv_at hl 0 rfl) ?_
      refine lv_iload_n hx hb d_Ro_undoDownTo_11 rfl (lv_at hl 3 rfl) ?_
      refine lv_iconst (v := 1) hx hb d_Ro_undoDownTo_12 (by decide) ?_
      refine lv_isub hx hb d_Ro_undoDownTo_13 ?_
      refine g_callSi (As := [.int (x3 - (1 : Int32))]) (rest := [.ref (ad 7)]) hC hB (c_Ro_slot l G (x3 - (1 : Int32)) O) rfl key_Ro_slot rfl sta_Ro_slot ml_Ro_55 rfl hl.1 ⟨Nat.le_of_ble_eq_true rfl, Nat.le_of_ble_eq_true rfl, Nat.le_of_ble_eq_true rfl, Nat.le_of_ble_eq_true rfl⟩ d_Ro_undoDownTo_14 (fun H locs hB => ?_)
      refine lv_aload_n hx hb d_Ro_undoDownTo_17 rfl (lv_at hl 2 rfl) ?_
      refine g_callVv (b := ad 7) (As := [.int (f_Ro_slot G (x3 - (1 : Int32))), .ref (ad 5)]) (rest := []) hC hB (c_Ro_undo_5 l G (f_Ro_slot G (x3 - (1 : Int32))) O hok.1) rfl key_Ro_undo rfl ins_Ro_undo sel_Ro_undo ml_Ro_82 (g_rec7 hB) rfl hl.1 ⟨Nat.le_of_ble_eq_true rfl, Nat.le_of_ble_eq_true rfl, Nat.le_of_ble_eq_true rfl, Nat.le_of_ble_eq_true rfl⟩ d_Ro_undoDownTo_18 (fun H locs hB => ?_)
      replace hok := hok.2
      refine lv_iinc (v := x3 + (-1)) (lv' := [(3, .int (x3 + (-1))), (0, .ref (ad 7)), (1, .int x1), (2, .ref (ad 5))]) hx hb d_Ro_undoDownTo_21 hl (k := 3) rfl (congrArg (fun z : Int32 => x3 + z) (by decide)) (by decide) rfl (fun ls hl => ?_)
      refine lv_goto (tgt := 5) hx hb d_Ro_undoDownTo_24 (by decide) ?_
      rw [hf]
      exact ih (f_Ro_undo_5 G (f_Ro_slot G (x3 - (1 : Int32)))) x1 (x3 + (-1)) hok _ _ hB ls (lv_sub hl [1, 2, 3, 0] rfl)
def f_Ro_undoDownTo_5 (N : Nat) (G : gT) (p1 : Int32) : gT := f_Ro_undoDownTo_5_L5 N G p1 (G 7 1)
def ok_Ro_undoDownTo_5 (N : Nat) (G : gT) (p1 : Int32) : Prop := ok_Ro_undoDownTo_5_L5 N G p1 (G 7 1)
set_option maxHeartbeats 4000000 in
set_option maxRecDepth 100000 in
theorem c_Ro_undoDownTo_5 (l : Launch) (N : Nat) (G : gT) (p1 : Int32) (O : Int64) (hok : ok_Ro_undoDownTo_5 N G p1) : gMet l y_Ro_undoDownTo w_Ro_undoDownTo rm_Ro_undoDownTo_5 (fun ad => [.ref (ad 7), .int p1, .ref (ad 5)]) G O (.inl (none)) (f_Ro_undoDownTo_5 N G p1) O := by
  refine g_body (by decide) (gCode_of _ _ _ _) (fun ad => by simp [lg_sl, Value.category]) ?_
  intro p e s0 s m args below meth c D cI cL ad hC hr hlk htb hB ls hl
  have hC : CallFix p m c b_Ro_undoDownTo 4 s args gtb R_Ro := hC
  have hl : lv_has ls 4 [(0, .ref (ad 7)), (1, .int p1), (2, .ref (ad 5))] := hl
  have hx := hC.1
  have hb := hC.2.1
  have hf : f_Ro_undoDownTo_5 N G p1 = f_Ro_undoDownTo_5_L5 N G p1 (G 7 1) := rfl
  have hok : ok_Ro_undoDownTo_5_L5 N G p1 (G 7 1) := hok
  refine lv_aload_n hx hb d_Ro_undoDownTo_0 rfl (lv_at hl 0 rfl) ?_
  refine gg_7_1 (x := (G 7 1)) hC hB rfl fl_Ro_49 d_Ro_undoDownTo_1 ?_
  refine lv_istore_n (lv' := [(3, .int (G 7 1)), (0, .ref (ad 7)), (1, .int p1), (2, .ref (ad 5))]) hx hb d_Ro_undoDownTo_4 rfl hl (by decide) rfl (fun ls hl => ?_)
  rw [hf]
  refine W.widen (k := 0) (n := 0) (by decide) (by decide) ?_
  exact w_Ro_undoDownTo_5_L5 hC hr hlk N G p1 (G 7 1) hok _ _ hB ls (lv_sub hl [1, 2, 3, 0] rfl)
abbrev rm_Ro_keep_3 : Room := { frames := 2, cells := 0, slots := 0, locals := 25 }
def f_Ro_keep_3_L5 : Nat → gT → Int32 → gT
  | 0, G, x2 => G
  | n + 1, G, x2 => (if (G 7 1) ≤ (G 7 2) then (if (G 3 6) = (-1) then (g_up (g_up (g_up (g_up (g_up (g_up (g_up (g_up (g_up (g_up G 8 ((f_Ro_slot G (G 7 1)).toNatClampNeg) x2) 9 ((f_Ro_slot G (G 7 1)).toNatClampNeg) (G 3 6)) 10 ((f_Ro_slot G (G 7 1)).toNatClampNeg) (G 3 7)) 11 ((f_Ro_slot G (G 7 1)).toNatClampNeg) 0) 12 ((f_Ro_slot G (G 7 1)).toNatClampNeg) (G 3 8)) 13 ((f_Ro_slot G (G 7 1)).toNatClampNeg) (G 3 9)) 14 ((f_Ro_slot G (G 7 1)).toNatClampNeg) (G 3 10)) 15 ((f_Ro_slot G (G 7 1)).toNatClampNeg) (G 3 11)) 7 3 ((G 7 3) + x2)) 7 1 ((G 7 1) + (1 : Int32))) else (g_up (g_up (g_up (g_up (g_up (g_up (g_up (g_up (g_up (g_up G 8 ((f_Ro_slot G (G 7 1)).toNatClampNeg) x2) 9 ((f_Ro_slot G (G 7 1)).toNatClampNeg) (G 3 6)) 10 ((f_Ro_slot G (G 7 1)).toNatClampNeg) (G 3 7)) 11 ((f_Ro_slot G (G 7 1)).toNatClampNeg) (G 4 ((G 3 6).toNatClampNeg))) 12 ((f_Ro_slot G (G 7 1)).toNatClampNeg) (G 3 8)) 13 ((f_Ro_slot G (G 7 1)).toNatClampNeg) (G 3 9)) 14 ((f_Ro_slot G (G 7 1)).toNatClampNeg) (G 3 10)) 15 ((f_Ro_slot G (G 7 1)).toNatClampNeg) (G 3 11)) 7 3 ((G 7 3) + x2)) 7 1 ((G 7 1) + (1 : Int32)))) else (if ((G 7 3) + x2) ≤ (G 7 0) then (if (G 3 6) = (-1) then (g_up (g_up (g_up (g_up (g_up (g_up (g_up (g_up (g_up (g_up G 8 ((f_Ro_slot G (G 7 1)).toNatClampNeg) x2) 9 ((f_Ro_slot G (G 7 1)).toNatClampNeg) (G 3 6)) 10 ((f_Ro_slot G (G 7 1)).toNatClampNeg) (G 3 7)) 11 ((f_Ro_slot G (G 7 1)).toNatClampNeg) 0) 12 ((f_Ro_slot G (G 7 1)).toNatClampNeg) (G 3 8)) 13 ((f_Ro_slot G (G 7 1)).toNatClampNeg) (G 3 9)) 14 ((f_Ro_slot G (G 7 1)).toNatClampNeg) (G 3 10)) 15 ((f_Ro_slot G (G 7 1)).toNatClampNeg) (G 3 11)) 7 3 ((G 7 3) + x2)) 7 1 ((G 7 1) + (1 : Int32))) else (g_up (g_up (g_up (g_up (g_up (g_up (g_up (g_up (g_up (g_up G 8 ((f_Ro_slot G (G 7 1)).toNatClampNeg) x2) 9 ((f_Ro_slot G (G 7 1)).toNatClampNeg) (G 3 6)) 10 ((f_Ro_slot G (G 7 1)).toNatClampNeg) (G 3 7)) 11 ((f_Ro_slot G (G 7 1)).toNatClampNeg) (G 4 ((G 3 6).toNatClampNeg))) 12 ((f_Ro_slot G (G 7 1)).toNatClampNeg) (G 3 8)) 13 ((f_Ro_slot G (G 7 1)).toNatClampNeg) (G 3 9)) 14 ((f_Ro_slot G (G 7 1)).toNatClampNeg) (G 3 10)) 15 ((f_Ro_slot G (G 7 1)).toNatClampNeg) (G 3 11)) 7 3 ((G 7 3) + x2)) 7 1 ((G 7 1) + (1 : Int32)))) else f_Ro_keep_3_L5 n (g_up (g_up (g_up G 7 3 ((G 7 3) - (G 8 ((f_Ro_slot G (G 7 2)).toNatClampNeg)))) 7 2 ((G 7 2) + (1 : Int32))) 7 4 ((G 7 4) + (1 : Int32))) x2))
def ok_Ro_keep_3_L5 : Nat → gT → Int32 → Prop
  | 0, G, x2 => False
  | n + 1, G, x2 => (((G 7 1) ≤ (G 7 2) → (vp_in (f_Ro_slot G (G 7 1)) 1024 ∧ (vp_in (f_Ro_slot G (G 7 1)) 1024 ∧ (vp_in (f_Ro_slot G (G 7 1)) 1024 ∧ (((G 3 6) = (-1) → (vp_in (f_Ro_slot G (G 7 1)) 1024 ∧ (vp_in (f_Ro_slot G (G 7 1)) 1024 ∧ (vp_in (f_Ro_slot G (G 7 1)) 1024 ∧ (vp_in (f_Ro_slot G (G 7 1)) 1024 ∧ (vp_in (f_Ro_slot G (G 7 1)) 1024 ∧ True)))))) ∧ (¬ (G 3 6) = (-1) → (vp_in (G 3 6) 264 ∧ (vp_in (f_Ro_slot G (G 7 1)) 1024 ∧ (vp_in (f_Ro_slot G (G 7 1)) 1024 ∧ (vp_in (f_Ro_slot G (G 7 1)) 1024 ∧ (vp_in (f_Ro_slot G (G 7 1)) 1024 ∧ (vp_in (f_Ro_slot G (G 7 1)) 1024 ∧ True)))))))))))) ∧ (¬ (G 7 1) ≤ (G 7 2) → ((((G 7 3) + x2) ≤ (G 7 0) → (vp_in (f_Ro_slot G (G 7 1)) 1024 ∧ (vp_in (f_Ro_slot G (G 7 1)) 1024 ∧ (vp_in (f_Ro_slot G (G 7 1)) 1024 ∧ (((G 3 6) = (-1) → (vp_in (f_Ro_slot G (G 7 1)) 1024 ∧ (vp_in (f_Ro_slot G (G 7 1)) 1024 ∧ (vp_in (f_Ro_slot G (G 7 1)) 1024 ∧ (vp_in (f_Ro_slot G (G 7 1)) 1024 ∧ (vp_in (f_Ro_slot G (G 7 1)) 1024 ∧ True)))))) ∧ (¬ (G 3 6) = (-1) → (vp_in (G 3 6) 264 ∧ (vp_in (f_Ro_slot G (G 7 1)) 1024 ∧ (vp_in (f_Ro_slot G (G 7 1)) 1024 ∧ (vp_in (f_Ro_slot G (G 7 1)) 1024 ∧ (vp_in (f_Ro_slot G (G 7 1)) 1024 ∧ (vp_in (f_Ro_slot G (G 7 1)) 1024 ∧ True)))))))))))) ∧ (¬ ((G 7 3) + x2) ≤ (G 7 0) → (vp_in (f_Ro_slot G (G 7 2)) 1024 ∧ ok_Ro_keep_3_L5 n (g_up (g_up (g_up G 7 3 ((G 7 3) - (G 8 ((f_Ro_slot G (G 7 2)).toNatClampNeg)))) 7 2 ((G 7 2) + (1 : Int32))) 7 4 ((G 7 4) + (1 : Int32))) x2)))))
set_option maxHeartbeats 4000000 in
set_option maxRecDepth 100000 in
theorem w_Ro_keep_3_L5 {p : Program} {l : Launch} {e : Env} {s0 s : State} {m : MethodId} {args : Array Value} {below : List Frame} {meth : Method} {c : Code} {D : va_G} {cI cL : ClassId} {ad : Nat → Nat} {O : Int64} (hC : CallFix p m c b_Ro_keep 4 s args gtb R_Ro) (hr : meth.sig.returnType = none) (hlk : meth.locks = false) : ∀ (n : Nat) (G : gT) (x2 : Int32), ok_Ro_keep_3_L5 n G x2 → ∀ (H : Heap) (locs : List Loc), gB s0 s D cI cL ad G O H locs → ∀ ls : Array Slot, lv_has ls 4 [(0, .ref (ad 7)), (1, .ref (ad 3)), (2, .int x2)] → W p l e rm_Ro_keep_3 s m args below meth c H locs 0 0 (gE s0 below args s D cI cL ad 0 0 (.inl (none)) (f_Ro_keep_3_L5 n G x2) O) (F0 m 5 ls []) := by
  have hx := hC.1
  have hb := hC.2.1
  intro n
  induction n with
  | zero =>
    intro G x2 hok
    exact absurd hok (fun h => h)
  | succ n ih =>
    intro G x2 hok H locs hB ls hl
    have hf : f_Ro_keep_3_L5 (n + 1) G x2 = (if (G 7 1) ≤ (G 7 2) then (if (G 3 6) = (-1) then (g_up (g_up (g_up (g_up (g_up (g_up (g_up (g_up (g_up (g_up G 8 ((f_Ro_slot G (G 7 1)).toNatClampNeg) x2) 9 ((f_Ro_slot G (G 7 1)).toNatClampNeg) (G 3 6)) 10 ((f_Ro_slot G (G 7 1)).toNatClampNeg) (G 3 7)) 11 ((f_Ro_slot G (G 7 1)).toNatClampNeg) 0) 12 ((f_Ro_slot G (G 7 1)).toNatClampNeg) (G 3 8)) 13 ((f_Ro_slot G (G 7 1)).toNatClampNeg) (G 3 9)) 14 ((f_Ro_slot G (G 7 1)).toNatClampNeg) (G 3 10)) 15 ((f_Ro_slot G (G 7 1)).toNatClampNeg) (G 3 11)) 7 3 ((G 7 3) + x2)) 7 1 ((G 7 1) + (1 : Int32))) else (g_up (g_up (g_up (g_up (g_up (g_up (g_up (g_up (g_up (g_up G 8 ((f_Ro_slot G (G 7 1)).toNatClampNeg) x2) 9 ((f_Ro_slot G (G 7 1)).toNatClampNeg) (G 3 6)) 10 ((f_Ro_slot G (G 7 1)).toNatClampNeg) (G 3 7)) 11 ((f_Ro_slot G (G 7 1)).toNatClampNeg) (G 4 ((G 3 6).toNatClampNeg))) 12 ((f_Ro_slot G (G 7 1)).toNatClampNeg) (G 3 8)) 13 ((f_Ro_slot G (G 7 1)).toNatClampNeg) (G 3 9)) 14 ((f_Ro_slot G (G 7 1)).toNatClampNeg) (G 3 10)) 15 ((f_Ro_slot G (G 7 1)).toNatClampNeg) (G 3 11)) 7 3 ((G 7 3) + x2)) 7 1 ((G 7 1) + (1 : Int32)))) else (if ((G 7 3) + x2) ≤ (G 7 0) then (if (G 3 6) = (-1) then (g_up (g_up (g_up (g_up (g_up (g_up (g_up (g_up (g_up (g_up G 8 ((f_Ro_slot G (G 7 1)).toNatClampNeg) x2) 9 ((f_Ro_slot G (G 7 1)).toNatClampNeg) (G 3 6)) 10 ((f_Ro_slot G (G 7 1)).toNatClampNeg) (G 3 7)) 11 ((f_Ro_slot G (G 7 1)).toNatClampNeg) 0) 12 ((f_Ro_slot G (G 7 1)).toNatClampNeg) (G 3 8)) 13 ((f_Ro_slot G (G 7 1)).toNatClampNeg) (G 3 9)) 14 ((f_Ro_slot G (G 7 1)).toNatClampNeg) (G 3 10)) 15 ((f_Ro_slot G (G 7 1)).toNatClampNeg) (G 3 11)) 7 3 ((G 7 3) + x2)) 7 1 ((G 7 1) + (1 : Int32))) else (g_up (g_up (g_up (g_up (g_up (g_up (g_up (g_up (g_up (g_up G 8 ((f_Ro_slot G (G 7 1)).toNatClampNeg) x2) 9 ((f_Ro_slot G (G 7 1)).toNatClampNeg) (G 3 6)) 10 ((f_Ro_slot G (G 7 1)).toNatClampNeg) (G 3 7)) 11 ((f_Ro_slot G (G 7 1)).toNatClampNeg) (G 4 ((G 3 6).toNatClampNeg))) 12 ((f_Ro_slot G (G 7 1)).toNatClampNeg) (G 3 8)) 13 ((f_Ro_slot G (G 7 1)).toNatClampNeg) (G 3 9)) 14 ((f_Ro_slot G (G 7 1)).toNatClampNeg) (G 3 10)) 15 ((f_Ro_slot G (G 7 1)).toNatClampNeg) (G 3 11)) 7 3 ((G 7 3) + x2)) 7 1 ((G 7 1) + (1 : Int32)))) else f_Ro_keep_3_L5 n (g_up (g_up (g_up G 7 3 ((G 7 3) - (G 8 ((f_Ro_slot G (G 7 2)).toNatClampNeg)))) 7 2 ((G 7 2) + (1 : Int32))) 7 4 ((G 7 4) + (1 : Int32))) x2)) := rfl
    have hok : (((G 7 1) ≤ (G 7 2) → (vp_in (f_Ro_slot G (G 7 1)) 1024 ∧ (vp_in (f_Ro_slot G (G 7 1)) 1024 ∧ (vp_in (f_Ro_slot G (G 7 1)) 1024 ∧ (((G 3 6) = (-1) → (vp_in (f_Ro_slot G (G 7 1)) 1024 ∧ (vp_in (f_Ro_slot G (G 7 1)) 1024 ∧ (vp_in (f_Ro_slot G (G 7 1)) 1024 ∧ (vp_in (f_Ro_slot G (G 7 1)) 1024 ∧ (vp_in (f_Ro_slot G (G 7 1)) 1024 ∧ True)))))) ∧ (¬ (G 3 6) = (-1) → (vp_in (G 3 6) 264 ∧ (vp_in (f_Ro_slot G (G 7 1)) 1024 ∧ (vp_in (f_Ro_slot G (G 7 1)) 1024 ∧ (vp_in (f_Ro_slot G (G 7 1)) 1024 ∧ (vp_in (f_Ro_slot G (G 7 1)) 1024 ∧ (vp_in (f_Ro_slot G (G 7 1)) 1024 ∧ True)))))))))))) ∧ (¬ (G 7 1) ≤ (G 7 2) → ((((G 7 3) + x2) ≤ (G 7 0) → (vp_in (f_Ro_slot G (G 7 1)) 1024 ∧ (vp_in (f_Ro_slot G (G 7 1)) 1024 ∧ (vp_in (f_Ro_slot G (G 7 1)) 1024 ∧ (((G 3 6) = (-1) → (vp_in (f_Ro_slot G (G 7 1)) 1024 ∧ (vp_in (f_Ro_slot G (G 7 1)) 1024 ∧ (vp_in (f_Ro_slot G (G 7 1)) 1024 ∧ (vp_in (f_Ro_slot G (G 7 1)) 1024 ∧ (vp_in (f_Ro_slot G (G 7 1)) 1024 ∧ True)))))) ∧ (¬ (G 3 6) = (-1) → (vp_in (G 3 6) 264 ∧ (vp_in (f_Ro_slot G (G 7 1)) 1024 ∧ (vp_in (f_Ro_slot G (G 7 1)) 1024 ∧ (vp_in (f_Ro_slot G (G 7 1)) 1024 ∧ (vp_in (f_Ro_slot G (G 7 1)) 1024 ∧ (vp_in (f_Ro_slot G (G 7 1)) 1024 ∧ True)))))))))))) ∧ (¬ ((G 7 3) + x2) ≤ (G 7 0) → (vp_in (f_Ro_slot G (G 7 2)) 1024 ∧ ok_Ro_keep_3_L5 n (g_up (g_up (g_up G 7 3 ((G 7 3) - (G 8 ((f_Ro_slot G (G 7 2)).toNatClampNeg)))) 7 2 ((G 7 2) + (1 : Int32))) 7 4 ((G 7 4) + (1 : Int32))) x2))))) := hok
    refine lv_aload_n hx hb d_Ro_keep_5 rfl (lv_at hl 0 rfl) ?_
    refine gg_7_2 (x := (G 7 2)) hC hB rfl fl_Ro_46 d_Ro_keep_6 ?_
    refine lv_aload_n hx hb d_Ro_keep_9 rfl (lv_at hl 0 rfl) ?_
    refine gg_7_1 (x := (G 7 1)) hC hB rfl fl_Ro_49 d_Ro_keep_10 ?_
    refine lv_icmp_ge (tgt := 73) hx hb d_Ro_keep_13 (by decide) (fun c1 => ?_) (fun c1 => ?_)
    · replace hf := hf.trans (if_pos c1)
      replace hok := hok.1 c1
      refine lv_aload_n hx hb d_Ro_keep_73 rfl (lv_at hl 0 rfl) ?_
      refine gg_7_1 (x := (G 7 1)) hC hB rfl fl_Ro_49 d_Ro_keep_74 ?_
      refine g_callSi (As := [.int (G 7 1)]) (rest := []) hC hB (c_Ro_slot l G (G 7 1) O) rfl key_Ro_slot rfl sta_Ro_slot ml_Ro_55 rfl hl.1 ⟨Nat.le_of_ble_eq_true rfl, Nat.le_of_ble_eq_true rfl, Nat.le_of_ble_eq_true rfl, Nat.le_of_ble_eq_true rfl⟩ d_Ro_keep_77 (fun H locs hB => ?_)
      refine lv_istore_n (lv' := [(3, .int (f_Ro_slot G (G 7 1))), (0, .ref (ad 7)), (1, .ref (ad 3)), (2, .int x2)]) hx hb d_Ro_keep_80 rfl hl (by decide) rfl (fun ls hl => ?_)
      refine lv_aload_n hx hb d_Ro_keep_81 rfl (lv_at hl 1 rfl) ?_
      refine gr_7_5 hC hB fl_Ro_11 d_Ro_keep_82 ?_
      refine lv_iload_n hx hb d_Ro_keep_85 rfl (lv_at hl 0 rfl) ?_
      refine lv_iload_n hx hb d_Ro_keep_86 rfl (lv_at hl 3 rfl) ?_
      refine gs_8 hC hB hok.1 d_Ro_keep_87 (fun H locs hB => ?_)
      replace hok := hok.2
      refine lv_aload_n hx hb d_Ro_keep_88 rfl (lv_at hl 1 rfl) ?_
      refine gr_7_6 hC hB fl_Ro_15 d_Ro_keep_89 ?_
      refine lv_iload_n hx hb d_Ro_keep_92 rfl (lv_at hl 0 rfl) ?_
      refine lv_aload_n hx hb d_Ro_keep_93 rfl (lv_at hl 2 rfl) ?_
      refine gg_3_6 (x := (G 3 6)) hC hB rfl fl_Ro_62 d_Ro_keep_94 ?_
      refine gs_9 hC hB hok.1 d_Ro_keep_97 (fun H locs hB => ?_)
      replace hok := hok.2
      refine lv_aload_n hx hb d_Ro_keep_98 rfl (lv_at hl 1 rfl) ?_
      refine gr_7_7 hC hB fl_Ro_18 d_Ro_keep_99 ?_
      refine lv_iload_n hx hb d_Ro_keep_102 rfl (lv_at hl 0 rfl) ?_
      refine lv_aload_n hx hb d_Ro_keep_103 rfl (lv_at hl 2 rfl) ?_
      refine gg_3_7 (x := (G 3 7)) hC hB rfl fl_Ro_64 d_Ro_keep_104 ?_
      refine gs_10 hC hB hok.1 d_Ro_keep_107 (fun H locs hB => ?_)
      replace hok := hok.2
      refine lv_aload_n hx hb d_Ro_keep_108 rfl (lv_at hl 1 rfl) ?_
      refine gr_7_8 hC hB fl_Ro_21 d_Ro_keep_109 ?_
      refine lv_iload_n hx hb d_Ro_keep_112 rfl (lv_at hl 0 rfl) ?_
      refine lv_aload_n hx hb d_Ro_keep_113 rfl (lv_at hl 2 rfl) ?_
      refine gg_3_6 (x := (G 3 6)) hC hB rfl fl_Ro_62 d_Ro_keep_114 ?_
      refine lv_iconst (v := (-1)) hx hb d_Ro_keep_117 (by decide) ?_
      refine lv_icmp_ne (tgt := 125) hx hb d_Ro_keep_118 (by decide) (fun c2 => ?_) (fun c2 => ?_)
      · replace hf := hf.trans (if_neg c2)
        replace hok := hok.2 c2
        refine lv_aload_n hx hb d_Ro_keep_125 rfl (lv_at hl 2 rfl) ?_
        refine gr_3_0 hC hB fl_Ro_67 d_Ro_keep_126 ?_
        refine lv_aload_n hx hb d_Ro_keep_129 rfl (lv_at hl 2 rfl) ?_
        refine gg_3_6 (x := (G 3 6)) hC hB rfl fl_Ro_62 d_Ro_keep_130 ?_
        refine ga_4 (x := (G 4 ((G 3 6).toNatClampNeg))) hC hB hok.1 rfl d_Ro_keep_133 ?_
        replace hok := hok.2
        refine gs_11 hC hB hok.1 d_Ro_keep_134 (fun H locs hB => ?_)
        replace hok := hok.2
        refine lv_aload_n hx hb d_Ro_keep_135 rfl (lv_at hl 1 rfl) ?_
        refine gr_7_9 hC hB fl_Ro_24 d_Ro_keep_136 ?_
        refine lv_iload_n hx hb d_Ro_keep_139 rfl (lv_at hl 0 rfl) ?_
        refine lv_aload_n hx hb d_Ro_keep_140 rfl (lv_at hl 2 rfl) ?_
        refine gg_3_8 (x := (G 3 8)) hC hB rfl fl_Ro_70 d_Ro_keep_141 ?_
        refine gs_12 hC hB hok.1 d_Ro_keep_144 (fun H locs hB => ?_)
        replace hok := hok.2
        refine lv_aload_n hx hb d_Ro_keep_145 rfl (lv_at hl 1 rfl) ?_
        refine gr_7_10 hC hB fl_Ro_27 d_Ro_keep_146 ?_
        refine lv_iload_n hx hb d_Ro_keep_149 rfl (lv_at hl 0 rfl) ?_
        refine lv_aload_n hx hb d_Ro_keep_150 rfl (lv_at hl 2 rfl) ?_
        refine gg_3_9 (x := (G 3 9)) hC hB rfl fl_Ro_73 d_Ro_keep_151 ?_
        refine gs_13 hC hB hok.1 d_Ro_keep_154 (fun H locs hB => ?_)
        replace hok := hok.2
        refine lv_aload_n hx hb d_Ro_keep_155 rfl (lv_at hl 1 rfl) ?_
        refine gr_7_11 hC hB fl_Ro_30 d_Ro_keep_156 ?_
        refine lv_iload_n hx hb d_Ro_keep_159 rfl (lv_at hl 0 rfl) ?_
        refine lv_aload_n hx hb d_Ro_keep_160 rfl (lv_at hl 2 rfl) ?_
        refine gg_3_10 (x := (G 3 10)) hC hB rfl fl_Ro_76 d_Ro_keep_161 ?_
        refine gs_14 hC hB hok.1 d_Ro_keep_164 (fun H locs hB => ?_)
        replace hok := hok.2
        refine lv_aload_n hx hb d_Ro_keep_165 rfl (lv_at hl 1 rfl) ?_
        refine gr_7_12 hC hB fl_Ro_33 d_Ro_keep_166 ?_
        refine lv_iload_n hx hb d_Ro_keep_169 rfl (lv_at hl 0 rfl) ?_
        refine lv_aload_n hx hb d_Ro_keep_170 rfl (lv_at hl 2 rfl) ?_
        refine gg_3_11 (x := (G 3 11)) hC hB rfl fl_Ro_79 d_Ro_keep_171 ?_
        refine gs_15 hC hB hok.1 d_Ro_keep_174 (fun H locs hB => ?_)
        replace hok := hok.2
        refine lv_aload_n hx hb d_Ro_keep_175 rfl (lv_at hl 1 rfl) ?_
        refine lv_dup hx hb d_Ro_keep_176 rfl ?_
        refine gg_7_3 (x := (G 7 3)) hC hB rfl fl_Ro_52 d_Ro_keep_177 ?_
        refine lv_iload_n hx hb d_Ro_keep_180 rfl (lv_at hl 3 rfl) ?_
        refine lv_iadd hx hb d_Ro_keep_181 ?_
        refine gp_7_3 hC hB fl_Ro_52 d_Ro_keep_182 (fun H locs hB => ?_)
        refine lv_aload_n hx hb d_Ro_keep_185 rfl (lv_at hl 1 rfl) ?_
        refine lv_dup hx hb d_Ro_keep_186 rfl ?_
        refine gg_7_1 (x := (G 7 1)) hC hB rfl fl_Ro_49 d_Ro_keep_187 ?_
        refine lv_iconst (v := 1) hx hb d_Ro_keep_190 (by decide) ?_
        refine lv_iadd hx hb d_Ro_keep_191 ?_
        refine gp_7_1 hC hB fl_Ro_49 d_Ro_keep_192 (fun H locs hB => ?_)
        exact g_vret hC hB hr hlk (by decide) (by decide) rfl hf d_Ro_keep_195
      · replace hf := hf.trans (if_pos c2)
        replace hok := hok.1 c2
        refine lv_iconst (v := 0) hx hb d_Ro_keep_121 (by decide) ?_
        refine lv_goto (tgt := 134) hx hb d_Ro_keep_122 (by decide) ?_
        refine gs_11 hC hB hok.1 d_Ro_keep_134 (fun H locs hB => ?_)
        replace hok := hok.2
        refine lv_aload_n hx hb d_Ro_keep_135 rfl (lv_at hl 1 rfl) ?_
        refine gr_7_9 hC hB fl_Ro_24 d_Ro_keep_136 ?_
        refine lv_iload_n hx hb d_Ro_keep_139 rfl (lv_at hl 0 rfl) ?_
        refine lv_aload_n hx hb d_Ro_keep_140 rfl (lv_at hl 2 rfl) ?_
        refine gg_3_8 (x := (G 3 8)) hC hB rfl fl_Ro_70 d_Ro_keep_141 ?_
        refine gs_12 hC hB hok.1 d_Ro_keep_144 (fun H locs hB => ?_)
        replace hok := hok.2
        refine lv_aload_n hx hb d_Ro_keep_145 rfl (lv_at hl 1 rfl) ?_
        refine gr_7_10 hC hB fl_Ro_27 d_Ro_keep_146 ?_
        refine lv_iload_n hx hb d_Ro_keep_149 rfl (lv_at hl 0 rfl) ?_
        refine lv_aload_n hx hb d_Ro_keep_150 rfl (lv_at hl 2 rfl) ?_
        refine gg_3_9 (x := (G 3 9)) hC hB rfl fl_Ro_73 d_Ro_keep_151 ?_
        refine gs_13 hC hB hok.1 d_Ro_keep_154 (fun H locs hB => ?_)
        replace hok := hok.2
        refine lv_aload_n hx hb d_Ro_keep_155 rfl (lv_at hl 1 rfl) ?_
        refine gr_7_11 hC hB fl_Ro_30 d_Ro_keep_156 ?_
        refine lv_iload_n hx hb d_Ro_keep_159 rfl (lv_at hl 0 rfl) ?_
        refine lv_aload_n hx hb d_Ro_keep_160 rfl (lv_at hl 2 rfl) ?_
        refine gg_3_10 (x := (G 3 10)) hC hB rfl fl_Ro_76 d_Ro_keep_161 ?_
        refine gs_14 hC hB hok.1 d_Ro_keep_164 (fun H locs hB => ?_)
        replace hok := hok.2
        refine lv_aload_n hx hb d_Ro_keep_165 rfl (lv_at hl 1 rfl) ?_
        refine gr_7_12 hC hB fl_Ro_33 d_Ro_keep_166 ?_
        refine lv_iload_n hx hb d_Ro_keep_169 rfl (lv_at hl 0 rfl) ?_
        refine lv_aload_n hx hb d_Ro_keep_170 rfl (lv_at hl 2 rfl) ?_
        refine gg_3_11 (x := (G 3 11)) hC hB rfl fl_Ro_79 d_Ro_keep_171 ?_
        refine gs_15 hC hB hok.1 d_Ro_keep_174 (fun H locs hB => ?_)
        replace hok := hok.2
        refine lv_aload_n hx hb d_Ro_keep_175 rfl (lv_at hl 1 rfl) ?_
        refine lv_dup hx hb d_Ro_keep_176 rfl ?_
        refine gg_7_3 (x := (G 7 3)) hC hB rfl fl_Ro_52 d_Ro_keep_177 ?_
        refine lv_iload_n hx hb d_Ro_keep_180 rfl (lv_at hl 3 rfl) ?_
        refine lv_iadd hx hb d_Ro_keep_181 ?_
        refine gp_7_3 hC hB fl_Ro_52 d_Ro_keep_182 (fun H locs hB => ?_)
        refine lv_aload_n hx hb d_Ro_keep_185 rfl (lv_at hl 1 rfl) ?_
        refine lv_dup hx hb d_Ro_keep_186 rfl ?_
        refine gg_7_1 (x := (G 7 1)) hC hB rfl fl_Ro_49 d_Ro_keep_187 ?_
        refine lv_iconst (v := 1) hx hb d_Ro_keep_190 (by decide) ?_
        refine lv_iadd hx hb d_Ro_keep_191 ?_
        refine gp_7_1 hC hB fl_Ro_49 d_Ro_keep_192 (fun H locs hB => ?_)
        exact g_vret hC hB hr hlk (by decide) (by decide) rfl hf d_Ro_keep_195
    · replace hf := hf.trans (if_neg c1)
      replace hok := hok.2 c1
      refine lv_aload_n hx hb d_Ro_keep_16 rfl (lv_at hl 0 rfl) ?_
      refine gg_7_3 (x := (G 7 3)) hC hB rfl fl_Ro_52 d_Ro_keep_17 ?_
      refine lv_iload_n hx hb d_Ro_keep_20 rfl (lv_at hl 2 rfl) ?_
      refine lv_iadd hx hb d_Ro_keep_21 ?_
      refine lv_aload_n hx hb d_Ro_keep_22 rfl (lv_at hl 0 rfl) ?_
      refine gg_7_0 (x := (G 7 0)) hC hB rfl fl_Ro_36 d_Ro_keep_23 ?_
      refine lv_icmp_le (tgt := 73) hx hb d_Ro_keep_26 (by decide) (fun c3 => ?_) (fun c3 => ?_)
      · replace hf := hf.trans (if_pos c3)
        replace hok := hok.1 c3
        refine lv_aload_n hx hb d_Ro_keep_73 rfl (lv_at hl 0 rfl) ?_
        refine gg_7_1 (x := (G 7 1)) hC hB rfl fl_Ro_49 d_Ro_keep_74 ?_
        refine g_callSi (As := [.int (G 7 1)]) (rest := []) hC hB (c_Ro_slot l G (G 7 1) O) rfl key_Ro_slot rfl sta_Ro_slot ml_Ro_55 rfl hl.1 ⟨Nat.le_of_ble_eq_true rfl, Nat.le_of_ble_eq_true rfl, Nat.le_of_ble_eq_true rfl, Nat.le_of_ble_eq_true rfl⟩ d_Ro_keep_77 (fun H locs hB => ?_)
        refine lv_istore_n (lv' := [(3, .int (f_Ro_slot G (G 7 1))), (0, .ref (ad 7)), (1, .ref (ad 3)), (2, .int x2)]) hx hb d_Ro_keep_80 rfl hl (by decide) rfl (fun ls hl => ?_)
        refine lv_aload_n hx hb d_Ro_keep_81 rfl (lv_at hl 1 rfl) ?_
        refine gr_7_5 hC hB fl_Ro_11 d_Ro_keep_82 ?_
        refine lv_iload_n hx hb d_Ro_keep_85 rfl (lv_at hl 0 rfl) ?_
        refine lv_iload_n hx hb d_Ro_keep_86 rfl (lv_at hl 3 rfl) ?_
        refine gs_8 hC hB hok.1 d_Ro_keep_87 (fun H locs hB => ?_)
        replace hok := hok.2
        refine lv_aload_n hx hb d_Ro_keep_88 rfl (lv_at hl 1 rfl) ?_
        refine gr_7_6 hC hB fl_Ro_15 d_Ro_keep_89 ?_
        refine lv_iload_n hx hb d_Ro_keep_92 rfl (lv_at hl 0 rfl) ?_
        refine lv_aload_n hx hb d_Ro_keep_93 rfl (lv_at hl 2 rfl) ?_
        refine gg_3_6 (x := (G 3 6)) hC hB rfl fl_Ro_62 d_Ro_keep_94 ?_
        refine gs_9 hC hB hok.1 d_Ro_keep_97 (fun H locs hB => ?_)
        replace hok := hok.2
        refine lv_aload_n hx hb d_Ro_keep_98 rfl (lv_at hl 1 rfl) ?_
        refine gr_7_7 hC hB fl_Ro_18 d_Ro_keep_99 ?_
        refine lv_iload_n hx hb d_Ro_keep_102 rfl (lv_at hl 0 rfl) ?_
        refine lv_aload_n hx hb d_Ro_keep_103 rfl (lv_at hl 2 rfl) ?_
        refine gg_3_7 (x := (G 3 7)) hC hB rfl fl_Ro_64 d_Ro_keep_104 ?_
        refine gs_10 hC hB hok.1 d_Ro_keep_107 (fun H locs hB => ?_)
        replace hok := hok.2
        refine lv_aload_n hx hb d_Ro_keep_108 rfl (lv_at hl 1 rfl) ?_
        refine gr_7_8 hC hB fl_Ro_21 d_Ro_keep_109 ?_
        refine lv_iload_n hx hb d_Ro_keep_112 rfl (lv_at hl 0 rfl) ?_
        refine lv_aload_n hx hb d_Ro_keep_113 rfl (lv_at hl 2 rfl) ?_
        refine gg_3_6 (x := (G 3 6)) hC hB rfl fl_Ro_62 d_Ro_keep_114 ?_
        refine lv_iconst (v := (-1)) hx hb d_Ro_keep_117 (by decide) ?_
        refine lv_icmp_ne (tgt := 125) hx hb d_Ro_keep_118 (by decide) (fun c4 => ?_) (fun c4 => ?_)
        · replace hf := hf.trans (if_neg c4)
          replace hok := hok.2 c4
          refine lv_aload_n hx hb d_Ro_keep_125 rfl (lv_at hl 2 rfl) ?_
          refine gr_3_0 hC hB fl_Ro_67 d_Ro_keep_126 ?_
          refine lv_aload_n hx hb d_Ro_keep_129 rfl (lv_at hl 2 rfl) ?_
          refine gg_3_6 (x := (G 3 6)) hC hB rfl fl_Ro_62 d_Ro_keep_130 ?_
          refine ga_4 (x := (G 4 ((G 3 6).toNatClampNeg))) hC hB hok.1 rfl d_Ro_keep_133 ?_
          replace hok := hok.2
          refine gs_11 hC hB hok.1 d_Ro_keep_134 (fun H locs hB => ?_)
          replace hok := hok.2
          refine lv_aload_n hx hb d_Ro_keep_135 rfl (lv_at hl 1 rfl) ?_
          refine gr_7_9 hC hB fl_Ro_24 d_Ro_keep_136 ?_
          refine lv_iload_n hx hb d_Ro_keep_139 rfl (lv_at hl 0 rfl) ?_
          refine lv_aload_n hx hb d_Ro_keep_140 rfl (lv_at hl 2 rfl) ?_
          refine gg_3_8 (x := (G 3 8)) hC hB rfl fl_Ro_70 d_Ro_keep_141 ?_
          refine gs_12 hC hB hok.1 d_Ro_keep_144 (fun H locs hB => ?_)
          replace hok := hok.2
          refine lv_aload_n hx hb d_Ro_keep_145 rfl (lv_at hl 1 rfl) ?_
          refine gr_7_10 hC hB fl_Ro_27 d_Ro_keep_146 ?_
          refine lv_iload_n hx hb d_Ro_keep_149 rfl (lv_at hl 0 rfl) ?_
          refine lv_aload_n hx hb d_Ro_keep_150 rfl (lv_at hl 2 rfl) ?_
          refine gg_3_9 (x := (G 3 9)) hC hB rfl fl_Ro_73 d_Ro_keep_151 ?_
          refine gs_13 hC hB hok.1 d_Ro_keep_154 (fun H locs hB => ?_)
          replace hok := hok.2
          refine lv_aload_n hx hb d_Ro_keep_155 rfl (lv_at hl 1 rfl) ?_
          refine gr_7_11 hC hB fl_Ro_30 d_Ro_keep_156 ?_
          refine lv_iload_n hx hb d_Ro_keep_159 rfl (lv_at hl 0 rfl) ?_
          refine lv_aload_n hx hb d_Ro_keep_160 rfl (lv_at hl 2 rfl) ?_
          refine gg_3_10 (x := (G 3 10)) hC hB rfl fl_Ro_76 d_Ro_keep_161 ?_
          refine gs_14 hC hB hok.1 d_Ro_keep_164 (fun H locs hB => ?_)
          replace hok := hok.2
          refine lv_aload_n hx hb d_Ro_keep_165 rfl (lv_at hl 1 rfl) ?_
          refine gr_7_12 hC hB fl_Ro_33 d_Ro_keep_166 ?_
          refine lv_iload_n hx hb d_Ro_keep_169 rfl (lv_at hl 0 rfl) ?_
          refine lv_aload_n hx hb d_Ro_keep_170 rfl (lv_at hl 2 rfl) ?_
          refine gg_3_11 (x := (G 3 11)) hC hB rfl fl_Ro_79 d_Ro_keep_171 ?_
          refine gs_15 hC hB hok.1 d_Ro_keep_174 (fun H locs hB => ?_)
          replace hok := hok.2
          refine lv_aload_n hx hb d_Ro_keep_175 rfl (lv_at hl 1 rfl) ?_
          refine lv_dup hx hb d_Ro_keep_176 rfl ?_
          refine gg_7_3 (x := (G 7 3)) hC hB rfl fl_Ro_52 d_Ro_keep_177 ?_
          refine lv_iload_n hx hb d_Ro_keep_180 rfl (lv_at hl 3 rfl) ?_
          refine lv_iadd hx hb d_Ro_keep_181 ?_
          refine gp_7_3 hC hB fl_Ro_52 d_Ro_keep_182 (fun H locs hB => ?_)
          refine lv_aload_n hx hb d_Ro_keep_185 rfl (lv_at hl 1 rfl) ?_
          refine lv_dup hx hb d_Ro_keep_186 rfl ?_
          refine gg_7_1 (x := (G 7 1)) hC hB rfl fl_Ro_49 d_Ro_keep_187 ?_
          refine lv_iconst (v := 1) hx hb d_Ro_keep_190 (by decide) ?_
          refine lv_iadd hx hb d_Ro_keep_191 ?_
          refine gp_7_1 hC hB fl_Ro_49 d_Ro_keep_192 (fun H locs hB => ?_)
          exact g_vret hC hB hr hlk (by decide) (by decide) rfl hf d_Ro_keep_195
        · replace hf := hf.trans (if_pos c4)
          replace hok := hok.1 c4
          refine lv_iconst (v := 0) hx hb d_Ro_keep_121 (by decide) ?_
          refine lv_goto (tgt := 134) hx hb d_Ro_keep_122 (by decide) ?_
          refine gs_11 hC hB hok.1 d_Ro_keep_134 (fun H locs hB => ?_)
          replace hok := hok.2
          refine lv_aload_n hx hb d_Ro_keep_135 rfl (lv_at hl 1 rfl) ?_
          refine gr_7_9 hC hB fl_Ro_24 d_Ro_keep_136 ?_
          refine lv_iload_n hx hb d_Ro_keep_139 rfl (lv_at hl 0 rfl) ?_
          refine lv_aload_n hx hb d_Ro_keep_140 rfl (lv_at hl 2 rfl) ?_
          refine gg_3_8 (x := (G 3 8)) hC hB rfl fl_Ro_70 d_Ro_keep_141 ?_
          refine gs_12 hC hB hok.1 d_Ro_keep_144 (fun H locs hB => ?_)
          replace hok := hok.2
          refine lv_aload_n hx hb d_Ro_keep_145 rfl (lv_at hl 1 rfl) ?_
          refine gr_7_10 hC hB fl_Ro_27 d_Ro_keep_146 ?_
          refine lv_iload_n hx hb d_Ro_keep_149 rfl (lv_at hl 0 rfl) ?_
          refine lv_aload_n hx hb d_Ro_keep_150 rfl (lv_at hl 2 rfl) ?_
          refine gg_3_9 (x := (G 3 9)) hC hB rfl fl_Ro_73 d_Ro_keep_151 ?_
          refine gs_13 hC hB hok.1 d_Ro_keep_154 (fun H locs hB => ?_)
          replace hok := hok.2
          refine lv_aload_n hx hb d_Ro_keep_155 rfl (lv_at hl 1 rfl) ?_
          refine gr_7_11 hC hB fl_Ro_30 d_Ro_keep_156 ?_
          refine lv_iload_n hx hb d_Ro_keep_159 rfl (lv_at hl 0 rfl) ?_
          refine lv_aload_n hx hb d_Ro_keep_160 rfl (lv_at hl 2 rfl) ?_
          refine gg_3_10 (x := (G 3 10)) hC hB rfl fl_Ro_76 d_Ro_keep_161 ?_
          refine gs_14 hC hB hok.1 d_Ro_keep_164 (fun H locs hB => ?_)
          replace hok := hok.2
          refine lv_aload_n hx hb d_Ro_keep_165 rfl (lv_at hl 1 rfl) ?_
          refine gr_7_12 hC hB fl_Ro_33 d_Ro_keep_166 ?_
          refine lv_iload_n hx hb d_Ro_keep_169 rfl (lv_at hl 0 rfl) ?_
          refine lv_aload_n hx hb d_Ro_keep_170 rfl (lv_at hl 2 rfl) ?_
          refine gg_3_11 (x := (G 3 11)) hC hB rfl fl_Ro_79 d_Ro_keep_171 ?_
          refine gs_15 hC hB hok.1 d_Ro_keep_174 (fun H locs hB => ?_)
          replace hok := hok.2
          refine lv_aload_n hx hb d_Ro_keep_175 rfl (lv_at hl 1 rfl) ?_
          refine lv_dup hx hb d_Ro_keep_176 rfl ?_
          refine gg_7_3 (x := (G 7 3)) hC hB rfl fl_Ro_52 d_Ro_keep_177 ?_
          refine lv_iload_n hx hb d_Ro_keep_180 rfl (lv_at hl 3 rfl) ?_
          refine lv_iadd hx hb d_Ro_keep_181 ?_
          refine gp_7_3 hC hB fl_Ro_52 d_Ro_keep_182 (fun H locs hB => ?_)
          refine lv_aload_n hx hb d_Ro_keep_185 rfl (lv_at hl 1 rfl) ?_
          refine lv_dup hx hb d_Ro_keep_186 rfl ?_
          refine gg_7_1 (x := (G 7 1)) hC hB rfl fl_Ro_49 d_Ro_keep_187 ?_
          refine lv_iconst (v := 1) hx hb d_Ro_keep_190 (by decide) ?_
          refine lv_iadd hx hb d_Ro_keep_191 ?_
          refine gp_7_1 hC hB fl_Ro_49 d_Ro_keep_192 (fun H locs hB => ?_)
          exact g_vret hC hB hr hlk (by decide) (by decide) rfl hf d_Ro_keep_195
      · replace hf := hf.trans (if_neg c3)
        replace hok := hok.2 c3
        refine lv_aload_n hx hb d_Ro_keep_29 rfl (lv_at hl 0 rfl) ?_
        refine lv_dup hx hb d_Ro_keep_30 rfl ?_
        refine gg_7_3 (x := (G 7 3)) hC hB rfl fl_Ro_52 d_Ro_keep_31 ?_
        refine lv_aload_n hx hb d_Ro_keep_34 rfl (lv_at hl 0 rfl) ?_
        refine gr_7_5 hC hB fl_Ro_11 d_Ro_keep_35 ?_
        refine lv_aload_n hx hb d_Ro_keep_38 rfl (lv_at hl 0 rfl) ?_
        refine gg_7_2 (x := (G 7 2)) hC hB rfl fl_Ro_46 d_Ro_keep_39 ?_
        refine g_callSi (As := [.int (G 7 2)]) (rest := [.ref (ad 8), .int (G 7 3), .ref (ad 7)]) hC hB (c_Ro_slot l G (G 7 2) O) rfl key_Ro_slot rfl sta_Ro_slot ml_Ro_55 rfl hl.1 ⟨Nat.le_of_ble_eq_true rfl, Nat.le_of_ble_eq_true rfl, Nat.le_of_ble_eq_true rfl, Nat.le_of_ble_eq_true rfl⟩ d_Ro_keep_42 (fun H locs hB => ?_)
        refine ga_8 (x := (G 8 ((f_Ro_slot G (G 7 2)).toNatClampNeg))) hC hB hok.1 rfl d_Ro_keep_45 ?_
        replace hok := hok.2
        refine lv_isub hx hb d_Ro_keep_46 ?_
        refine gp_7_3 hC hB fl_Ro_52 d_Ro_keep_47 (fun H locs hB => ?_)
        refine lv_aload_n hx hb d_Ro_keep_50 rfl (lv_at hl 0 rfl) ?_
        refine lv_dup hx hb d_Ro_keep_51 rfl ?_
        refine gg_7_2 (x := (G 7 2)) hC hB rfl fl_Ro_46 d_Ro_keep_52 ?_
        refine lv_iconst (v := 1) hx hb d_Ro_keep_55 (by decide) ?_
        refine lv_iadd hx hb d_Ro_keep_56 ?_
        refine gp_7_2 hC hB fl_Ro_46 d_Ro_keep_57 (fun H locs hB => ?_)
        refine lv_aload_n hx hb d_Ro_keep_60 rfl (lv_at hl 0 rfl) ?_
        refine lv_dup hx hb d_Ro_keep_61 rfl ?_
        refine gg_7_4 (x := (G 7 4)) hC hB rfl fl_Ro_59 d_Ro_keep_62 ?_
        refine lv_iconst (v := 1) hx hb d_Ro_keep_65 (by decide) ?_
        refine lv_iadd hx hb d_Ro_keep_66 ?_
        refine gp_7_4 hC hB fl_Ro_59 d_Ro_keep_67 (fun H locs hB => ?_)
        refine lv_goto (tgt := 5) hx hb d_Ro_keep_70 (by decide) ?_
        rw [hf]
        exact ih (g_up (g_up (g_up G 7 3 ((G 7 3) - (G 8 ((f_Ro_slot G (G 7 2)).toNatClampNeg)))) 7 2 ((G 7 2) + (1 : Int32))) 7 4 ((G 7 4) + (1 : Int32))) x2 hok _ _ hB ls (lv_sub hl [0, 1, 2] rfl)
def f_Ro_keep_3 (N : Nat) (G : gT) : gT := f_Ro_keep_3_L5 N G (f_Ma_costOfLatest_3 G)
def ok_Ro_keep_3 (N : Nat) (G : gT) : Prop := (ok_Ma_costOfLatest_3 G ∧ ok_Ro_keep_3_L5 N G (f_Ma_costOfLatest_3 G))
set_option maxHeartbeats 4000000 in
set_option maxRecDepth 100000 in
theorem c_Ro_keep_3 (l : Launch) (N : Nat) (G : gT) (O : Int64) (hok : ok_Ro_keep_3 N G) : gMet l y_Ro_keep w_Ro_keep rm_Ro_keep_3 (fun ad => [.ref (ad 7), .ref (ad 3)]) G O (.inl (none)) (f_Ro_keep_3 N G) O := by
  refine g_body (by decide) (gCode_of _ _ _ _) (fun ad => by simp [lg_sl, Value.category]) ?_
  intro p e s0 s m args below meth c D cI cL ad hC hr hlk htb hB ls hl
  have hC : CallFix p m c b_Ro_keep 4 s args gtb R_Ro := hC
  have hl : lv_has ls 4 [(0, .ref (ad 7)), (1, .ref (ad 3))] := hl
  have hx := hC.1
  have hb := hC.2.1
  have hf : f_Ro_keep_3 N G = f_Ro_keep_3_L5 N G (f_Ma_costOfLatest_3 G) := rfl
  have hok : (ok_Ma_costOfLatest_3 G ∧ ok_Ro_keep_3_L5 N G (f_Ma_costOfLatest_3 G)) := hok
  refine lv_aload_n hx hb d_Ro_keep_0 rfl (lv_at hl 1 rfl) ?_
  refine g_callVi (b := ad 3) (As := []) (rest := []) hC hB (c_Ma_costOfLatest_3 l G O hok.1) rfl key_Ma_costOfLatest rfl ins_Ma_costOfLatest sel_Ma_costOfLatest ml_Ro_40 (g_rec3 hB) rfl hl.1 ⟨Nat.le_of_ble_eq_true rfl, Nat.le_of_ble_eq_true rfl, Nat.le_of_ble_eq_true rfl, Nat.le_of_ble_eq_true rfl⟩ d_Ro_keep_1 (fun H locs hB => ?_)
  replace hok := hok.2
  refine lv_istore_n (lv' := [(2, .int (f_Ma_costOfLatest_3 G)), (0, .ref (ad 7)), (1, .ref (ad 3))]) hx hb d_Ro_keep_4 rfl hl (by decide) rfl (fun ls hl => ?_)
  rw [hf]
  refine W.widen (k := 0) (n := 0) (by decide) (by decide) ?_
  exact w_Ro_keep_3_L5 hC hr hlk N G (f_Ma_costOfLatest_3 G) hok _ _ hB ls (lv_sub hl [1, 2, 0] rfl)
abbrev rm_BS_numberAt : Room := { frames := 2, cells := 0, slots := 0, locals := 28 }
def f_BS_numberAt_L19 : Nat → gT → Int32 → Int32 → Int32 → Int32 → Int32
  | 0, G, x1, x2, x3, x4 => 0
  | n + 1, G, x1, x2, x3, x4 => (if x4 ≤ x1 then x3 else f_BS_numberAt_L19 n G x1 x2 (f_Ro_numberBefore G (x4 - (1 : Int32)) x2 x3) (x4 + (-1)))
def ok_BS_numberAt_L19 : Nat → gT → Int32 → Int32 → Int32 → Int32 → Prop
  | 0, G, x1, x2, x3, x4 => False
  | n + 1, G, x1, x2, x3, x4 => ((x4 ≤ x1 → True) ∧ (¬ x4 ≤ x1 → (ok_Ro_numberBefore G (x4 - (1 : Int32)) x2 x3 ∧ ok_BS_numberAt_L19 n G x1 x2 (f_Ro_numberBefore G (x4 - (1 : Int32)) x2 x3) (x4 + (-1)))))
set_option maxHeartbeats 4000000 in
set_option maxRecDepth 100000 in
theorem w_BS_numberAt_L19 {p : Program} {l : Launch} {e : Env} {s0 s : State} {m : MethodId} {args : Array Value} {below : List Frame} {meth : Method} {c : Code} {D : va_G} {cI cL : ClassId} {ad : Nat → Nat} {O : Int64} (hC : CallFix p m c b_BS_numberAt 5 s args gtb R_BS) (hr : meth.sig.returnType = some .int) (hlk : meth.locks = false) : ∀ (n : Nat) (G : gT) (x1 : Int32) (x2 : Int32) (x3 : Int32) (x4 : Int32), ok_BS_numberAt_L19 n G x1 x2 x3 x4 → ∀ (H : Heap) (locs : List Loc), gB s0 s D cI cL ad G O H locs → ∀ ls : Array Slot, lv_has ls 5 [(0, .ref (ad 0)), (1, .int x1), (2, .int x2), (3, .int x3), (4, .int x4)] → W p l e rm_BS_numberAt s m args below meth c H locs 0 0 (gE s0 below args s D cI cL ad 0 0 (.inl (some (.int (f_BS_numberAt_L19 n G x1 x2 x3 x4)))) G O) (F0 m 19 ls []) := by
  have hx := hC.1
  have hb := hC.2.1
  intro n
  induction n with
  | zero =>
    intro G x1 x2 x3 x4 hok
    exact absurd hok (fun h => h)
  | succ n ih =>
    intro G x1 x2 x3 x4 hok H locs hB ls hl
    have hf : f_BS_numberAt_L19 (n + 1) G x1 x2 x3 x4 = (if x4 ≤ x1 then x3 else f_BS_numberAt_L19 n G x1 x2 (f_Ro_numberBefore G (x4 - (1 : Int32)) x2 x3) (x4 + (-1))) := rfl
    have hok : ((x4 ≤ x1 → True) ∧ (¬ x4 ≤ x1 → (ok_Ro_numberBefore G (x4 - (1 : Int32)) x2 x3 ∧ ok_BS_numberAt_L19 n G x1 x2 (f_Ro_numberBefore G (x4 - (1 : Int32)) x2 x3) (x4 + (-1))))) := hok
    refine lv_iload hx hb d_BS_numberAt_19 (lv_at hl 4 rfl) ?_
    refine lv_iload_n hx hb d_BS_numberAt_21 rfl (lv_at hl 1 rfl) ?_
    refine lv_icmp_le (tgt := 45) hx hb d_BS_numberAt_22 (by decide) (fun c1 => ?_) (fun c1 => ?_)
    · replace hf := hf.trans (if_pos c1)
      replace hok := hok.1 c1
      refine lv_iload_n hx hb d_BS_numberAt_45 rfl (lv_at hl 3 rfl) ?_
      exact g_iret hC hB hr hlk (by decide) (by decide) (by rw [hf]) rfl d_BS_numberAt_46
    · replace hf := hf.trans (if_neg c1)
      replace hok := hok.2 c1
      refine lv_aload_n hx hb d_BS_numberAt_25 rfl (lv_at hl 0 rfl) ?_
      refine gr_0_6 hC hB fl_BS_37 d_BS_numberAt_26 ?_
      refine lv_iload hx hb d_BS_numberAt_29 (lv_at hl 4 rfl) ?_
      refine lv_iconst (v := 1) hx hb d_BS_numberAt_31 (by decide) ?_
      refine lv_isub hx hb d_BS_numberAt_32 ?_
      refine lv_iload_n hx hb d_BS_numberAt_33 rfl (lv_at hl 2 rfl) ?_
      refine lv_iload_n hx hb d_BS_numberAt_34 rfl (lv_at hl 3 rfl) ?_
      refine g_callVi (b := ad 7) (As := [.int (x4 - (1 : Int32)), .int x2, .int x3]) (rest := []) hC hB (c_Ro_numberBefore l G (x4 - (1 : Int32)) x2 x3 O hok.1) rfl key_Ro_numberBefore rfl ins_Ro_numberBefore sel_Ro_numberBefore ml_BS_113 (g_rec7 hB) rfl hl.1 ⟨Nat.le_of_ble_eq_true rfl, Nat.le_of_ble_eq_true rfl, Nat.le_of_ble_eq_true rfl, Nat.le_of_ble_eq_true rfl⟩ d_BS_numberAt_35 (fun H locs hB => ?_)
      replace hok := hok.2
      refine lv_istore_n (lv' := [(3, .int (f_Ro_numberBefore G (x4 - (1 : Int32)) x2 x3)), (0, .ref (ad 0)), (1, .int x1), (2, .int x2), (4, .int x4)]) hx hb d_BS_numberAt_38 rfl hl (by decide) rfl (fun ls hl => ?_)
      refine lv_iinc (v := x4 + (-1)) (lv' := [(4, .int (x4 + (-1))), (3, .int (f_Ro_numberBefore G (x4 - (1 : Int32)) x2 x3)), (0, .ref (ad 0)), (1, .int x1), (2, .int x2)]) hx hb d_BS_numberAt_39 hl (k := 4) rfl (congrArg (fun z : Int32 => x4 + z) (by decide)) (by decide) rfl (fun ls hl => ?_)
      refine lv_goto (tgt := 19) hx hb d_BS_numberAt_42 (by decide) ?_
      rw [hf]
      exact ih G x1 x2 (f_Ro_numberBefore G (x4 - (1 : Int32)) x2 x3) (x4 + (-1)) hok _ _ hB ls (lv_sub hl [2, 3, 4, 1, 0] rfl)
def f_BS_numberAt (N : Nat) (G : gT) (p1 : Int32) (p2 : Int32) : Int32 := f_BS_numberAt_L19 N G p1 p2 (G 4 p2.toNatClampNeg) (G 7 1)
def ok_BS_numberAt (N : Nat) (G : gT) (p1 : Int32) (p2 : Int32) : Prop := (vp_in p2 264 ∧ ok_BS_numberAt_L19 N G p1 p2 (G 4 p2.toNatClampNeg) (G 7 1))
set_option maxHeartbeats 4000000 in
set_option maxRecDepth 100000 in
theorem c_BS_numberAt (l : Launch) (N : Nat) (G : gT) (p1 : Int32) (p2 : Int32) (O : Int64) (hok : ok_BS_numberAt N G p1 p2) : gMet l y_BS_numberAt w_BS_numberAt rm_BS_numberAt (fun ad => [.ref (ad 0), .int p1, .int p2]) G O (.inl (some (.int (f_BS_numberAt N G p1 p2)))) G O := by
  refine g_body (by decide) (gCode_of _ _ _ _) (fun ad => by simp [lg_sl, Value.category]) ?_
  intro p e s0 s m args below meth c D cI cL ad hC hr hlk htb hB ls hl
  have hC : CallFix p m c b_BS_numberAt 5 s args gtb R_BS := hC
  have hl : lv_has ls 5 [(0, .ref (ad 0)), (1, .int p1), (2, .int p2)] := hl
  have hx := hC.1
  have hb := hC.2.1
  have hf : f_BS_numberAt N G p1 p2 = f_BS_numberAt_L19 N G p1 p2 (G 4 p2.toNatClampNeg) (G 7 1) := rfl
  have hok : (vp_in p2 264 ∧ ok_BS_numberAt_L19 N G p1 p2 (G 4 p2.toNatClampNeg) (G 7 1)) := hok
  refine lv_aload_n hx hb d_BS_numberAt_0 rfl (lv_at hl 0 rfl) ?_
  refine gr_0_4 hC hB fl_BS_19 d_BS_numberAt_1 ?_
  refine gr_3_0 hC hB fl_BS_66 d_BS_numberAt_4 ?_
  refine lv_iload_n hx hb d_BS_numberAt_7 rfl (lv_at hl 2 rfl) ?_
  refine ga_4 (x := (G 4 p2.toNatClampNeg)) hC hB hok.1 rfl d_BS_numberAt_8 ?_
  replace hok := hok.2
  refine lv_istore_n (lv' := [(3, .int (G 4 p2.toNatClampNeg)), (0, .ref (ad 0)), (1, .int p1), (2, .int p2)]) hx hb d_BS_numberAt_9 rfl hl (by decide) rfl (fun ls hl => ?_)
  refine lv_aload_n hx hb d_BS_numberAt_10 rfl (lv_at hl 1 rfl) ?_
  refine gr_0_6 hC hB fl_BS_37 d_BS_numberAt_11 ?_
  refine gg_7_1 (x := (G 7 1)) hC hB rfl fl_BS_88 d_BS_numberAt_14 ?_
  refine lv_istore (lv' := [(4, .int (G 7 1)), (3, .int (G 4 p2.toNatClampNeg)), (0, .ref (ad 0)), (1, .int p1), (2, .int p2)]) hx hb d_BS_numberAt_17 hl (by decide) rfl (fun ls hl => ?_)
  rw [hf]
  refine W.widen (k := 0) (n := 0) (by decide) (by decide) ?_
  exact w_BS_numberAt_L19 hC hr hlk N G p1 p2 (G 4 p2.toNatClampNeg) (G 7 1) hok _ _ hB ls (lv_sub hl [2, 3, 4, 1, 0] rfl)
abbrev rm_BS_sameRestAt : Room := { frames := 3, cells := 0, slots := 0, locals := 42 }
def f_BS_sameRestAt_L4 : Nat → gT → Int32 → Int32 → Int32
  | 0, G, x1, x2 => 0
  | n + 1, G, x1, x2 => (if (268 : Int32) < x2 then 1 else (if (f_Ma_rest_5 G x2) = (f_BS_restAt G x1 x2) then f_BS_sameRestAt_L4 n G x1 (x2 + 1) else 0))
def ok_BS_sameRestAt_L4 : Nat → gT → Int32 → Int32 → Prop
  | 0, G, x1, x2 => False
  | n + 1, G, x1, x2 => (((268 : Int32) < x2 → True) ∧ (¬ (268 : Int32) < x2 → (ok_BS_restAt G x1 x2 ∧ (((f_Ma_rest_5 G x2) = (f_BS_restAt G x1 x2) → ok_BS_sameRestAt_L4 n G x1 (x2 + 1)) ∧ (¬ (f_Ma_rest_5 G x2) = (f_BS_restAt G x1 x2) → True)))))
set_option maxHeartbeats 4000000 in
set_option maxRecDepth 100000 in
theorem w_BS_sameRestAt_L4 {p : Program} {l : Launch} {e : Env} {s0 s : State} {m : MethodId} {args : Array Value} {below : List Frame} {meth : Method} {c : Code} {D : va_G} {cI cL : ClassId} {ad : Nat → Nat} {O : Int64} (hC : CallFix p m c b_BS_sameRestAt 3 s args gtb R_BS) (hr : meth.sig.returnType = some .boolean) (hlk : meth.locks = false) : ∀ (n : Nat) (G : gT) (x1 : Int32) (x2 : Int32), ok_BS_sameRestAt_L4 n G x1 x2 → ∀ (H : Heap) (locs : List Loc), gB s0 s D cI cL ad G O H locs → ∀ ls : Array Slot, lv_has ls 3 [(0, .ref (ad 0)), (1, .int x1), (2, .int x2)] → W p l e rm_BS_sameRestAt s m args below meth c H locs 0 0 (gE s0 below args s D cI cL ad 0 0 (.inl (some (.int (f_BS_sameRestAt_L4 n G x1 x2)))) G O) (F0 m 4 ls []) := by
  have hx := hC.1
  have hb := hC.2.1
  intro n
  induction n with
  | zero =>
    intro G x1 x2 hok
    exact absurd hok (fun h => h)
  | succ n ih =>
    intro G x1 x2 hok H locs hB ls hl
    have hf : f_BS_sameRestAt_L4 (n + 1) G x1 x2 = (if (268 : Int32) < x2 then 1 else (if (f_Ma_rest_5 G x2) = (f_BS_restAt G x1 x2) then f_BS_sameRestAt_L4 n G x1 (x2 + 1) else 0)) := rfl
    have hok : (((268 : Int32) < x2 → True) ∧ (¬ (268 : Int32) < x2 → (ok_BS_restAt G x1 x2 ∧ (((f_Ma_rest_5 G x2) = (f_BS_restAt G x1 x2) → ok_BS_sameRestAt_L4 n G x1 (x2 + 1)) ∧ (¬ (f_Ma_rest_5 G x2) = (f_BS_restAt G x1 x2) → True))))) := hok
    refine lv_iload_n hx hb d_BS_sameRestAt_4 rfl (lv_at hl 2 rfl) ?_
    refine lv_sipush (v := 268) hx hb d_BS_sameRestAt_5 (by decide) ?_
    refine lv_icmp_gt (tgt := 36) hx hb d_BS_sameRestAt_8 (by decide) (fun c1 => ?_) (fun c1 => ?_)
    · replace hf := hf.trans (if_pos c1)
      replace hok := hok.1 c1
      refine lv_iconst (v := 1) hx hb d_BS_sameRestAt_36 (by decide) ?_
      exact g_zret hC hB hr hlk (by decide) (by decide) (by decide) (by rw [hf]) rfl d_BS_sameRestAt_37
    · replace hf := hf.trans (if_neg c1)
      replace hok := hok.2 c1
      refine lv_aload_n hx hb d_BS_sameRestAt_11 rfl (lv_at hl 0 rfl) ?_
      refine gr_0_5 hC hB fl_BS_23 d_BS_sameRestAt_12 ?_
      refine lv_iload_n hx hb d_BS_sameRestAt_15 rfl (lv_at hl 2 rfl) ?_
      refine g_callVi (b := ad 5) (As := [.int x2]) (rest := []) hC hB (c_Ma_rest_5 l G x2 O) rfl key_Ma_rest rfl ins_Ma_rest sel_Ma_rest ml_BS_150 (g_rec5 hB) rfl hl.1 ⟨Nat.le_of_ble_eq_true rfl, Nat.le_of_ble_eq_true rfl, Nat.le_of_ble_eq_true rfl, Nat.le_of_ble_eq_true rfl⟩ d_BS_sameRestAt_16 (fun H locs hB => ?_)
      refine lv_aload_n hx hb d_BS_sameRestAt_19 rfl (lv_at hl 0 rfl) ?_
      refine lv_iload_n hx hb d_BS_sameRestAt_20 rfl (lv_at hl 1 rfl) ?_
      refine lv_iload_n hx hb d_BS_sameRestAt_21 rfl (lv_at hl 2 rfl) ?_
      refine g_callVi (b := ad 0) (As := [.int x1, .int x2]) (rest := [.int (f_Ma_rest_5 G x2)]) hC hB (c_BS_restAt l G x1 x2 O hok.1) rfl key_BS_restAt rfl ins_BS_restAt sel_BS_restAt ml_BS_103 (g_rec0 hB) rfl hl.1 ⟨Nat.le_of_ble_eq_true rfl, Nat.le_of_ble_eq_true rfl, Nat.le_of_ble_eq_true rfl, Nat.le_of_ble_eq_true rfl⟩ d_BS_sameRestAt_22 (fun H locs hB => ?_)
      replace hok := hok.2
      refine lv_icmp_eq (tgt := 30) hx hb d_BS_sameRestAt_25 (by decide) (fun c2 => ?_) (fun c2 => ?_)
      · replace hf := hf.trans (if_pos c2)
        replace hok := hok.1 c2
        refine lv_iinc (v := x2 + 1) (lv' := [(2, .int (x2 + 1)), (0, .ref (ad 0)), (1, .int x1)]) hx hb d_BS_sameRestAt_30 hl (k := 2) rfl rfl (by decide) rfl (fun ls hl => ?_)
        refine lv_goto (tgt := 4) hx hb d_BS_sameRestAt_33 (by decide) ?_
        rw [hf]
        exact ih G x1 (x2 + 1) hok _ _ hB ls (lv_sub hl [1, 2, 0] rfl)
      · replace hf := hf.trans (if_neg c2)
        replace hok := hok.2 c2
        refine lv_iconst (v := 0) hx hb d_BS_sameRestAt_28 (by decide) ?_
        exact g_zret hC hB hr hlk (by decide) (by decide) (by decide) (by rw [hf]) rfl d_BS_sameRestAt_29
def f_BS_sameRestAt (N : Nat) (G : gT) (p1 : Int32) : Int32 := f_BS_sameRestAt_L4 N G p1 264
def ok_BS_sameRestAt (N : Nat) (G : gT) (p1 : Int32) : Prop := ok_BS_sameRestAt_L4 N G p1 264
set_option maxHeartbeats 4000000 in
set_option maxRecDepth 100000 in
theorem c_BS_sameRestAt (l : Launch) (N : Nat) (G : gT) (p1 : Int32) (O : Int64) (hok : ok_BS_sameRestAt N G p1) : gMet l y_BS_sameRestAt w_BS_sameRestAt rm_BS_sameRestAt (fun ad => [.ref (ad 0), .int p1]) G O (.inl (some (.int (f_BS_sameRestAt N G p1)))) G O := by
  refine g_body (by decide) (gCode_of _ _ _ _) (fun ad => by simp [lg_sl, Value.category]) ?_
  intro p e s0 s m args below meth c D cI cL ad hC hr hlk htb hB ls hl
  have hC : CallFix p m c b_BS_sameRestAt 3 s args gtb R_BS := hC
  have hl : lv_has ls 3 [(0, .ref (ad 0)), (1, .int p1)] := hl
  have hx := hC.1
  have hb := hC.2.1
  have hf : f_BS_sameRestAt N G p1 = f_BS_sameRestAt_L4 N G p1 264 := rfl
  have hok : ok_BS_sameRestAt_L4 N G p1 264 := hok
  refine lv_sipush (v := 264) hx hb d_BS_sameRestAt_0 (by decide) ?_
  refine lv_istore_n (lv' := [(2, .int 264), (0, .ref (ad 0)), (1, .int p1)]) hx hb d_BS_sameRestAt_3 rfl hl (by decide) rfl (fun ls hl => ?_)
  rw [hf]
  refine W.widen (k := 0) (n := 0) (by decide) (by decide) ?_
  exact w_BS_sameRestAt_L4 hC hr hlk N G p1 264 hok _ _ hB ls (lv_sub hl [1, 2, 0] rfl)
