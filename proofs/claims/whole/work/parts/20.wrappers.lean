/-! Which exceptions come; the law's wrappers. -/
theorem e_BS_checkNumber (G : gT) (p1 : Int32) : f_BS_checkNumber G p1 = 0 ∨ f_BS_checkNumber G p1 = 2 := by
  unfold f_BS_checkNumber
  repeat' split
  all_goals simp
theorem e_BS_checkTime (G : gT) (p1 : Int32) : f_BS_checkTime G p1 = 0 ∨ f_BS_checkTime G p1 = 1 := by
  unfold f_BS_checkTime
  repeat' split
  all_goals simp
theorem e_BS_program (G : gT) (p1 p2 : Int32) : (f_BS_program G p1 p2).1 = 0 ∨ (f_BS_program G p1 p2).1 = 2 := by
  unfold f_BS_program
  repeat' split
  all_goals simp
theorem e_BS_input (G : gT) (p1 : Int32) : (f_BS_input G p1).1 = 0 ∨ (f_BS_input G p1).1 = 3 := by
  unfold f_BS_input
  repeat' split
  all_goals simp
theorem e_BS_poke (G : gT) (p1 p2 : Int32) : (f_BS_poke G p1 p2).1 = 0 ∨ (f_BS_poke G p1 p2).1 = 2 := by
  unfold f_BS_poke
  split
  · exact Or.inl rfl
  · exact e_BS_checkNumber G p1
theorem e_BS_step_L (N : Nat) : ∀ (n : Nat) (G : gT) (x1 x2 : Int32), (f_BS_step_L24 N n G x1 x2).1 = 0 := by
  intro n
  induction n with
  | zero => intro G x1 x2; rfl
  | succ n ih =>
    intro G x1 x2
    unfold f_BS_step_L24
    repeat' split
    all_goals first | rfl | exact ih _ _ _
theorem e_BS_step (N : Nat) (G : gT) (p1 : Int32) : (f_BS_step N G p1).1 = 0 ∨ (f_BS_step N G p1).1 = 1 := by
  unfold f_BS_step
  repeat' split
  all_goals first | exact Or.inr rfl | exact Or.inl (e_BS_step_L N N G p1 0)
theorem e_BS_back (N : Nat) (G : gT) (p1 : Int32) : (f_BS_back N G p1).1 = 0 ∨ (f_BS_back N G p1).1 = 1 := by
  unfold f_BS_back
  split
  · exact Or.inl rfl
  · exact e_BS_checkTime G p1
theorem e_BS_look (N : Nat) (G : gT) (p1 p2 : Int32) : (f_BS_look N G p1 p2).1 = 0 ∨ (f_BS_look N G p1 p2).1 = 1 ∨ (f_BS_look N G p1 p2).1 = 2 := by
  unfold f_BS_look
  repeat' split
  all_goals first | exact Or.inl rfl | exact Or.inr (Or.inr rfl) | (rcases e_BS_checkTime G p1 with h | h; exact Or.inl h; exact Or.inr (Or.inl h))
theorem e_BS_wrote_L : ∀ (n : Nat) (G : gT) (x1 x2 : Int32), (f_BS_wrote_L13 n G x1 x2).1 = 0 := by
  intro n
  induction n with
  | zero => intro G x1 x2; rfl
  | succ n ih =>
    intro G x1 x2
    unfold f_BS_wrote_L13
    repeat' split
    all_goals first | rfl | exact ih _ _ _
theorem e_BS_wrote (N : Nat) (G : gT) (p1 : Int32) : (f_BS_wrote N G p1).1 = 0 ∨ (f_BS_wrote N G p1).1 = 2 := by
  unfold f_BS_wrote
  split
  · exact Or.inl (e_BS_wrote_L _ _ _ _)
  · exact e_BS_checkNumber G p1
theorem e_BS_when_L (N : Nat) : ∀ (n : Nat) (G : gT) (x1 x2 x3 x4 x5 : Int32), (f_BS_when_L21 N n G x1 x2 x3 x4 x5).1 = 0 := by
  intro n
  induction n with
  | zero => intro G x1 x2 x3 x4 x5; rfl
  | succ n ih =>
    intro G x1 x2 x3 x4 x5
    unfold f_BS_when_L21
    repeat' split
    all_goals first | rfl | exact ih _ _ _ _ _ _
theorem e_BS_when (N : Nat) (G : gT) (p1 p2 p3 : Int32) : (f_BS_when N G p1 p2 p3).1 = 0 ∨ (f_BS_when N G p1 p2 p3).1 = 1 ∨ (f_BS_when N G p1 p2 p3).1 = 2 := by
  unfold f_BS_when
  repeat' split
  all_goals first | exact Or.inl (e_BS_when_L _ _ _ _ _ _ _ _) | (rcases e_BS_checkNumber G p2 with h | h; exact Or.inl h; exact Or.inr (Or.inr h)) | (rcases e_BS_checkTime G p1 with h | h; exact Or.inl h; exact Or.inr (Or.inl h))
theorem e_BS_cost (G : gT) (p1 : Int32) : (f_BS_cost G p1).1 = 0 ∨ (f_BS_cost G p1).1 = 1 := by
  unfold f_BS_cost
  repeat' split
  all_goals simp
theorem cl_La_13 : Cond.classLink R_La 13 (gexc 2) ∈ gtb := g_mem 258 (by decide +kernel) rfl
theorem cl_La_19 : Cond.classLink R_La 19 (gexc 3) ∈ gtb := g_mem 334 (by decide +kernel) rfl
theorem cl_La_27 : Cond.classLink R_La 27 (gexc 1) ∈ gtb := g_mem 374 (by decide +kernel) rfl
def kx1 (c : Nat) : Int32 := if c = 0 then 0 else 1
def kx2 (c : Nat) : Int32 := if c = 0 then 0 else if c = 1 then 1 else 2
abbrev rm_La_program : Room := { frames := 7, cells := 1, slots := 6, locals := 99 }
set_option maxHeartbeats 4000000 in
set_option maxRecDepth 100000 in
theorem c_La_program (l : Launch) (hst : l.stackTraces = false) (G : gT) (p1 : Int32) (p2 : Int32) (O : Int64) (hok : ok_BS_program G p1 p2) : gMet l y_La_program w_La_program rm_La_program (fun ad => [.ref (ad 0), .int p1, .int p2, .ref (ad 24)]) G O (.inl (some (.int (kx1 (f_BS_program G p1 p2).1)))) (f_BS_program G p1 p2).2.2 (if (f_BS_program G p1 p2).1 = 0 then (f_BS_program G p1 p2).2.1.toInt64 else O) := by
  refine g_body (by decide) (gCode_with _ _ _ _ _) (fun ad => by simp [lg_sl, Value.category]) ?_
  intro p e s0 s m args below meth c D cI cL ad hC hr hlk htb hB ls hl
  have hC : CallFix p m c b_La_program 5 s args gtb R_La := hC
  have hl : lv_has ls 5 [(0, .ref (ad 0)), (1, .int p1), (2, .int p2), (3, .ref (ad 24))] := hl
  have hx := hC.1
  have hb := hC.2.1
  have hX := hB.2.2.2.2
  refine lv_aload_n hx hb d_La_program_0 rfl (lv_at hl 3 rfl) ?_
  refine lv_iconst (v := 0) hx hb d_La_program_1 (by decide) ?_
  refine lv_aload_n hx hb d_La_program_2 rfl (lv_at hl 0 rfl) ?_
  refine lv_iload_n hx hb d_La_program_3 rfl (lv_at hl 1 rfl) ?_
  refine lv_iload_n hx hb d_La_program_4 rfl (lv_at hl 2 rfl) ?_
  refine g_callV0 (b := ad 0) (As := [.int p1, .int p2]) (rest := [.int 0, .ref (ad 24)]) hC hB (c_BS_program l hst G p1 p2 O hok) rfl key_BS_program rfl ins_BS_program sel_BS_program ml_La_7 (g_rec0 hB) rfl hl.1 ⟨Nat.le_of_ble_eq_true rfl, Nat.le_of_ble_eq_true rfl, Nat.le_of_ble_eq_true rfl, Nat.le_of_ble_eq_true rfl⟩ d_La_program_5 (fun v H locs ho hB => ?_) (fun E q ce H locs ho hce hcv hcl hB => ?_)
  · by_cases hc : (f_BS_program G p1 p2).1 = 0
    · rw [gox_0 hc] at ho
      cases ho
      refine lv_i2l (v := (f_BS_program G p1 p2).2.1.toInt64) hx hb d_La_program_8 rfl ?_
      refine gl_store hC hB d_La_program_9 (fun H locs hB => ?_)
      refine lv_goto (tgt := 17) hx hb d_La_program_10 (by decide) ?_
      refine lv_iconst (v := 0) hx hb d_La_program_17 (by decide) ?_
      rw [if_pos hc]
      exact g_iret hC hB hr hlk (by decide) (by decide) (by rw [kx1, if_pos hc]) rfl d_La_program_18
    · rw [gox_n hc] at ho
      cases ho
  · by_cases hc : (f_BS_program G p1 p2).1 = 0
    · rw [gox_0 hc] at ho
      cases ho
    · rw [gox_n hc] at ho
      have hE : E = gexc (f_BS_program G p1 p2).1 := (Sum.inr.inj ho).symm
      have hd : (f_BS_program G p1 p2).1 = 2 := (e_BS_program G p1 p2).resolve_left hc
      rw [hd] at hE
      subst hE
      refine gx_catch1 (x := (⟨0, 10, 13, 13⟩ : ExceptionTableEntry)) (name := gexc 2) hC htb (by decide) (by decide) cl_La_13 (g_cast hX (Or.inr (Or.inl rfl))) hce hcv hcl ?_
      refine lv_astore (lv' := [(4, .ref q), (0, .ref (ad 0)), (1, .int p1), (2, .int p2), (3, .ref (ad 24))]) hx hb d_La_program_13 hl (by decide) rfl (fun ls hl => ?_)
      refine lv_iconst (v := 1) hx hb d_La_program_15 (by decide) ?_
      rw [if_neg hc]
      exact g_iret hC hB hr hlk (by decide) (by decide) (by rw [hd]; rfl) rfl d_La_program_16
abbrev rm_La_input : Room := { frames := 7, cells := 1, slots := 6, locals := 97 }
set_option maxHeartbeats 4000000 in
set_option maxRecDepth 100000 in
theorem c_La_input (l : Launch) (hst : l.stackTraces = false) (G : gT) (p1 : Int32) (O : Int64) (hok : ok_BS_input G p1) : gMet l y_La_input w_La_input rm_La_input (fun ad => [.ref (ad 0), .int p1, .ref (ad 24)]) G O (.inl (some (.int (kx1 (f_BS_input G p1).1)))) (f_BS_input G p1).2.2 (if (f_BS_input G p1).1 = 0 then (f_BS_input G p1).2.1.toInt64 else O) := by
  refine g_body (by decide) (gCode_with _ _ _ _ _) (fun ad => by simp [lg_sl, Value.category]) ?_
  intro p e s0 s m args below meth c D cI cL ad hC hr hlk htb hB ls hl
  have hC : CallFix p m c b_La_input 4 s args gtb R_La := hC
  have hl : lv_has ls 4 [(0, .ref (ad 0)), (1, .int p1), (2, .ref (ad 24))] := hl
  have hx := hC.1
  have hb := hC.2.1
  have hX := hB.2.2.2.2
  refine lv_aload_n hx hb d_La_input_0 rfl (lv_at hl 2 rfl) ?_
  refine lv_iconst (v := 0) hx hb d_La_input_1 (by decide) ?_
  refine lv_aload_n hx hb d_La_input_2 rfl (lv_at hl 0 rfl) ?_
  refine lv_iload_n hx hb d_La_input_3 rfl (lv_at hl 1 rfl) ?_
  refine g_callV0 (b := ad 0) (As := [.int p1]) (rest := [.int 0, .ref (ad 24)]) hC hB (c_BS_input l hst G p1 O hok) rfl key_BS_input rfl ins_BS_input sel_BS_input ml_La_15 (g_rec0 hB) rfl hl.1 ⟨Nat.le_of_ble_eq_true rfl, Nat.le_of_ble_eq_true rfl, Nat.le_of_ble_eq_true rfl, Nat.le_of_ble_eq_true rfl⟩ d_La_input_4 (fun v H locs ho hB => ?_) (fun E q ce H locs ho hce hcv hcl hB => ?_)
  · by_cases hc : (f_BS_input G p1).1 = 0
    · rw [gox_0 hc] at ho
      cases ho
      refine lv_i2l (v := (f_BS_input G p1).2.1.toInt64) hx hb d_La_input_7 rfl ?_
      refine gl_store hC hB d_La_input_8 (fun H locs hB => ?_)
      refine lv_goto (tgt := 15) hx hb d_La_input_9 (by decide) ?_
      refine lv_iconst (v := 0) hx hb d_La_input_15 (by decide) ?_
      rw [if_pos hc]
      exact g_iret hC hB hr hlk (by decide) (by decide) (by rw [kx1, if_pos hc]) rfl d_La_input_16
    · rw [gox_n hc] at ho
      cases ho
  · by_cases hc : (f_BS_input G p1).1 = 0
    · rw [gox_0 hc] at ho
      cases ho
    · rw [gox_n hc] at ho
      have hE : E = gexc (f_BS_input G p1).1 := (Sum.inr.inj ho).symm
      have hd : (f_BS_input G p1).1 = 3 := (e_BS_input G p1).resolve_left hc
      rw [hd] at hE
      subst hE
      refine gx_catch1 (x := (⟨0, 9, 12, 19⟩ : ExceptionTableEntry)) (name := gexc 3) hC htb (by decide) (by decide) cl_La_19 (g_cast hX (Or.inr (Or.inr rfl))) hce hcv hcl ?_
      refine lv_astore_n (lv' := [(3, .ref q), (0, .ref (ad 0)), (1, .int p1), (2, .ref (ad 24))]) hx hb d_La_input_12 rfl hl (by decide) rfl (fun ls hl => ?_)
      refine lv_iconst (v := 1) hx hb d_La_input_13 (by decide) ?_
      rw [if_neg hc]
      exact g_iret hC hB hr hlk (by decide) (by decide) (by rw [hd]; rfl) rfl d_La_input_14
abbrev rm_La_poke : Room := { frames := 8, cells := 1, slots := 6, locals := 112 }
set_option maxHeartbeats 4000000 in
set_option maxRecDepth 100000 in
theorem c_La_poke (l : Launch) (hst : l.stackTraces = false) (G : gT) (p1 : Int32) (p2 : Int32) (O : Int64) (hok : ok_BS_poke G p1 p2) : gMet l y_La_poke w_La_poke rm_La_poke (fun ad => [.ref (ad 0), .int p1, .int p2, .ref (ad 24)]) G O (.inl (some (.int (kx1 (f_BS_poke G p1 p2).1)))) (f_BS_poke G p1 p2).2.2 (if (f_BS_poke G p1 p2).1 = 0 then (f_BS_poke G p1 p2).2.1.toInt64 else O) := by
  refine g_body (by decide) (gCode_with _ _ _ _ _) (fun ad => by simp [lg_sl, Value.category]) ?_
  intro p e s0 s m args below meth c D cI cL ad hC hr hlk htb hB ls hl
  have hC : CallFix p m c b_La_poke 5 s args gtb R_La := hC
  have hl : lv_has ls 5 [(0, .ref (ad 0)), (1, .int p1), (2, .int p2), (3, .ref (ad 24))] := hl
  have hx := hC.1
  have hb := hC.2.1
  have hX := hB.2.2.2.2
  refine lv_aload_n hx hb d_La_poke_0 rfl (lv_at hl 3 rfl) ?_
  refine lv_iconst (v := 0) hx hb d_La_poke_1 (by decide) ?_
  refine lv_aload_n hx hb d_La_poke_2 rfl (lv_at hl 0 rfl) ?_
  refine lv_iload_n hx hb d_La_poke_3 rfl (lv_at hl 1 rfl) ?_
  refine lv_iload_n hx hb d_La_poke_4 rfl (lv_at hl 2 rfl) ?_
  refine g_callV0 (b := ad 0) (As := [.int p1, .int p2]) (rest := [.int 0, .ref (ad 24)]) hC hB (c_BS_poke l hst G p1 p2 O hok) rfl key_BS_poke rfl ins_BS_poke sel_BS_poke ml_La_21 (g_rec0 hB) rfl hl.1 ⟨Nat.le_of_ble_eq_true rfl, Nat.le_of_ble_eq_true rfl, Nat.le_of_ble_eq_true rfl, Nat.le_of_ble_eq_true rfl⟩ d_La_poke_5 (fun v H locs ho hB => ?_) (fun E q ce H locs ho hce hcv hcl hB => ?_)
  · by_cases hc : (f_BS_poke G p1 p2).1 = 0
    · rw [gox_0 hc] at ho
      cases ho
      refine lv_i2l (v := (f_BS_poke G p1 p2).2.1.toInt64) hx hb d_La_poke_8 rfl ?_
      refine gl_store hC hB d_La_poke_9 (fun H locs hB => ?_)
      refine lv_goto (tgt := 17) hx hb d_La_poke_10 (by decide) ?_
      refine lv_iconst (v := 0) hx hb d_La_poke_17 (by decide) ?_
      rw [if_pos hc]
      exact g_iret hC hB hr hlk (by decide) (by decide) (by rw [kx1, if_pos hc]) rfl d_La_poke_18
    · rw [gox_n hc] at ho
      cases ho
  · by_cases hc : (f_BS_poke G p1 p2).1 = 0
    · rw [gox_0 hc] at ho
      cases ho
    · rw [gox_n hc] at ho
      have hE : E = gexc (f_BS_poke G p1 p2).1 := (Sum.inr.inj ho).symm
      have hd : (f_BS_poke G p1 p2).1 = 2 := (e_BS_poke G p1 p2).resolve_left hc
      rw [hd] at hE
      subst hE
      refine gx_catch1 (x := (⟨0, 10, 13, 13⟩ : ExceptionTableEntry)) (name := gexc 2) hC htb (by decide) (by decide) cl_La_13 (g_cast hX (Or.inr (Or.inl rfl))) hce hcv hcl ?_
      refine lv_astore (lv' := [(4, .ref q), (0, .ref (ad 0)), (1, .int p1), (2, .int p2), (3, .ref (ad 24))]) hx hb d_La_poke_13 hl (by decide) rfl (fun ls hl => ?_)
      refine lv_iconst (v := 1) hx hb d_La_poke_15 (by decide) ?_
      rw [if_neg hc]
      exact g_iret hC hB hr hlk (by decide) (by decide) (by rw [hd]; rfl) rfl d_La_poke_16
abbrev rm_La_step : Room := { frames := 7, cells := 1, slots := 6, locals := 98 }
set_option maxHeartbeats 4000000 in
set_option maxRecDepth 100000 in
theorem c_La_step (l : Launch) (hst : l.stackTraces = false) (N : Nat) (G : gT) (p1 : Int32) (O : Int64) (hok : ok_BS_step N G p1) : gMet l y_La_step w_La_step rm_La_step (fun ad => [.ref (ad 0), .int p1, .ref (ad 24)]) G O (.inl (some (.int (kx1 (f_BS_step N G p1).1)))) (f_BS_step N G p1).2.2 (if (f_BS_step N G p1).1 = 0 then (f_BS_step N G p1).2.1.toInt64 else O) := by
  refine g_body (by decide) (gCode_with _ _ _ _ _) (fun ad => by simp [lg_sl, Value.category]) ?_
  intro p e s0 s m args below meth c D cI cL ad hC hr hlk htb hB ls hl
  have hC : CallFix p m c b_La_step 4 s args gtb R_La := hC
  have hl : lv_has ls 4 [(0, .ref (ad 0)), (1, .int p1), (2, .ref (ad 24))] := hl
  have hx := hC.1
  have hb := hC.2.1
  have hX := hB.2.2.2.2
  refine lv_aload_n hx hb d_La_step_0 rfl (lv_at hl 2 rfl) ?_
  refine lv_iconst (v := 0) hx hb d_La_step_1 (by decide) ?_
  refine lv_aload_n hx hb d_La_step_2 rfl (lv_at hl 0 rfl) ?_
  refine lv_iload_n hx hb d_La_step_3 rfl (lv_at hl 1 rfl) ?_
  refine g_callV0 (b := ad 0) (As := [.int p1]) (rest := [.int 0, .ref (ad 24)]) hC hB (c_BS_step l hst N G p1 O hok) rfl key_BS_step rfl ins_BS_step sel_BS_step ml_La_24 (g_rec0 hB) rfl hl.1 ⟨Nat.le_of_ble_eq_true rfl, Nat.le_of_ble_eq_true rfl, Nat.le_of_ble_eq_true rfl, Nat.le_of_ble_eq_true rfl⟩ d_La_step_4 (fun v H locs ho hB => ?_) (fun E q ce H locs ho hce hcv hcl hB => ?_)
  · by_cases hc : (f_BS_step N G p1).1 = 0
    · rw [gox_0 hc] at ho
      cases ho
      refine lv_i2l (v := (f_BS_step N G p1).2.1.toInt64) hx hb d_La_step_7 rfl ?_
      refine gl_store hC hB d_La_step_8 (fun H locs hB => ?_)
      refine lv_goto (tgt := 15) hx hb d_La_step_9 (by decide) ?_
      refine lv_iconst (v := 0) hx hb d_La_step_15 (by decide) ?_
      rw [if_pos hc]
      exact g_iret hC hB hr hlk (by decide) (by decide) (by rw [kx1, if_pos hc]) rfl d_La_step_16
    · rw [gox_n hc] at ho
      cases ho
  · by_cases hc : (f_BS_step N G p1).1 = 0
    · rw [gox_0 hc] at ho
      cases ho
    · rw [gox_n hc] at ho
      have hE : E = gexc (f_BS_step N G p1).1 := (Sum.inr.inj ho).symm
      have hd : (f_BS_step N G p1).1 = 1 := (e_BS_step N G p1).resolve_left hc
      rw [hd] at hE
      subst hE
      refine gx_catch1 (x := (⟨0, 9, 12, 27⟩ : ExceptionTableEntry)) (name := gexc 1) hC htb (by decide) (by decide) cl_La_27 (g_cast hX (Or.inl rfl)) hce hcv hcl ?_
      refine lv_astore_n (lv' := [(3, .ref q), (0, .ref (ad 0)), (1, .int p1), (2, .ref (ad 24))]) hx hb d_La_step_12 rfl hl (by decide) rfl (fun ls hl => ?_)
      refine lv_iconst (v := 1) hx hb d_La_step_13 (by decide) ?_
      rw [if_neg hc]
      exact g_iret hC hB hr hlk (by decide) (by decide) (by rw [hd]; rfl) rfl d_La_step_14
abbrev rm_La_back : Room := { frames := 8, cells := 1, slots := 6, locals := 111 }
set_option maxHeartbeats 4000000 in
set_option maxRecDepth 100000 in
theorem c_La_back (l : Launch) (hst : l.stackTraces = false) (N : Nat) (G : gT) (p1 : Int32) (O : Int64) (hok : ok_BS_back N G p1) : gMet l y_La_back w_La_back rm_La_back (fun ad => [.ref (ad 0), .int p1, .ref (ad 24)]) G O (.inl (some (.int (kx1 (f_BS_back N G p1).1)))) (f_BS_back N G p1).2.2 (if (f_BS_back N G p1).1 = 0 then (f_BS_back N G p1).2.1.toInt64 else O) := by
  refine g_body (by decide) (gCode_with _ _ _ _ _) (fun ad => by simp [lg_sl, Value.category]) ?_
  intro p e s0 s m args below meth c D cI cL ad hC hr hlk htb hB ls hl
  have hC : CallFix p m c b_La_back 4 s args gtb R_La := hC
  have hl : lv_has ls 4 [(0, .ref (ad 0)), (1, .int p1), (2, .ref (ad 24))] := hl
  have hx := hC.1
  have hb := hC.2.1
  have hX := hB.2.2.2.2
  refine lv_aload_n hx hb d_La_back_0 rfl (lv_at hl 2 rfl) ?_
  refine lv_iconst (v := 0) hx hb d_La_back_1 (by decide) ?_
  refine lv_aload_n hx hb d_La_back_2 rfl (lv_at hl 0 rfl) ?_
  refine lv_iload_n hx hb d_La_back_3 rfl (lv_at hl 1 rfl) ?_
  refine g_callV0 (b := ad 0) (As := [.int p1]) (rest := [.int 0, .ref (ad 24)]) hC hB (c_BS_back l hst N G p1 O hok) rfl key_BS_back rfl ins_BS_back sel_BS_back ml_La_29 (g_rec0 hB) rfl hl.1 ⟨Nat.le_of_ble_eq_true rfl, Nat.le_of_ble_eq_true rfl, Nat.le_of_ble_eq_true rfl, Nat.le_of_ble_eq_true rfl⟩ d_La_back_4 (fun v H locs ho hB => ?_) (fun E q ce H locs ho hce hcv hcl hB => ?_)
  · by_cases hc : (f_BS_back N G p1).1 = 0
    · rw [gox_0 hc] at ho
      cases ho
      refine lv_i2l (v := (f_BS_back N G p1).2.1.toInt64) hx hb d_La_back_7 rfl ?_
      refine gl_store hC hB d_La_back_8 (fun H locs hB => ?_)
      refine lv_goto (tgt := 15) hx hb d_La_back_9 (by decide) ?_
      refine lv_iconst (v := 0) hx hb d_La_back_15 (by decide) ?_
      rw [if_pos hc]
      exact g_iret hC hB hr hlk (by decide) (by decide) (by rw [kx1, if_pos hc]) rfl d_La_back_16
    · rw [gox_n hc] at ho
      cases ho
  · by_cases hc : (f_BS_back N G p1).1 = 0
    · rw [gox_0 hc] at ho
      cases ho
    · rw [gox_n hc] at ho
      have hE : E = gexc (f_BS_back N G p1).1 := (Sum.inr.inj ho).symm
      have hd : (f_BS_back N G p1).1 = 1 := (e_BS_back N G p1).resolve_left hc
      rw [hd] at hE
      subst hE
      refine gx_catch1 (x := (⟨0, 9, 12, 27⟩ : ExceptionTableEntry)) (name := gexc 1) hC htb (by decide) (by decide) cl_La_27 (g_cast hX (Or.inl rfl)) hce hcv hcl ?_
      refine lv_astore_n (lv' := [(3, .ref q), (0, .ref (ad 0)), (1, .int p1), (2, .ref (ad 24))]) hx hb d_La_back_12 rfl hl (by decide) rfl (fun ls hl => ?_)
      refine lv_iconst (v := 1) hx hb d_La_back_13 (by decide) ?_
      rw [if_neg hc]
      exact g_iret hC hB hr hlk (by decide) (by decide) (by rw [hd]; rfl) rfl d_La_back_14
abbrev rm_La_look : Room := { frames := 8, cells := 1, slots := 6, locals := 111 }
set_option maxHeartbeats 4000000 in
set_option maxRecDepth 100000 in
theorem c_La_look (l : Launch) (hst : l.stackTraces = false) (N : Nat) (G : gT) (p1 : Int32) (p2 : Int32) (O : Int64) (hok : ok_BS_look N G p1 p2) : gMet l y_La_look w_La_look rm_La_look (fun ad => [.ref (ad 0), .int p1, .int p2, .ref (ad 24)]) G O (.inl (some (.int (kx2 (f_BS_look N G p1 p2).1)))) G (if (f_BS_look N G p1 p2).1 = 0 then (f_BS_look N G p1 p2).2.toInt64 else O) := by
  refine g_body (by decide) (gCode_with _ _ _ _ _) (fun ad => by simp [lg_sl, Value.category]) ?_
  intro p e s0 s m args below meth c D cI cL ad hC hr hlk htb hB ls hl
  have hC : CallFix p m c b_La_look 5 s args gtb R_La := hC
  have hl : lv_has ls 5 [(0, .ref (ad 0)), (1, .int p1), (2, .int p2), (3, .ref (ad 24))] := hl
  have hx := hC.1
  have hb := hC.2.1
  have hX := hB.2.2.2.2
  refine lv_aload_n hx hb d_La_look_0 rfl (lv_at hl 3 rfl) ?_
  refine lv_iconst (v := 0) hx hb d_La_look_1 (by decide) ?_
  refine lv_aload_n hx hb d_La_look_2 rfl (lv_at hl 0 rfl) ?_
  refine lv_iload_n hx hb d_La_look_3 rfl (lv_at hl 1 rfl) ?_
  refine lv_iload_n hx hb d_La_look_4 rfl (lv_at hl 2 rfl) ?_
  refine g_callV0 (b := ad 0) (As := [.int p1, .int p2]) (rest := [.int 0, .ref (ad 24)]) hC hB (c_BS_look l hst N G p1 p2 O hok) rfl key_BS_look rfl ins_BS_look sel_BS_look ml_La_32 (g_rec0 hB) rfl hl.1 ⟨Nat.le_of_ble_eq_true rfl, Nat.le_of_ble_eq_true rfl, Nat.le_of_ble_eq_true rfl, Nat.le_of_ble_eq_true rfl⟩ d_La_look_5 (fun v H locs ho hB => ?_) (fun E q ce H locs ho hce hcv hcl hB => ?_)
  · by_cases hc : (f_BS_look N G p1 p2).1 = 0
    · rw [gox_0 hc] at ho
      cases ho
      refine lv_i2l (v := (f_BS_look N G p1 p2).2.toInt64) hx hb d_La_look_8 rfl ?_
      refine gl_store hC hB d_La_look_9 (fun H locs hB => ?_)
      refine lv_goto (tgt := 21) hx hb d_La_look_10 (by decide) ?_
      refine lv_iconst (v := 0) hx hb d_La_look_21 (by decide) ?_
      rw [if_pos hc]
      exact g_iret hC hB hr hlk (by decide) (by decide) (by rw [kx2, if_pos hc]) rfl d_La_look_22
    · rw [gox_n hc] at ho
      cases ho
  · by_cases hc : (f_BS_look N G p1 p2).1 = 0
    · rw [gox_0 hc] at ho
      cases ho
    · rw [gox_n hc] at ho
      have hE : E = gexc (f_BS_look N G p1 p2).1 := (Sum.inr.inj ho).symm
      rcases (e_BS_look N G p1 p2).resolve_left hc with hd | hd
      · rw [hd] at hE
        subst hE
        refine gx_catch1 (x := (⟨0, 10, 13, 27⟩ : ExceptionTableEntry)) (name := gexc 1) hC htb (by decide) (by decide) cl_La_27 (g_cast hX (Or.inl rfl)) hce hcv hcl ?_
        refine lv_astore (lv' := [(4, .ref q), (0, .ref (ad 0)), (1, .int p1), (2, .int p2), (3, .ref (ad 24))]) hx hb d_La_look_13 hl (by decide) rfl (fun ls hl => ?_)
        refine lv_iconst (v := 1) hx hb d_La_look_15 (by decide) ?_
        rw [if_neg hc]
        exact g_iret hC hB hr hlk (by decide) (by decide) (by rw [hd]; rfl) rfl d_La_look_16
      · rw [hd] at hE
        subst hE
        refine gx_catch2 (x1 := (⟨0, 10, 13, 27⟩ : ExceptionTableEntry)) (x := (⟨0, 10, 17, 13⟩ : ExceptionTableEntry)) (nm1 := gexc 1) (name := gexc 2) hC htb (by decide) (by decide) cl_La_27 (g_nocast hX) (by decide) (by decide) cl_La_13 (g_cast hX (Or.inr (Or.inl rfl))) hce hcv hcl ?_
        refine lv_astore (lv' := [(4, .ref q), (0, .ref (ad 0)), (1, .int p1), (2, .int p2), (3, .ref (ad 24))]) hx hb d_La_look_17 hl (by decide) rfl (fun ls hl => ?_)
        refine lv_iconst (v := 2) hx hb d_La_look_19 (by decide) ?_
        rw [if_neg hc]
        exact g_iret hC hB hr hlk (by decide) (by decide) (by rw [hd]; rfl) rfl d_La_look_20
abbrev rm_La_wrote : Room := { frames := 8, cells := 1, slots := 6, locals := 111 }
set_option maxHeartbeats 4000000 in
set_option maxRecDepth 100000 in
theorem c_La_wrote (l : Launch) (hst : l.stackTraces = false) (N : Nat) (G : gT) (p1 : Int32) (O : Int64) (hok : ok_BS_wrote N G p1) : gMet l y_La_wrote w_La_wrote rm_La_wrote (fun ad => [.ref (ad 0), .int p1, .ref (ad 24)]) G O (.inl (some (.int (kx1 (f_BS_wrote N G p1).1)))) G (if (f_BS_wrote N G p1).1 = 0 then (f_BS_wrote N G p1).2.toInt64 else O) := by
  refine g_body (by decide) (gCode_with _ _ _ _ _) (fun ad => by simp [lg_sl, Value.category]) ?_
  intro p e s0 s m args below meth c D cI cL ad hC hr hlk htb hB ls hl
  have hC : CallFix p m c b_La_wrote 4 s args gtb R_La := hC
  have hl : lv_has ls 4 [(0, .ref (ad 0)), (1, .int p1), (2, .ref (ad 24))] := hl
  have hx := hC.1
  have hb := hC.2.1
  have hX := hB.2.2.2.2
  refine lv_aload_n hx hb d_La_wrote_0 rfl (lv_at hl 2 rfl) ?_
  refine lv_iconst (v := 0) hx hb d_La_wrote_1 (by decide) ?_
  refine lv_aload_n hx hb d_La_wrote_2 rfl (lv_at hl 0 rfl) ?_
  refine lv_iload_n hx hb d_La_wrote_3 rfl (lv_at hl 1 rfl) ?_
  refine g_callV0 (b := ad 0) (As := [.int p1]) (rest := [.int 0, .ref (ad 24)]) hC hB (c_BS_wrote l hst N G p1 O hok) rfl key_BS_wrote rfl ins_BS_wrote sel_BS_wrote ml_La_35 (g_rec0 hB) rfl hl.1 ⟨Nat.le_of_ble_eq_true rfl, Nat.le_of_ble_eq_true rfl, Nat.le_of_ble_eq_true rfl, Nat.le_of_ble_eq_true rfl⟩ d_La_wrote_4 (fun v H locs ho hB => ?_) (fun E q ce H locs ho hce hcv hcl hB => ?_)
  · by_cases hc : (f_BS_wrote N G p1).1 = 0
    · rw [gox_0 hc] at ho
      cases ho
      refine lv_i2l (v := (f_BS_wrote N G p1).2.toInt64) hx hb d_La_wrote_7 rfl ?_
      refine gl_store hC hB d_La_wrote_8 (fun H locs hB => ?_)
      refine lv_goto (tgt := 15) hx hb d_La_wrote_9 (by decide) ?_
      refine lv_iconst (v := 0) hx hb d_La_wrote_15 (by decide) ?_
      rw [if_pos hc]
      exact g_iret hC hB hr hlk (by decide) (by decide) (by rw [kx1, if_pos hc]) rfl d_La_wrote_16
    · rw [gox_n hc] at ho
      cases ho
  · by_cases hc : (f_BS_wrote N G p1).1 = 0
    · rw [gox_0 hc] at ho
      cases ho
    · rw [gox_n hc] at ho
      have hE : E = gexc (f_BS_wrote N G p1).1 := (Sum.inr.inj ho).symm
      have hd : (f_BS_wrote N G p1).1 = 2 := (e_BS_wrote N G p1).resolve_left hc
      rw [hd] at hE
      subst hE
      refine gx_catch1 (x := (⟨0, 9, 12, 13⟩ : ExceptionTableEntry)) (name := gexc 2) hC htb (by decide) (by decide) cl_La_13 (g_cast hX (Or.inr (Or.inl rfl))) hce hcv hcl ?_
      refine lv_astore_n (lv' := [(3, .ref q), (0, .ref (ad 0)), (1, .int p1), (2, .ref (ad 24))]) hx hb d_La_wrote_12 rfl hl (by decide) rfl (fun ls hl => ?_)
      refine lv_iconst (v := 1) hx hb d_La_wrote_13 (by decide) ?_
      rw [if_neg hc]
      exact g_iret hC hB hr hlk (by decide) (by decide) (by rw [hd]; rfl) rfl d_La_wrote_14
abbrev rm_La_when : Room := { frames := 8, cells := 1, slots := 6, locals := 114 }
set_option maxHeartbeats 4000000 in
set_option maxRecDepth 100000 in
theorem c_La_when (l : Launch) (hst : l.stackTraces = false) (N : Nat) (G : gT) (p1 : Int32) (p2 : Int32) (p3 : Int32) (O : Int64) (hok : ok_BS_when N G p1 p2 p3) : gMet l y_La_when w_La_when rm_La_when (fun ad => [.ref (ad 0), .int p1, .int p2, .int p3, .ref (ad 24)]) G O (.inl (some (.int (kx2 (f_BS_when N G p1 p2 p3).1)))) G (if (f_BS_when N G p1 p2 p3).1 = 0 then (f_BS_when N G p1 p2 p3).2.toInt64 else O) := by
  refine g_body (by decide) (gCode_with _ _ _ _ _) (fun ad => by simp [lg_sl, Value.category]) ?_
  intro p e s0 s m args below meth c D cI cL ad hC hr hlk htb hB ls hl
  have hC : CallFix p m c b_La_when 6 s args gtb R_La := hC
  have hl : lv_has ls 6 [(0, .ref (ad 0)), (1, .int p1), (2, .int p2), (3, .int p3), (4, .ref (ad 24))] := hl
  have hx := hC.1
  have hb := hC.2.1
  have hX := hB.2.2.2.2
  refine lv_aload hx hb d_La_when_0 (lv_at hl 4 rfl) ?_
  refine lv_iconst (v := 0) hx hb d_La_when_2 (by decide) ?_
  refine lv_aload_n hx hb d_La_when_3 rfl (lv_at hl 0 rfl) ?_
  refine lv_iload_n hx hb d_La_when_4 rfl (lv_at hl 1 rfl) ?_
  refine lv_iload_n hx hb d_La_when_5 rfl (lv_at hl 2 rfl) ?_
  refine lv_iload_n hx hb d_La_when_6 rfl (lv_at hl 3 rfl) ?_
  refine g_callV0 (b := ad 0) (As := [.int p1, .int p2, .int p3]) (rest := [.int 0, .ref (ad 24)]) hC hB (c_BS_when l hst N G p1 p2 p3 O hok) rfl key_BS_when rfl ins_BS_when sel_BS_when ml_La_38 (g_rec0 hB) rfl hl.1 ⟨Nat.le_of_ble_eq_true rfl, Nat.le_of_ble_eq_true rfl, Nat.le_of_ble_eq_true rfl, Nat.le_of_ble_eq_true rfl⟩ d_La_when_7 (fun v H locs ho hB => ?_) (fun E q ce H locs ho hce hcv hcl hB => ?_)
  · by_cases hc : (f_BS_when N G p1 p2 p3).1 = 0
    · rw [gox_0 hc] at ho
      cases ho
      refine lv_i2l (v := (f_BS_when N G p1 p2 p3).2.toInt64) hx hb d_La_when_10 rfl ?_
      refine gl_store hC hB d_La_when_11 (fun H locs hB => ?_)
      refine lv_goto (tgt := 23) hx hb d_La_when_12 (by decide) ?_
      refine lv_iconst (v := 0) hx hb d_La_when_23 (by decide) ?_
      rw [if_pos hc]
      exact g_iret hC hB hr hlk (by decide) (by decide) (by rw [kx2, if_pos hc]) rfl d_La_when_24
    · rw [gox_n hc] at ho
      cases ho
  · by_cases hc : (f_BS_when N G p1 p2 p3).1 = 0
    · rw [gox_0 hc] at ho
      cases ho
    · rw [gox_n hc] at ho
      have hE : E = gexc (f_BS_when N G p1 p2 p3).1 := (Sum.inr.inj ho).symm
      rcases (e_BS_when N G p1 p2 p3).resolve_left hc with hd | hd
      · rw [hd] at hE
        subst hE
        refine gx_catch1 (x := (⟨0, 12, 15, 27⟩ : ExceptionTableEntry)) (name := gexc 1) hC htb (by decide) (by decide) cl_La_27 (g_cast hX (Or.inl rfl)) hce hcv hcl ?_
        refine lv_astore (lv' := [(5, .ref q), (0, .ref (ad 0)), (1, .int p1), (2, .int p2), (3, .int p3), (4, .ref (ad 24))]) hx hb d_La_when_15 hl (by decide) rfl (fun ls hl => ?_)
        refine lv_iconst (v := 1) hx hb d_La_when_17 (by decide) ?_
        rw [if_neg hc]
        exact g_iret hC hB hr hlk (by decide) (by decide) (by rw [hd]; rfl) rfl d_La_when_18
      · rw [hd] at hE
        subst hE
        refine gx_catch2 (x1 := (⟨0, 12, 15, 27⟩ : ExceptionTableEntry)) (x := (⟨0, 12, 19, 13⟩ : ExceptionTableEntry)) (nm1 := gexc 1) (name := gexc 2) hC htb (by decide) (by decide) cl_La_27 (g_nocast hX) (by decide) (by decide) cl_La_13 (g_cast hX (Or.inr (Or.inl rfl))) hce hcv hcl ?_
        refine lv_astore (lv' := [(5, .ref q), (0, .ref (ad 0)), (1, .int p1), (2, .int p2), (3, .int p3), (4, .ref (ad 24))]) hx hb d_La_when_19 hl (by decide) rfl (fun ls hl => ?_)
        refine lv_iconst (v := 2) hx hb d_La_when_21 (by decide) ?_
        rw [if_neg hc]
        exact g_iret hC hB hr hlk (by decide) (by decide) (by rw [hd]; rfl) rfl d_La_when_22
abbrev rm_La_cost : Room := { frames := 7, cells := 1, slots := 6, locals := 97 }
set_option maxHeartbeats 4000000 in
set_option maxRecDepth 100000 in
theorem c_La_cost (l : Launch) (hst : l.stackTraces = false) (G : gT) (p1 : Int32) (O : Int64) (hok : ok_BS_cost G p1) : gMet l y_La_cost w_La_cost rm_La_cost (fun ad => [.ref (ad 0), .int p1, .ref (ad 24)]) G O (.inl (some (.int (kx1 (f_BS_cost G p1).1)))) G (if (f_BS_cost G p1).1 = 0 then (f_BS_cost G p1).2.toInt64 else O) := by
  refine g_body (by decide) (gCode_with _ _ _ _ _) (fun ad => by simp [lg_sl, Value.category]) ?_
  intro p e s0 s m args below meth c D cI cL ad hC hr hlk htb hB ls hl
  have hC : CallFix p m c b_La_cost 4 s args gtb R_La := hC
  have hl : lv_has ls 4 [(0, .ref (ad 0)), (1, .int p1), (2, .ref (ad 24))] := hl
  have hx := hC.1
  have hb := hC.2.1
  have hX := hB.2.2.2.2
  refine lv_aload_n hx hb d_La_cost_0 rfl (lv_at hl 2 rfl) ?_
  refine lv_iconst (v := 0) hx hb d_La_cost_1 (by decide) ?_
  refine lv_aload_n hx hb d_La_cost_2 rfl (lv_at hl 0 rfl) ?_
  refine lv_iload_n hx hb d_La_cost_3 rfl (lv_at hl 1 rfl) ?_
  refine g_callV0 (b := ad 0) (As := [.int p1]) (rest := [.int 0, .ref (ad 24)]) hC hB (c_BS_cost l hst G p1 O hok) rfl key_BS_cost rfl ins_BS_cost sel_BS_cost ml_La_42 (g_rec0 hB) rfl hl.1 ⟨Nat.le_of_ble_eq_true rfl, Nat.le_of_ble_eq_true rfl, Nat.le_of_ble_eq_true rfl, Nat.le_of_ble_eq_true rfl⟩ d_La_cost_4 (fun v H locs ho hB => ?_) (fun E q ce H locs ho hce hcv hcl hB => ?_)
  · by_cases hc : (f_BS_cost G p1).1 = 0
    · rw [gox_0 hc] at ho
      cases ho
      refine lv_i2l (v := (f_BS_cost G p1).2.toInt64) hx hb d_La_cost_7 rfl ?_
      refine gl_store hC hB d_La_cost_8 (fun H locs hB => ?_)
      refine lv_goto (tgt := 15) hx hb d_La_cost_9 (by decide) ?_
      refine lv_iconst (v := 0) hx hb d_La_cost_15 (by decide) ?_
      rw [if_pos hc]
      exact g_iret hC hB hr hlk (by decide) (by decide) (by rw [kx1, if_pos hc]) rfl d_La_cost_16
    · rw [gox_n hc] at ho
      cases ho
  · by_cases hc : (f_BS_cost G p1).1 = 0
    · rw [gox_0 hc] at ho
      cases ho
    · rw [gox_n hc] at ho
      have hE : E = gexc (f_BS_cost G p1).1 := (Sum.inr.inj ho).symm
      have hd : (f_BS_cost G p1).1 = 1 := (e_BS_cost G p1).resolve_left hc
      rw [hd] at hE
      subst hE
      refine gx_catch1 (x := (⟨0, 9, 12, 27⟩ : ExceptionTableEntry)) (name := gexc 1) hC htb (by decide) (by decide) cl_La_27 (g_cast hX (Or.inl rfl)) hce hcv hcl ?_
      refine lv_astore_n (lv' := [(3, .ref q), (0, .ref (ad 0)), (1, .int p1), (2, .ref (ad 24))]) hx hb d_La_cost_12 rfl hl (by decide) rfl (fun ls hl => ?_)
      refine lv_iconst (v := 1) hx hb d_La_cost_13 (by decide) ?_
      rw [if_neg hc]
      exact g_iret hC hB hr hlk (by decide) (by decide) (by rw [hd]; rfl) rfl d_La_cost_14
