/-! The law from its entry to the head of its loop. -/
/-- the numbers at the loop's head -/
def G00 (p1 p2 : Int32) : gT := fun a b => if a < 16 then G0c p1 p2 a b else G0m p1 p2 a b
theorem gwc_eq (u ad : Nat → Nat) (cI : ClassId) (G G' : gT) (h : ∀ k, k < 16 → ad k = u k) (hG : ∀ k, k < 16 → G' k = G k) : gwc u cI G = gwc ad cI G' := by
  unfold gwc
  rw [h 0 (by decide), h 1 (by decide), h 2 (by decide), h 3 (by decide), h 4 (by decide), h 5 (by decide), h 6 (by decide), h 7 (by decide), h 8 (by decide), h 9 (by decide), h 10 (by decide), h 11 (by decide), h 12 (by decide), h 13 (by decide), h 14 (by decide), h 15 (by decide), hG 0 (by decide), hG 1 (by decide), hG 2 (by decide), hG 3 (by decide), hG 4 (by decide), hG 5 (by decide), hG 6 (by decide), hG 7 (by decide), hG 8 (by decide), hG 9 (by decide), hG 10 (by decide), hG 11 (by decide), hG 12 (by decide), hG 13 (by decide), hG 14 (by decide), hG 15 (by decide)]
theorem gwm_eq (u ad : Nat → Nat) (cI : ClassId) (G G' : gT) (h : ∀ k, 16 ≤ k → k < 24 → ad k = u k) (hG : ∀ k, 16 ≤ k → k < 24 → G' k = G k) : gwm u cI G = gwm ad cI G' := by
  unfold gwm
  rw [h 16 (by decide) (by decide), h 17 (by decide) (by decide), h 18 (by decide) (by decide), h 19 (by decide) (by decide), h 20 (by decide) (by decide), h 21 (by decide) (by decide), h 22 (by decide) (by decide), h 23 (by decide) (by decide), hG 16 (by decide) (by decide), hG 17 (by decide) (by decide), hG 18 (by decide) (by decide), hG 19 (by decide) (by decide), hG 20 (by decide) (by decide), hG 21 (by decide) (by decide), hG 22 (by decide) (by decide), hG 23 (by decide) (by decide)]
set_option maxHeartbeats 8000000 in
set_option maxRecDepth 100000 in
theorem law_start {p : Program} {e : Env} {s : State} {m : MethodId} {below : List Frame} {meth : Method} {c : Code} (l : Launch) {b L : Nat} {xs : Nat → Int32} (N n : Nat) (hst : l.stackTraces = false) (hn : n ≤ 1000) (hL : L ≤ 2050) (C0 : lw_At p s m meth c b L xs) (hok : ok_law N xs L n (G00 (if 0 < L then xs 0 else 0) (if 1 < L then xs 1 else 0)) 0 2) : W p l e room_1 s m #[Value.ref b] below meth c s.heap [] 0 0 (lw_Z below #[Value.ref b] s) (entryFrame m ([Value.ref b] : List Value).toArray 7) := by
  obtain ⟨hx, hb, hr, hml, hown, hts0, hX, hbl, hlocks, hgv⟩ := id C0
  have hts : ∀ w ∈ gtb, w.before #[Value.ref b] s = true := fun w hw => hts0 w (List.mem_filter.mp hw).1
  have hC : CallFix p m c b_La_law 7 s #[Value.ref b] gtb R_La := ⟨hx, hb, hml, hown, hts⟩
  have hNw := nest_18 hts0
  obtain ⟨A, hAe⟩ : ∃ A : Nat → Prop, A = fun q : Nat => s.heap.size ≤ q := ⟨_, rfl⟩
  have hA : ∀ q : Nat, s.heap.size ≤ q → A q := fun q h => by rw [hAe]; exact h
  have hbA : ¬ A b := by rw [hAe]; exact Nat.not_le.mpr hbl
  generalize hp1 : (if 0 < L then xs 0 else 0) = p1 at hok
  generalize hp2 : (if 1 < L then xs 1 else 0) = p2 at hok
  obtain ⟨c0, iS0, hKn0⟩ := u_known (C := R_Ma) (T := F_Ma) (N := 12) (n := 12) hts in_Ma (hts _ in2_Ma)
  obtain ⟨c1, iS1, hKn1⟩ := u_known (C := R_Ro) (T := F_Ro) (N := 13) (n := 13) hts in_Ro (hts _ in2_Ro)
  obtain ⟨c2, iS2, hKn2⟩ := u_known (C := R_BS) (T := F_BS) (N := 7) (n := 7) hts in_BS (hts _ in2_BS)
  obtain ⟨c3, iS3, hKn3⟩ := u_known (C := R_Mo) (T := F_Mo) (N := 15) (n := 15) hts in_Mo (hts _ in2_Mo)
  obtain ⟨D, hKc⟩ : ∃ D : va_G, ∀ (k : Nat) (q : vw_C), gcl[k]? = some q → u_Kn s q.1 q.2.1 q.2.2 (D.1 k) (D.2 k) := by
    refine ⟨(fun k => match k with | 0 => c0 | 1 => c1 | 2 => c2 | _ => c3, fun k => match k with | 0 => iS0 | 1 => iS1 | 2 => iS2 | _ => iS3), ?_⟩
    intro k q hq
    match k, hq with
    | 0, hq => cases hq; exact hKn0
    | 1, hq => cases hq; exact hKn1
    | 2, hq => cases hq; exact hKn2
    | 3, hq => cases hq; exact hKn3
    | k + 4, hq => simp [gcl] at hq
  obtain ⟨cI, kI, pI, hI1, hI2, hI3⟩ := Cond.arrayClass_spec (hts _ arr_I)
  obtain ⟨cL, kL, pL, hL1, hL2, hL3⟩ := Cond.arrayClass_spec (hts _ arr_L)
  have hK : va_K D gcl (gty cI cL) s := ⟨hKc, fun k q h => by
    match k, h with
    | 0, h => cases h; exact ⟨fun n z => ⟨(fun _ h => nomatch h), kI, hI2, pI, hI3⟩, hI1⟩
    | 1, h => cases h; exact ⟨fun n z => ⟨(fun _ h => nomatch h), kL, hL2, pL, hL3⟩, hL1⟩
    | k + 2, h => simp at h⟩
  have hS : va_S A s.heap s.heap [] := va_S.rf
  have hP : va_P D gcl [] s.heap := fun k q h => by simp at h
  have hD : va_D A [] := ⟨fun i j p q h => by simp at h, fun k q h => by simp at h⟩
  have hl := lv_entry ([.ref b]) (n := 7) (Nat.le_of_ble_eq_true rfl)
  rw [lg_entry_eq]
  generalize (lg_sl ([.ref b]) ++ List.replicate (7 - (lg_sl ([.ref b])).length) Slot.unset).toArray = ls at hl ⊢
  have hl : lv_has ls 7 [(0, .ref b)] := hl
  refine va_new (ci := 2) (fs := [.int 0, .null, .null, .int 0, .null, .null, .null]) (C := R_BS) (T := F_BS) (N := 7) hx hb hts in_BS t_BS t_BS_ok hown (hts _ cl_La_8) (hts _ in2_BS) (hts _ in1_BS) hK hP hD hS hA rfl (fun j hj => by rcases (show j = 0 ∨ j = 1 ∨ j = 2 ∨ j = 3 ∨ j = 4 ∨ j = 5 ∨ j = 6 by omega) with rfl | rfl | rfl | rfl | rfl | rfl | rfl <;> rfl) (Nat.le_of_ble_eq_true rfl) (Nat.le_of_ble_eq_true rfl) d_La_law_0 (fun x1 H hP hD hS => ?_)
  have hP : va_P D gcl [(x1, .inr (2, [.int 0, .null, .null, .int 0, .null, .null, .null]))] H := hP
  have hD : va_D A [(x1, .inr (2, [.int 0, .null, .null, .int 0, .null, .null, .null]))] := hD
  refine W.widen (k := 1) (n := 7) (Nat.le_of_ble_eq_true rfl) (Nat.le_of_ble_eq_true rfl) ?_
  refine lv_dup hx hb d_La_law_3 rfl ?_
  refine lv_aload_n hx hb d_La_law_4 rfl (lv_at hl 0 rfl) ?_
  refine lv_iconst (v := 0) hx hb d_La_law_5 (by decide) ?_
  have hXk : va_X b L xs s H := hX.kept (hS.2.1 b hbl hbA)
  refine W.callR (W.runS (As := [.ref b, .int 0]) (rest := [.ref x1, .ref x1]) hC (q_La_cell l b L xs 0 (by decide) hL) (va_cwS 2 hts (g_goodS key_La_cell sta_La_cell ml_La_45) rfl rfl rfl (by decide +kernel) ⟨Nat.le_of_ble_eq_true rfl, Nat.le_of_ble_eq_true rfl⟩) ⟨fun a U g mk q => ⟨q.1, va_X.moved (u := U) (U := U.calling g mk a) (Vm.Alike.refl U.vm) q.2⟩, fun U hU hW => ⟨rfl, by rw [hU]; exact va_X.moved hW.alike hXk⟩⟩ rfl rfl hl.1 rfl (lv_room (Nat.le_of_ble_eq_true rfl)) d_La_law_6 ⟨Nat.le_of_ble_eq_true rfl, Nat.le_of_ble_eq_true rfl⟩) ?_
  rw [hp1]
  refine W.eq (g2 := F0 m 9 ls (.int p1 :: [.ref x1, .ref x1])) rfl ?_
  refine lv_aload_n hx hb d_La_law_9 rfl (lv_at hl 0 rfl) ?_
  refine lv_iconst (v := 1) hx hb d_La_law_10 (by decide) ?_
  have hXk : va_X b L xs s H := hX.kept (hS.2.1 b hbl hbA)
  refine W.callR (W.runS (As := [.ref b, .int 1]) (rest := [.int p1, .ref x1, .ref x1]) hC (q_La_cell l b L xs 1 (by decide) hL) (va_cwS 2 hts (g_goodS key_La_cell sta_La_cell ml_La_45) rfl rfl rfl (by decide +kernel) ⟨Nat.le_of_ble_eq_true rfl, Nat.le_of_ble_eq_true rfl⟩) ⟨fun a U g mk q => ⟨q.1, va_X.moved (u := U) (U := U.calling g mk a) (Vm.Alike.refl U.vm) q.2⟩, fun U hU hW => ⟨rfl, by rw [hU]; exact va_X.moved hW.alike hXk⟩⟩ rfl rfl hl.1 rfl (lv_room (Nat.le_of_ble_eq_true rfl)) d_La_law_11 ⟨Nat.le_of_ble_eq_true rfl, Nat.le_of_ble_eq_true rfl⟩) ?_
  rw [hp2]
  refine W.eq (g2 := F0 m 14 ls (.int p2 :: [.int p1, .ref x1, .ref x1])) rfl ?_
  have hPc := hP.sub (ws' := [(x1, .inr (2, [.int 0, .null, .null, .int 0, .null, .null, .null]))]) [0] rfl
  have hDc := hD.sub (ws' := [(x1, .inr (2, [.int 0, .null, .null, .int 0, .null, .null, .null]))]) [0] (by decide) rfl
  have hFc := va_free (wc := [(x1, .inr (2, [.int 0, .null, .null, .int 0, .null, .null, .null]))]) hD hS hA [0] rfl
  refine va_callv (va_runI (As := [.int p1, .int p2]) (rest := [.ref x1]) hC (c_BS_init l D cI cL x1 H.size p1 p2) (cwI 2 hts (g_good wi_BS) rfl rfl rfl (hts _ in1_BS) (hts _ mi_La_51) (hts _ ii_BS) rfl (by decide +kernel) ⟨Nat.le_of_ble_eq_true rfl, Nat.le_of_ble_eq_true rfl⟩) ⟨fun a U g mk q => by obtain ⟨q0, q1, qP, qK, qD, qN⟩ := q; exact ⟨q0, q1, qP, va_K.moved (u := U) (U := U.calling g mk a) (Vm.Alike.refl U.vm) qK, qD, va_Nw.same (u := U) (U := U.calling g mk a) rfl rfl qN⟩, fun U hU hW => ⟨rfl, by rw [hU], by rw [hU]; exact hPc, va_K.moved hW.alike hK, hDc.weaken (fun _ _ _ _ => trivial), va_Nw.warmM hW hNw⟩⟩ rfl rfl hl.1 rfl (lv_room (Nat.le_of_ble_eq_true rfl)) d_La_law_14 ⟨Nat.le_of_ble_eq_true rfl, Nat.le_of_ble_eq_true rfl⟩) hS (fun q _ h => hFc q h) hFc (fun u51 t H1 locs ht hvm hw hB hz1 hk1 hS => ?_)
  obtain ⟨hP1, hK1, hD1⟩ := hB
  rw [ht] at hP1
  have hP1 : va_P D gcl (gwc u51 cI (G0c p1 p2)) H1 := hP1
  obtain ⟨hP, hD⟩ := va_join (wr := []) (w1 := (gwc u51 cI (G0c p1 p2))) hP hD [0] [] rfl rfl (by decide) (by decide) hk1 hFc hP1 hD1
  generalize H1 = H at hP hS ⊢
  refine W.widen (k := 16) (n := 9028) (Nat.le_of_ble_eq_true rfl) (Nat.le_of_ble_eq_true rfl) ?_
  have hP : va_P D gcl (gwc u51 cI (G0c p1 p2)) H := hP
  have hD : va_D A (gwc u51 cI (G0c p1 p2)) := hD
  have hw1 := hw
  refine lv_astore_n (lv' := [(1, .ref x1), (0, .ref b)]) hx hb d_La_law_17 rfl hl (by decide) rfl (fun ls hl => ?_)
  refine va_new (ci := 3) (fs := [.int 0, .int 0, .int 0, .null, .int 0, .null, .null, .null, .null, .null, .null, .int 0, .int 0, .int 0, .int 0]) (C := R_Mo) (T := F_Mo) (N := 15) hx hb hts in_Mo t_Mo t_Mo_ok hown (hts _ cl_La_54) (hts _ in2_Mo) (hts _ in1_Mo) hK hP hD hS hA rfl (fun j hj => by rcases (show j = 0 ∨ j = 1 ∨ j = 2 ∨ j = 3 ∨ j = 4 ∨ j = 5 ∨ j = 6 ∨ j = 7 ∨ j = 8 ∨ j = 9 ∨ j = 10 ∨ j = 11 ∨ j = 12 ∨ j = 13 ∨ j = 14 by omega) with rfl | rfl | rfl | rfl | rfl | rfl | rfl | rfl | rfl | rfl | rfl | rfl | rfl | rfl | rfl <;> rfl) (Nat.le_of_ble_eq_true rfl) (Nat.le_of_ble_eq_true rfl) d_La_law_18 (fun x2 H hP hD hS => ?_)
  have hP : va_P D gcl (gwc u51 cI (G0c p1 p2) ++ [(x2, .inr (3, [.int 0, .int 0, .int 0, .null, .int 0, .null, .null, .null, .null, .null, .null, .int 0, .int 0, .int 0, .int 0]))]) H := hP
  have hD : va_D A (gwc u51 cI (G0c p1 p2) ++ [(x2, .inr (3, [.int 0, .int 0, .int 0, .null, .int 0, .null, .null, .null, .null, .null, .null, .int 0, .int 0, .int 0, .int 0]))]) := hD
  refine W.widen (k := 17) (n := 9043) (Nat.le_of_ble_eq_true rfl) (Nat.le_of_ble_eq_true rfl) ?_
  refine lv_dup hx hb d_La_law_21 rfl ?_
  refine lv_aload_n hx hb d_La_law_22 rfl (lv_at hl 1 rfl) ?_
  refine lv_iconst (v := 0) hx hb d_La_law_23 (by decide) ?_
  have hXk : va_X b L xs s H := hX.kept (hS.2.1 b hbl hbA)
  refine W.callR (W.runS (As := [.ref b, .int 0]) (rest := [.ref x2, .ref x2]) hC (q_La_cell l b L xs 0 (by decide) hL) (va_cwS 2 hts (g_goodS key_La_cell sta_La_cell ml_La_45) rfl rfl rfl (by decide +kernel) ⟨Nat.le_of_ble_eq_true rfl, Nat.le_of_ble_eq_true rfl⟩) ⟨fun a U g mk q => ⟨q.1, va_X.moved (u := U) (U := U.calling g mk a) (Vm.Alike.refl U.vm) q.2⟩, fun U hU hW => ⟨rfl, by rw [hU]; exact va_X.moved hW.alike hXk⟩⟩ rfl rfl hl.1 rfl (lv_room (Nat.le_of_ble_eq_true rfl)) d_La_law_24 ⟨Nat.le_of_ble_eq_true rfl, Nat.le_of_ble_eq_true rfl⟩) ?_
  rw [hp1]
  refine W.eq (g2 := F0 m 27 ls (.int p1 :: [.ref x2, .ref x2])) rfl ?_
  refine lv_aload_n hx hb d_La_law_27 rfl (lv_at hl 1 rfl) ?_
  refine lv_iconst (v := 1) hx hb d_La_law_28 (by decide) ?_
  have hXk : va_X b L xs s H := hX.kept (hS.2.1 b hbl hbA)
  refine W.callR (W.runS (As := [.ref b, .int 1]) (rest := [.int p1, .ref x2, .ref x2]) hC (q_La_cell l b L xs 1 (by decide) hL) (va_cwS 2 hts (g_goodS key_La_cell sta_La_cell ml_La_45) rfl rfl rfl (by decide +kernel) ⟨Nat.le_of_ble_eq_true rfl, Nat.le_of_ble_eq_true rfl⟩) ⟨fun a U g mk q => ⟨q.1, va_X.moved (u := U) (U := U.calling g mk a) (Vm.Alike.refl U.vm) q.2⟩, fun U hU hW => ⟨rfl, by rw [hU]; exact va_X.moved hW.alike hXk⟩⟩ rfl rfl hl.1 rfl (lv_room (Nat.le_of_ble_eq_true rfl)) d_La_law_29 ⟨Nat.le_of_ble_eq_true rfl, Nat.le_of_ble_eq_true rfl⟩) ?_
  rw [hp2]
  refine W.eq (g2 := F0 m 32 ls (.int p2 :: [.int p1, .ref x2, .ref x2])) rfl ?_
  have hPc := hP.sub (ws' := [(x2, .inr (3, [.int 0, .int 0, .int 0, .null, .int 0, .null, .null, .null, .null, .null, .null, .int 0, .int 0, .int 0, .int 0]))]) [16] rfl
  have hDc := hD.sub (ws' := [(x2, .inr (3, [.int 0, .int 0, .int 0, .null, .int 0, .null, .null, .null, .null, .null, .null, .int 0, .int 0, .int 0, .int 0]))]) [16] (by decide) rfl
  have hFc := va_free (wc := [(x2, .inr (3, [.int 0, .int 0, .int 0, .null, .int 0, .null, .null, .null, .null, .null, .null, .int 0, .int 0, .int 0, .int 0]))]) hD hS hA [16] rfl
  refine va_callv (va_runI (As := [.int p1, .int p2]) (rest := [.ref x2]) hC (c_Mo_init l D cI cL x2 H.size p1 p2) (cwI 2 hts (g_good wi_Mo) rfl rfl rfl (hts _ in1_Mo) (hts _ mi_La_56) (hts _ ii_Mo) rfl (by decide +kernel) ⟨Nat.le_of_ble_eq_true rfl, Nat.le_of_ble_eq_true rfl⟩) ⟨fun a U g mk q => by obtain ⟨q0, q1, qP, qK, qD⟩ := q; exact ⟨q0, q1, qP, va_K.moved (u := U) (U := U.calling g mk a) (Vm.Alike.refl U.vm) qK, qD⟩, fun U hU hW => ⟨rfl, by rw [hU], by rw [hU]; exact hPc, va_K.moved hW.alike hK, hDc.weaken (fun _ _ _ _ => trivial)⟩⟩ rfl rfl hl.1 rfl (lv_room (Nat.le_of_ble_eq_true rfl)) d_La_law_32 ⟨Nat.le_of_ble_eq_true rfl, Nat.le_of_ble_eq_true rfl⟩) hS (fun q _ h => hFc q h) hFc (fun u56 t H1 locs ht hvm hw hB hz1 hk1 hS => ?_)
  obtain ⟨hP1, hK1, hD1⟩ := hB
  rw [ht] at hP1
  have hP1 : va_P D gcl (gwm u56 cI (G0m p1 p2)) H1 := hP1
  obtain ⟨hP, hD⟩ := va_join (wr := (gwc u51 cI (G0c p1 p2))) (w1 := (gwm u56 cI (G0m p1 p2))) hP hD [16] [0, 1, 2, 3, 4, 5, 6, 7, 8, 9, 10, 11, 12, 13, 14, 15] rfl rfl (by decide) (by decide) hk1 hFc hP1 hD1
  generalize H1 = H at hP hS ⊢
  refine W.widen (k := 24) (n := 287620) (Nat.le_of_ble_eq_true rfl) (Nat.le_of_ble_eq_true rfl) ?_
  have hP : va_P D gcl (gwc u51 cI (G0c p1 p2) ++ gwm u56 cI (G0m p1 p2)) H := hP
  have hD : va_D A (gwc u51 cI (G0c p1 p2) ++ gwm u56 cI (G0m p1 p2)) := hD
  refine lv_astore_n (lv' := [(2, .ref x2), (1, .ref x1), (0, .ref b)]) hx hb d_La_law_35 rfl hl (by decide) rfl (fun ls hl => ?_)
  refine lv_iconst (v := 1) hx hb d_La_law_36 (by decide) ?_
  refine gn_arrL hC hK hP hD hS hA (Nat.le_of_ble_eq_true rfl) (Nat.le_of_ble_eq_true rfl) d_La_law_37 (fun x3 H hP hD hS => ?_)
  refine W.widen (k := 25) (n := 287621) (Nat.le_of_ble_eq_true rfl) (Nat.le_of_ble_eq_true rfl) ?_
  refine lv_astore_n (lv' := [(3, .ref x3), (2, .ref x2), (1, .ref x1), (0, .ref b)]) hx hb d_La_law_39 rfl hl (by decide) rfl (fun ls hl => ?_)
  refine lv_iconst (v := 2) hx hb d_La_law_40 (by decide) ?_
  refine lv_istore (lv' := [(4, .int 2), (3, .ref x3), (2, .ref x2), (1, .ref x1), (0, .ref b)]) hx hb d_La_law_41 hl (by decide) rfl (fun ls hl => ?_)
  obtain ⟨ad, had⟩ : ∃ ad : Nat → Nat, ad = fun k => if k < 16 then u51 k else if k < 24 then u56 k else x3 := ⟨_, rfl⟩
  have e1 : gwc u51 cI (G0c p1 p2) = gwc ad cI (G00 p1 p2) := gwc_eq _ _ _ _ _ (fun k hk => by rw [had]; simp only [hk, if_true]) (fun k hk => funext fun b => if_pos hk)
  have e2 : gwm u56 cI (G0m p1 p2) = gwm ad cI (G00 p1 p2) := gwm_eq _ _ _ _ _ (fun k hk hk2 => by rw [had]; simp only [Nat.not_lt.mpr hk, hk2, if_true, if_false]) (fun k hk hk2 => funext fun b => if_neg (Nat.not_lt.mpr hk))
  have e3 : x3 = ad 24 := by rw [had]; rfl
  have e4 : x1 = ad 0 := by rw [had, ← hw1]; rfl
  have e5 : x2 = ad 16 := by rw [had, ← hw]; rfl
  rw [e1, e2, e3] at hP hD
  rw [e3, e4, e5] at hl
  have hP : va_P D gcl (gwd ad cI cL (G00 p1 p2) 0) H := hP
  have hD : va_D A (gwd ad cI cL (G00 p1 p2) 0) := hD
  have hlo : ∀ k, k < 25 → s.heap.size ≤ ad k := fun k hk => by
    have hq : ∃ e, (gwd ad cI cL (G00 p1 p2) 0)[k]? = some (ad k, e) := by
      rcases (show k = 0 ∨ k = 1 ∨ k = 2 ∨ k = 3 ∨ k = 4 ∨ k = 5 ∨ k = 6 ∨ k = 7 ∨ k = 8 ∨ k = 9 ∨ k = 10 ∨ k = 11 ∨ k = 12 ∨ k = 13 ∨ k = 14 ∨ k = 15 ∨ k = 16 ∨ k = 17 ∨ k = 18 ∨ k = 19 ∨ k = 20 ∨ k = 21 ∨ k = 22 ∨ k = 23 ∨ k = 24 by omega) with rfl | rfl | rfl | rfl | rfl | rfl | rfl | rfl | rfl | rfl | rfl | rfl | rfl | rfl | rfl | rfl | rfl | rfl | rfl | rfl | rfl | rfl | rfl | rfl | rfl <;> exact ⟨_, rfl⟩
    obtain ⟨e, hq⟩ := hq
    have h2 := hD.2 k _ hq
    rw [hAe] at h2; exact h2
  have hsub : ∀ q, A q → gA ad s.heap.size q := fun q h => Or.inr (by rw [hAe] at h; exact h)
  have hB : gB s s D cI cL ad (G00 p1 p2) 0 H _ := ⟨hP, hK, ⟨hD.1, fun k q h => hsub _ (hD.2 k q h)⟩, ⟨hS.1, fun q h1 h2 => hS.2.1 q h1 (fun h => h2 (hsub _ h)), fun q h => hsub _ (hS.2.2 q h)⟩, ⟨⟨_, hts0, hgv⟩, State.WarmedH.refl s, Nat.le_refl _, fun _ _ => rfl, hlo⟩⟩
  exact law_loop N hst C0 n (G00 p1 p2) 0 2 _ _ (by show 25 + n ≤ 601024; omega) (by show 287621 + 6 * n ≤ 7293000; omega) hok H _ hB ls (lv_sub hl [4, 3, 2, 1, 0] rfl)
