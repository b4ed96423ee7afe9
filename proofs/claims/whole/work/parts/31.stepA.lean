/-! One step of the machine, as a function of its 269 numbers; class and reference do it. -/
def xR (w p : Int32) : Int32 := (g_ush w p) &&& (7 : Int32)
def xn (w : Int32) : Int32 := w.toInt16.toInt32
def xM (w : Int32) (x : Nat → Int32) : Int32 := (8 : Int32) + ((x (xR w 20).toNatClampNeg + xn w) &&& (255 : Int32))
/-- which number a step writes, or -1 -/
def xWr (k w : Int32) (x : Nat → Int32) : Int32 := if k = 0 ∨ 12 < k ∨ k = 7 ∨ k = 9 then -1 else if k = 6 then xM w x else xR w 24
/-- what it writes -/
def xV (k w : Int32) (I x : Nat → Int32) : Int32 := if k = 6 then x (xR w 24).toNatClampNeg else if k = 5 then x (xM w x).toNatClampNeg else if k = 8 then I (x 265).toNatClampNeg else f_Mo_result (fun _ _ => 0) k (x (xR w 20).toNatClampNeg) (x (xR w 16).toNatClampNeg) (xn w)
/-- the numbers behind it -/
def xN (k w : Int32) (I x : Nat → Int32) (i : Nat) : Int32 :=
  if i < 264 then (if ¬ xWr k w x = -1 ∧ i = (xWr k w x).toNatClampNeg then xV k w I x else x i)
  else if i = 264 then (if k = 0 ∨ 12 < k then x 264 else if k = 7 ∧ ¬ x (xR w 24).toNatClampNeg = 0 then (x 264 + xn w) &&& 63 else (x 264 + 1) &&& 63)
  else if i = 265 then (if k = 8 then x 265 + 1 else x 265)
  else if i = 266 then (if k = 9 then x 266 + 1 else x 266)
  else if i = 267 then (if k = 9 then 31 * x 267 + x (xR w 24).toNatClampNeg else x 267)
  else (if k = 0 then 1 else if 12 < k then 2 else x 268)
def stC (c n : Nat) (G : gT) (i : Nat) : Int32 := if i < 264 then G n i else G c (i - 263)
theorem reg_x (G : gT) (w p : Int32) : f_Ma_register G w p = xR w p := rfl
theorem kind_x (G : gT) (w : Int32) : f_Mo_kindOf G w = g_ush w 28 := rfl
theorem xn_x (w : Int32) : w.toInt16.toInt32 = xn w := rfl
theorem r24_x (w : Int32) : (w >>> ((24 : Int32) &&& 31)) &&& (7 : Int32) = xR w 24 := reg24 w
theorem r20_x (w : Int32) : (w >>> ((20 : Int32) &&& 31)) &&& (7 : Int32) = xR w 20 := reg20 w
theorem r16_x (w : Int32) : (w >>> ((16 : Int32) &&& 31)) &&& (7 : Int32) = xR w 16 := reg16 w
theorem n_x (w : Int32) : (w <<< ((16 : Int32) &&& 31)) >>> ((16 : Int32) &&& 31) = xn w := low16 w
theorem res_x (G : gT) (a b c d : Int32) : f_Mo_result G a b c d = f_Mo_result (fun _ _ => 0) a b c d := rfl
theorem xR_in (w p : Int32) : ∃ j, j < 8 ∧ xR w p = nI j := m7_in _
theorem xM_in (w : Int32) (x : Nat → Int32) : ∃ j, j < 264 ∧ 8 ≤ j ∧ xM w x = nI j := by
  obtain ⟨j, hj, e⟩ := m255_in (x (xR w 20).toNatClampNeg + xn w)
  exact ⟨8 + j, by omega, by omega, by unfold xM; rw [e]; exact nI_add 8 j⟩
theorem nI_nm1 {j : Nat} (h : j < 2 ^ 31) : ¬ nI j = -1 := fun e => by
  have := congrArg Int32.toInt e
  rw [nI_toInt h] at this
  have h2 : (-1 : Int32).toInt = -1 := by decide
  omega
theorem xR_c (w p : Int32) : (xR w p).toNatClampNeg < 8 := by
  obtain ⟨j, hj, e⟩ := xR_in w p
  rw [e, nI_clamp (by omega)]; exact hj
theorem xM_c (w : Int32) (x : Nat → Int32) : (xM w x).toNatClampNeg < 264 := by
  obtain ⟨j, hj, -, e⟩ := xM_in w x
  rw [e, nI_clamp (by omega)]; exact hj
theorem xR_n (w p : Int32) : ¬ xR w p = -1 := by
  obtain ⟨j, hj, e⟩ := xR_in w p
  rw [e]; exact nI_nm1 (by omega)
theorem xM_n (w : Int32) (x : Nat → Int32) : ¬ xM w x = -1 := by
  obtain ⟨j, hj, -, e⟩ := xM_in w x
  rw [e]; exact nI_nm1 (by omega)
theorem xR_v (w p : Int32) (n : Nat) (hn : 8 ≤ n) (h2 : n < 2 ^ 31) : vp_in (xR w p) n := by
  obtain ⟨j, hj, e⟩ := xR_in w p
  rw [e]; exact vp_in_nI (by omega) h2
theorem xM_v (w : Int32) (x : Nat → Int32) (n : Nat) (hn : 264 ≤ n) (h2 : n < 2 ^ 31) : vp_in (xM w x) n := by
  obtain ⟨j, hj, -, e⟩ := xM_in w x
  rw [e]; exact vp_in_nI (by omega) h2
theorem i_cases {p : Nat → Prop} (h : ∀ i, i < 264 → p i) (a : p 264) (b : p 265) (c : p 266) (d : p 267) (e : p 268) : ∀ i, i < 269 → p i := by
  intro i hi
  rcases (show i < 264 ∨ i = 264 ∨ i = 265 ∨ i = 266 ∨ i = 267 ∨ i = 268 by omega) with q | q | q | q | q | q
  · exact h i q
  all_goals (subst q; assumption)
theorem xM_x (w : Int32) (x : Nat → Int32) : (8 : Int32) + ((x (xR w 20).toNatClampNeg + xn w) &&& (255 : Int32)) = xM w x := rfl
/-- a kind is one of sixteen -/
theorem k_cases {p : Int32 → Prop} (w : Int32) (h : ∀ k, k < 16 → g_ush w 28 = nI k → p (nI k)) : p (g_ush w 28) := by
  obtain ⟨k, hk, e⟩ := kind_in w
  rw [e]; exact h k hk e

set_option maxHeartbeats 1000000 in
theorem ad_3_0 (G : gT) (x I : Nat → Int32) (av w : Int32) (g1 : G 3 1 = x 264) (g2 : G 3 2 = x 265) (g3 : G 3 3 = x 266) (g4 : G 3 4 = x 267) (g5 : G 3 5 = x 268) (gn : ∀ i, i < 264 → G 4 i = x i) (gw : G 1 (x 264).toNatClampNeg = w) (v1 : vp_in (x 264) 64) (v2 : x 265 < av → vp_in (x 265) 200) (gi : x 265 < av → G 2 (x 265).toNatClampNeg = I (x 265).toNatClampNeg) (hr4 : ∀ p, G 4 (xR w p).toNatClampNeg = x (xR w p).toNatClampNeg) (hm4 : G 4 (xM w x).toNatClampNeg = x (xM w x).toNatClampNeg) (vr : ∀ p, vp_in (xR w p) 264) (vm : vp_in (xM w x) 264) (ek : g_ush w 28 = 0) : ok_Ma_advance_3 G av ∧ (x 268 = 0 → ¬ ((0 : Int32) = 8 ∧ ¬ x 265 < av) → ∃ G', f_Ma_advance_3 G av = (1, G') ∧ (∀ i, i < 269 → stC 3 4 G' i = xN 0 w I x i) ∧ G' 3 6 = xWr 0 w x ∧ (¬ xWr 0 w x = -1 → G' 3 7 = x (xWr 0 w x).toNatClampNeg) ∧ G' 3 8 = x 264 ∧ G' 3 9 = x 265 ∧ G' 3 10 = x 266 ∧ G' 3 11 = x 267 ∧ ∀ a, ¬ a = 3 → ¬ a = 4 → G' a = G a) ∧ ((¬ x 268 = 0 ∨ ((0 : Int32) = 8 ∧ ¬ x 265 < av)) → f_Ma_advance_3 G av = (0, G)) := by
  have hnr := xR_n w 24
  have hnm := xM_n w x
  refine ⟨?_, fun h0 hnw => ?_, ?_⟩
  · simp (decide := true) [ok_Ma_advance_3, ok_Ma_wouldWait_3, f_Ma_wouldWait_3, ok_Ma_compute_3, ok_Ma_moveNumbers_3, ok_Ma_write_3, f_Ma_rememberBefore_3, g_up, reg_x, xn_x, g1, g2, g3, g4, g5, gw, ek, v1, hr4, hm4, vr, vm, xM_x]
  · refine ⟨_, Prod.ext ?_ rfl, i_cases ?_ ?_ ?_ ?_ ?_ ?_, ?_, ?_, ?_, ?_, ?_, ?_, ?_⟩
    · simp (decide := true) [f_Ma_advance_3, f_Ma_wouldWait_3, g1, g2, g5, gw, ek, h0]
    · intro i hi
      simp (decide := true) [f_Ma_advance_3, f_Ma_wouldWait_3, f_Ma_compute_3, f_Ma_moveNumbers_3, f_Ma_write_3, f_Ma_stop_3, f_Ma_rememberBefore_3, stC, xN, xV, f_Mo_result, g_up, reg_x, xn_x, g1, g2, g3, g4, g5, gw, ek, h0, xWr, hnr, hnm, hr4, hm4, xM_x, hi, gn i hi]
    · simp (decide := true) [f_Ma_advance_3, f_Ma_wouldWait_3, f_Ma_compute_3, f_Ma_moveNumbers_3, f_Ma_write_3, f_Ma_stop_3, f_Ma_rememberBefore_3, stC, xN, xV, f_Mo_result, g_up, reg_x, xn_x, g1, g2, g3, g4, g5, gw, ek, h0, xWr, hnr, hnm, hr4, hm4, xM_x]
    · simp (decide := true) [f_Ma_advance_3, f_Ma_wouldWait_3, f_Ma_compute_3, f_Ma_moveNumbers_3, f_Ma_write_3, f_Ma_stop_3, f_Ma_rememberBefore_3, stC, xN, xV, f_Mo_result, g_up, reg_x, xn_x, g1, g2, g3, g4, g5, gw, ek, h0, xWr, hnr, hnm, hr4, hm4, xM_x]
    · simp (decide := true) [f_Ma_advance_3, f_Ma_wouldWait_3, f_Ma_compute_3, f_Ma_moveNumbers_3, f_Ma_write_3, f_Ma_stop_3, f_Ma_rememberBefore_3, stC, xN, xV, f_Mo_result, g_up, reg_x, xn_x, g1, g2, g3, g4, g5, gw, ek, h0, xWr, hnr, hnm, hr4, hm4, xM_x]
    · simp (decide := true) [f_Ma_advance_3, f_Ma_wouldWait_3, f_Ma_compute_3, f_Ma_moveNumbers_3, f_Ma_write_3, f_Ma_stop_3, f_Ma_rememberBefore_3, stC, xN, xV, f_Mo_result, g_up, reg_x, xn_x, g1, g2, g3, g4, g5, gw, ek, h0, xWr, hnr, hnm, hr4, hm4, xM_x]
    · simp (decide := true) [f_Ma_advance_3, f_Ma_wouldWait_3, f_Ma_compute_3, f_Ma_moveNumbers_3, f_Ma_write_3, f_Ma_stop_3, f_Ma_rememberBefore_3, stC, xN, xV, f_Mo_result, g_up, reg_x, xn_x, g1, g2, g3, g4, g5, gw, ek, h0, xWr, hnr, hnm, hr4, hm4, xM_x]
    · simp (decide := true) [f_Ma_advance_3, f_Ma_wouldWait_3, f_Ma_compute_3, f_Ma_moveNumbers_3, f_Ma_write_3, f_Ma_stop_3, f_Ma_rememberBefore_3, stC, xN, xV, f_Mo_result, g_up, reg_x, xn_x, g1, g2, g3, g4, g5, gw, ek, h0, xWr, hnr, hnm, hr4, hm4, xM_x]
    · simp (decide := true) [f_Ma_advance_3, f_Ma_wouldWait_3, f_Ma_compute_3, f_Ma_moveNumbers_3, f_Ma_write_3, f_Ma_stop_3, f_Ma_rememberBefore_3, stC, xN, xV, f_Mo_result, g_up, reg_x, xn_x, g1, g2, g3, g4, g5, gw, ek, h0, xWr, hnr, hnm, hr4, hm4, xM_x]
    · simp (decide := true) [f_Ma_advance_3, f_Ma_wouldWait_3, f_Ma_compute_3, f_Ma_moveNumbers_3, f_Ma_write_3, f_Ma_stop_3, f_Ma_rememberBefore_3, stC, xN, xV, f_Mo_result, g_up, reg_x, xn_x, g1, g2, g3, g4, g5, gw, ek, h0, xWr, hnr, hnm, hr4, hm4, xM_x]
    · simp (decide := true) [f_Ma_advance_3, f_Ma_wouldWait_3, f_Ma_compute_3, f_Ma_moveNumbers_3, f_Ma_write_3, f_Ma_stop_3, f_Ma_rememberBefore_3, stC, xN, xV, f_Mo_result, g_up, reg_x, xn_x, g1, g2, g3, g4, g5, gw, ek, h0, xWr, hnr, hnm, hr4, hm4, xM_x]
    · simp (decide := true) [f_Ma_advance_3, f_Ma_wouldWait_3, f_Ma_compute_3, f_Ma_moveNumbers_3, f_Ma_write_3, f_Ma_stop_3, f_Ma_rememberBefore_3, stC, xN, xV, f_Mo_result, g_up, reg_x, xn_x, g1, g2, g3, g4, g5, gw, ek, h0, xWr, hnr, hnm, hr4, hm4, xM_x]
    · simp (decide := true) [f_Ma_advance_3, f_Ma_wouldWait_3, f_Ma_compute_3, f_Ma_moveNumbers_3, f_Ma_write_3, f_Ma_stop_3, f_Ma_rememberBefore_3, stC, xN, xV, f_Mo_result, g_up, reg_x, xn_x, g1, g2, g3, g4, g5, gw, ek, h0, xWr, hnr, hnm, hr4, hm4, xM_x]
    · intro a h3 h4
      funext b
      simp (decide := true) [f_Ma_advance_3, f_Ma_wouldWait_3, f_Ma_compute_3, f_Ma_moveNumbers_3, f_Ma_write_3, f_Ma_stop_3, f_Ma_rememberBefore_3, stC, xN, xV, f_Mo_result, g_up, reg_x, xn_x, g1, g2, g3, g4, g5, gw, ek, h0, xWr, hnr, hnm, hr4, hm4, xM_x, h3, h4]
  · intro h
    simp (decide := true) [f_Ma_advance_3, f_Ma_wouldWait_3, g1, g2, g5, gw, ek, (show ¬ x 268 = 0 from h.elim (fun z => z) (fun z => absurd z.1 (by decide)))]

set_option maxHeartbeats 1000000 in
theorem ad_3_1 (G : gT) (x I : Nat → Int32) (av w : Int32) (g1 : G 3 1 = x 264) (g2 : G 3 2 = x 265) (g3 : G 3 3 = x 266) (g4 : G 3 4 = x 267) (g5 : G 3 5 = x 268) (gn : ∀ i, i < 264 → G 4 i = x i) (gw : G 1 (x 264).toNatClampNeg = w) (v1 : vp_in (x 264) 64) (v2 : x 265 < av → vp_in (x 265) 200) (gi : x 265 < av → G 2 (x 265).toNatClampNeg = I (x 265).toNatClampNeg) (hr4 : ∀ p, G 4 (xR w p).toNatClampNeg = x (xR w p).toNatClampNeg) (hm4 : G 4 (xM w x).toNatClampNeg = x (xM w x).toNatClampNeg) (vr : ∀ p, vp_in (xR w p) 264) (vm : vp_in (xM w x) 264) (ek : g_ush w 28 = 1) : ok_Ma_advance_3 G av ∧ (x 268 = 0 → ¬ ((1 : Int32) = 8 ∧ ¬ x 265 < av) → ∃ G', f_Ma_advance_3 G av = (1, G') ∧ (∀ i, i < 269 → stC 3 4 G' i = xN 1 w I x i) ∧ G' 3 6 = xWr 1 w x ∧ (¬ xWr 1 w x = -1 → G' 3 7 = x (xWr 1 w x).toNatClampNeg) ∧ G' 3 8 = x 264 ∧ G' 3 9 = x 265 ∧ G' 3 10 = x 266 ∧ G' 3 11 = x 267 ∧ ∀ a, ¬ a = 3 → ¬ a = 4 → G' a = G a) ∧ ((¬ x 268 = 0 ∨ ((1 : Int32) = 8 ∧ ¬ x 265 < av)) → f_Ma_advance_3 G av = (0, G)) := by
  have hnr := xR_n w 24
  have hnm := xM_n w x
  refine ⟨?_, fun h0 hnw => ?_, ?_⟩
  · simp (decide := true) [ok_Ma_advance_3, ok_Ma_wouldWait_3, f_Ma_wouldWait_3, ok_Ma_compute_3, ok_Ma_moveNumbers_3, ok_Ma_write_3, f_Ma_rememberBefore_3, g_up, reg_x, xn_x, g1, g2, g3, g4, g5, gw, ek, v1, hr4, hm4, vr, vm, xM_x]
  · refine ⟨_, Prod.ext ?_ rfl, i_cases ?_ ?_ ?_ ?_ ?_ ?_, ?_, ?_, ?_, ?_, ?_, ?_, ?_⟩
    · simp (decide := true) [f_Ma_advance_3, f_Ma_wouldWait_3, g1, g2, g5, gw, ek, h0]
    · intro i hi
      simp (decide := true) [f_Ma_advance_3, f_Ma_wouldWait_3, f_Ma_compute_3, f_Ma_moveNumbers_3, f_Ma_write_3, f_Ma_stop_3, f_Ma_rememberBefore_3, stC, xN, xV, f_Mo_result, g_up, reg_x, xn_x, g1, g2, g3, g4, g5, gw, ek, h0, xWr, hnr, hnm, hr4, hm4, xM_x, hi, gn i hi]
    · simp (decide := true) [f_Ma_advance_3, f_Ma_wouldWait_3, f_Ma_compute_3, f_Ma_moveNumbers_3, f_Ma_write_3, f_Ma_stop_3, f_Ma_rememberBefore_3, stC, xN, xV, f_Mo_result, g_up, reg_x, xn_x, g1, g2, g3, g4, g5, gw, ek, h0, xWr, hnr, hnm, hr4, hm4, xM_x]
    · simp (decide := true) [f_Ma_advance_3, f_Ma_wouldWait_3, f_Ma_compute_3, f_Ma_moveNumbers_3, f_Ma_write_3, f_Ma_stop_3, f_Ma_rememberBefore_3, stC, xN, xV, f_Mo_result, g_up, reg_x, xn_x, g1, g2, g3, g4, g5, gw, ek, h0, xWr, hnr, hnm, hr4, hm4, xM_x]
    · simp (decide := true) [f_Ma_advance_3, f_Ma_wouldWait_3, f_Ma_compute_3, f_Ma_moveNumbers_3, f_Ma_write_3, f_Ma_stop_3, f_Ma_rememberBefore_3, stC, xN, xV, f_Mo_result, g_up, reg_x, xn_x, g1, g2, g3, g4, g5, gw, ek, h0, xWr, hnr, hnm, hr4, hm4, xM_x]
    · simp (decide := true) [f_Ma_advance_3, f_Ma_wouldWait_3, f_Ma_compute_3, f_Ma_moveNumbers_3, f_Ma_write_3, f_Ma_stop_3, f_Ma_rememberBefore_3, stC, xN, xV, f_Mo_result, g_up, reg_x, xn_x, g1, g2, g3, g4, g5, gw, ek, h0, xWr, hnr, hnm, hr4, hm4, xM_x]
    · simp (decide := true) [f_Ma_advance_3, f_Ma_wouldWait_3, f_Ma_compute_3, f_Ma_moveNumbers_3, f_Ma_write_3, f_Ma_stop_3, f_Ma_rememberBefore_3, stC, xN, xV, f_Mo_result, g_up, reg_x, xn_x, g1, g2, g3, g4, g5, gw, ek, h0, xWr, hnr, hnm, hr4, hm4, xM_x]
    · simp (decide := true) [f_Ma_advance_3, f_Ma_wouldWait_3, f_Ma_compute_3, f_Ma_moveNumbers_3, f_Ma_write_3, f_Ma_stop_3, f_Ma_rememberBefore_3, stC, xN, xV, f_Mo_result, g_up, reg_x, xn_x, g1, g2, g3, g4, g5, gw, ek, h0, xWr, hnr, hnm, hr4, hm4, xM_x]
    · simp (decide := true) [f_Ma_advance_3, f_Ma_wouldWait_3, f_Ma_compute_3, f_Ma_moveNumbers_3, f_Ma_write_3, f_Ma_stop_3, f_Ma_rememberBefore_3, stC, xN, xV, f_Mo_result, g_up, reg_x, xn_x, g1, g2, g3, g4, g5, gw, ek, h0, xWr, hnr, hnm, hr4, hm4, xM_x]
    · simp (decide := true) [f_Ma_advance_3, f_Ma_wouldWait_3, f_Ma_compute_3, f_Ma_moveNumbers_3, f_Ma_write_3, f_Ma_stop_3, f_Ma_rememberBefore_3, stC, xN, xV, f_Mo_result, g_up, reg_x, xn_x, g1, g2, g3, g4, g5, gw, ek, h0, xWr, hnr, hnm, hr4, hm4, xM_x]
    · simp (decide := true) [f_Ma_advance_3, f_Ma_wouldWait_3, f_Ma_compute_3, f_Ma_moveNumbers_3, f_Ma_write_3, f_Ma_stop_3, f_Ma_rememberBefore_3, stC, xN, xV, f_Mo_result, g_up, reg_x, xn_x, g1, g2, g3, g4, g5, gw, ek, h0, xWr, hnr, hnm, hr4, hm4, xM_x]
    · simp (decide := true) [f_Ma_advance_3, f_Ma_wouldWait_3, f_Ma_compute_3, f_Ma_moveNumbers_3, f_Ma_write_3, f_Ma_stop_3, f_Ma_rememberBefore_3, stC, xN, xV, f_Mo_result, g_up, reg_x, xn_x, g1, g2, g3, g4, g5, gw, ek, h0, xWr, hnr, hnm, hr4, hm4, xM_x]
    · simp (decide := true) [f_Ma_advance_3, f_Ma_wouldWait_3, f_Ma_compute_3, f_Ma_moveNumbers_3, f_Ma_write_3, f_Ma_stop_3, f_Ma_rememberBefore_3, stC, xN, xV, f_Mo_result, g_up, reg_x, xn_x, g1, g2, g3, g4, g5, gw, ek, h0, xWr, hnr, hnm, hr4, hm4, xM_x]
    · intro a h3 h4
      funext b
      simp (decide := true) [f_Ma_advance_3, f_Ma_wouldWait_3, f_Ma_compute_3, f_Ma_moveNumbers_3, f_Ma_write_3, f_Ma_stop_3, f_Ma_rememberBefore_3, stC, xN, xV, f_Mo_result, g_up, reg_x, xn_x, g1, g2, g3, g4, g5, gw, ek, h0, xWr, hnr, hnm, hr4, hm4, xM_x, h3, h4]
  · intro h
    simp (decide := true) [f_Ma_advance_3, f_Ma_wouldWait_3, g1, g2, g5, gw, ek, (show ¬ x 268 = 0 from h.elim (fun z => z) (fun z => absurd z.1 (by decide)))]

set_option maxHeartbeats 1000000 in
theorem ad_3_2 (G : gT) (x I : Nat → Int32) (av w : Int32) (g1 : G 3 1 = x 264) (g2 : G 3 2 = x 265) (g3 : G 3 3 = x 266) (g4 : G 3 4 = x 267) (g5 : G 3 5 = x 268) (gn : ∀ i, i < 264 → G 4 i = x i) (gw : G 1 (x 264).toNatClampNeg = w) (v1 : vp_in (x 264) 64) (v2 : x 265 < av → vp_in (x 265) 200) (gi : x 265 < av → G 2 (x 265).toNatClampNeg = I (x 265).toNatClampNeg) (hr4 : ∀ p, G 4 (xR w p).toNatClampNeg = x (xR w p).toNatClampNeg) (hm4 : G 4 (xM w x).toNatClampNeg = x (xM w x).toNatClampNeg) (vr : ∀ p, vp_in (xR w p) 264) (vm : vp_in (xM w x) 264) (ek : g_ush w 28 = 2) : ok_Ma_advance_3 G av ∧ (x 268 = 0 → ¬ ((2 : Int32) = 8 ∧ ¬ x 265 < av) → ∃ G', f_Ma_advance_3 G av = (1, G') ∧ (∀ i, i < 269 → stC 3 4 G' i = xN 2 w I x i) ∧ G' 3 6 = xWr 2 w x ∧ (¬ xWr 2 w x = -1 → G' 3 7 = x (xWr 2 w x).toNatClampNeg) ∧ G' 3 8 = x 264 ∧ G' 3 9 = x 265 ∧ G' 3 10 = x 266 ∧ G' 3 11 = x 267 ∧ ∀ a, ¬ a = 3 → ¬ a = 4 → G' a = G a) ∧ ((¬ x 268 = 0 ∨ ((2 : Int32) = 8 ∧ ¬ x 265 < av)) → f_Ma_advance_3 G av = (0, G)) := by
  have hnr := xR_n w 24
  have hnm := xM_n w x
  refine ⟨?_, fun h0 hnw => ?_, ?_⟩
  · simp (decide := true) [ok_Ma_advance_3, ok_Ma_wouldWait_3, f_Ma_wouldWait_3, ok_Ma_compute_3, ok_Ma_moveNumbers_3, ok_Ma_write_3, f_Ma_rememberBefore_3, g_up, reg_x, xn_x, g1, g2, g3, g4, g5, gw, ek, v1, hr4, hm4, vr, vm, xM_x]
  · refine ⟨_, Prod.ext ?_ rfl, i_cases ?_ ?_ ?_ ?_ ?_ ?_, ?_, ?_, ?_, ?_, ?_, ?_, ?_⟩
    · simp (decide := true) [f_Ma_advance_3, f_Ma_wouldWait_3, g1, g2, g5, gw, ek, h0]
    · intro i hi
      simp (decide := true) [f_Ma_advance_3, f_Ma_wouldWait_3, f_Ma_compute_3, f_Ma_moveNumbers_3, f_Ma_write_3, f_Ma_stop_3, f_Ma_rememberBefore_3, stC, xN, xV, f_Mo_result, g_up, reg_x, xn_x, g1, g2, g3, g4, g5, gw, ek, h0, xWr, hnr, hnm, hr4, hm4, xM_x, hi, gn i hi]
    · simp (decide := true) [f_Ma_advance_3, f_Ma_wouldWait_3, f_Ma_compute_3, f_Ma_moveNumbers_3, f_Ma_write_3, f_Ma_stop_3, f_Ma_rememberBefore_3, stC, xN, xV, f_Mo_result, g_up, reg_x, xn_x, g1, g2, g3, g4, g5, gw, ek, h0, xWr, hnr, hnm, hr4, hm4, xM_x]
    · simp (decide := true) [f_Ma_advance_3, f_Ma_wouldWait_3, f_Ma_compute_3, f_Ma_moveNumbers_3, f_Ma_write_3, f_Ma_stop_3, f_Ma_rememberBefore_3, stC, xN, xV, f_Mo_result, g_up, reg_x, xn_x, g1, g2, g3, g4, g5, gw, ek, h0, xWr, hnr, hnm, hr4, hm4, xM_x]
    · simp (decide := true) [f_Ma_advance_3, f_Ma_wouldWait_3, f_Ma_compute_3, f_Ma_moveNumbers_3, f_Ma_write_3, f_Ma_stop_3, f_Ma_rememberBefore_3, stC, xN, xV, f_Mo_result, g_up, reg_x, xn_x, g1, g2, g3, g4, g5, gw, ek, h0, xWr, hnr, hnm, hr4, hm4, xM_x]
    · simp (decide := true) [f_Ma_advance_3, f_Ma_wouldWait_3, f_Ma_compute_3, f_Ma_moveNumbers_3, f_Ma_write_3, f_Ma_stop_3, f_Ma_rememberBefore_3, stC, xN, xV, f_Mo_result, g_up, reg_x, xn_x, g1, g2, g3, g4, g5, gw, ek, h0, xWr, hnr, hnm, hr4, hm4, xM_x]
    · simp (decide := true) [f_Ma_advance_3, f_Ma_wouldWait_3, f_Ma_compute_3, f_Ma_moveNumbers_3, f_Ma_write_3, f_Ma_stop_3, f_Ma_rememberBefore_3, stC, xN, xV, f_Mo_result, g_up, reg_x, xn_x, g1, g2, g3, g4, g5, gw, ek, h0, xWr, hnr, hnm, hr4, hm4, xM_x]
    · simp (decide := true) [f_Ma_advance_3, f_Ma_wouldWait_3, f_Ma_compute_3, f_Ma_moveNumbers_3, f_Ma_write_3, f_Ma_stop_3, f_Ma_rememberBefore_3, stC, xN, xV, f_Mo_result, g_up, reg_x, xn_x, g1, g2, g3, g4, g5, gw, ek, h0, xWr, hnr, hnm, hr4, hm4, xM_x]
    · simp (decide := true) [f_Ma_advance_3, f_Ma_wouldWait_3, f_Ma_compute_3, f_Ma_moveNumbers_3, f_Ma_write_3, f_Ma_stop_3, f_Ma_rememberBefore_3, stC, xN, xV, f_Mo_result, g_up, reg_x, xn_x, g1, g2, g3, g4, g5, gw, ek, h0, xWr, hnr, hnm, hr4, hm4, xM_x]
    · simp (decide := true) [f_Ma_advance_3, f_Ma_wouldWait_3, f_Ma_compute_3, f_Ma_moveNumbers_3, f_Ma_write_3, f_Ma_stop_3, f_Ma_rememberBefore_3, stC, xN, xV, f_Mo_result, g_up, reg_x, xn_x, g1, g2, g3, g4, g5, gw, ek, h0, xWr, hnr, hnm, hr4, hm4, xM_x]
    · simp (decide := true) [f_Ma_advance_3, f_Ma_wouldWait_3, f_Ma_compute_3, f_Ma_moveNumbers_3, f_Ma_write_3, f_Ma_stop_3, f_Ma_rememberBefore_3, stC, xN, xV, f_Mo_result, g_up, reg_x, xn_x, g1, g2, g3, g4, g5, gw, ek, h0, xWr, hnr, hnm, hr4, hm4, xM_x]
    · simp (decide := true) [f_Ma_advance_3, f_Ma_wouldWait_3, f_Ma_compute_3, f_Ma_moveNumbers_3, f_Ma_write_3, f_Ma_stop_3, f_Ma_rememberBefore_3, stC, xN, xV, f_Mo_result, g_up, reg_x, xn_x, g1, g2, g3, g4, g5, gw, ek, h0, xWr, hnr, hnm, hr4, hm4, xM_x]
    · simp (decide := true) [f_Ma_advance_3, f_Ma_wouldWait_3, f_Ma_compute_3, f_Ma_moveNumbers_3, f_Ma_write_3, f_Ma_stop_3, f_Ma_rememberBefore_3, stC, xN, xV, f_Mo_result, g_up, reg_x, xn_x, g1, g2, g3, g4, g5, gw, ek, h0, xWr, hnr, hnm, hr4, hm4, xM_x]
    · intro a h3 h4
      funext b
      simp (decide := true) [f_Ma_advance_3, f_Ma_wouldWait_3, f_Ma_compute_3, f_Ma_moveNumbers_3, f_Ma_write_3, f_Ma_stop_3, f_Ma_rememberBefore_3, stC, xN, xV, f_Mo_result, g_up, reg_x, xn_x, g1, g2, g3, g4, g5, gw, ek, h0, xWr, hnr, hnm, hr4, hm4, xM_x, h3, h4]
  · intro h
    simp (decide := true) [f_Ma_advance_3, f_Ma_wouldWait_3, g1, g2, g5, gw, ek, (show ¬ x 268 = 0 from h.elim (fun z => z) (fun z => absurd z.1 (by decide)))]

set_option maxHeartbeats 1000000 in
theorem ad_3_3 (G : gT) (x I : Nat → Int32) (av w : Int32) (g1 : G 3 1 = x 264) (g2 : G 3 2 = x 265) (g3 : G 3 3 = x 266) (g4 : G 3 4 = x 267) (g5 : G 3 5 = x 268) (gn : ∀ i, i < 264 → G 4 i = x i) (gw : G 1 (x 264).toNatClampNeg = w) (v1 : vp_in (x 264) 64) (v2 : x 265 < av → vp_in (x 265) 200) (gi : x 265 < av → G 2 (x 265).toNatClampNeg = I (x 265).toNatClampNeg) (hr4 : ∀ p, G 4 (xR w p).toNatClampNeg = x (xR w p).toNatClampNeg) (hm4 : G 4 (xM w x).toNatClampNeg = x (xM w x).toNatClampNeg) (vr : ∀ p, vp_in (xR w p) 264) (vm : vp_in (xM w x) 264) (ek : g_ush w 28 = 3) : ok_Ma_advance_3 G av ∧ (x 268 = 0 → ¬ ((3 : Int32) = 8 ∧ ¬ x 265 < av) → ∃ G', f_Ma_advance_3 G av = (1, G') ∧ (∀ i, i < 269 → stC 3 4 G' i = xN 3 w I x i) ∧ G' 3 6 = xWr 3 w x ∧ (¬ xWr 3 w x = -1 → G' 3 7 = x (xWr 3 w x).toNatClampNeg) ∧ G' 3 8 = x 264 ∧ G' 3 9 = x 265 ∧ G' 3 10 = x 266 ∧ G' 3 11 = x 267 ∧ ∀ a, ¬ a = 3 → ¬ a = 4 → G' a = G a) ∧ ((¬ x 268 = 0 ∨ ((3 : Int32) = 8 ∧ ¬ x 265 < av)) → f_Ma_advance_3 G av = (0, G)) := by
  have hnr := xR_n w 24
  have hnm := xM_n w x
  refine ⟨?_, fun h0 hnw => ?_, ?_⟩
  · simp (decide := true) [ok_Ma_advance_3, ok_Ma_wouldWait_3, f_Ma_wouldWait_3, ok_Ma_compute_3, ok_Ma_moveNumbers_3, ok_Ma_write_3, f_Ma_rememberBefore_3, g_up, reg_x, xn_x, g1, g2, g3, g4, g5, gw, ek, v1, hr4, hm4, vr, vm, xM_x]
  · refine ⟨_, Prod.ext ?_ rfl, i_cases ?_ ?_ ?_ ?_ ?_ ?_, ?_, ?_, ?_, ?_, ?_, ?_, ?_⟩
    · simp (decide := true) [f_Ma_advance_3, f_Ma_wouldWait_3, g1, g2, g5, gw, ek, h0]
    · intro i hi
      simp (decide := true) [f_Ma_advance_3, f_Ma_wouldWait_3, f_Ma_compute_3, f_Ma_moveNumbers_3, f_Ma_write_3, f_Ma_stop_3, f_Ma_rememberBefore_3, stC, xN, xV, f_Mo_result, g_up, reg_x, xn_x, g1, g2, g3, g4, g5, gw, ek, h0, xWr, hnr, hnm, hr4, hm4, xM_x, hi, gn i hi]
    · simp (decide := true) [f_Ma_advance_3, f_Ma_wouldWait_3, f_Ma_compute_3, f_Ma_moveNumbers_3, f_Ma_write_3, f_Ma_stop_3, f_Ma_rememberBefore_3, stC, xN, xV, f_Mo_result, g_up, reg_x, xn_x, g1, g2, g3, g4, g5, gw, ek, h0, xWr, hnr, hnm, hr4, hm4, xM_x]
    · simp (decide := true) [f_Ma_advance_3, f_Ma_wouldWait_3, f_Ma_compute_3, f_Ma_moveNumbers_3, f_Ma_write_3, f_Ma_stop_3, f_Ma_rememberBefore_3, stC, xN, xV, f_Mo_result, g_up, reg_x, xn_x, g1, g2, g3, g4, g5, gw, ek, h0, xWr, hnr, hnm, hr4, hm4, xM_x]
    · simp (decide := true) [f_Ma_advance_3, f_Ma_wouldWait_3, f_Ma_compute_3, f_Ma_moveNumbers_3, f_Ma_write_3, f_Ma_stop_3, f_Ma_rememberBefore_3, stC, xN, xV, f_Mo_result, g_up, reg_x, xn_x, g1, g2, g3, g4, g5, gw, ek, h0, xWr, hnr, hnm, hr4, hm4, xM_x]
    · simp (decide := true) [f_Ma_advance_3, f_Ma_wouldWait_3, f_Ma_compute_3, f_Ma_moveNumbers_3, f_Ma_write_3, f_Ma_stop_3, f_Ma_rememberBefore_3, stC, xN, xV, f_Mo_result, g_up, reg_x, xn_x, g1, g2, g3, g4, g5, gw, ek, h0, xWr, hnr, hnm, hr4, hm4, xM_x]
    · simp (decide := true) [f_Ma_advance_3, f_Ma_wouldWait_3, f_Ma_compute_3, f_Ma_moveNumbers_3, f_Ma_write_3, f_Ma_stop_3, f_Ma_rememberBefore_3, stC, xN, xV, f_Mo_result, g_up, reg_x, xn_x, g1, g2, g3, g4, g5, gw, ek, h0, xWr, hnr, hnm, hr4, hm4, xM_x]
    · simp (decide := true) [f_Ma_advance_3, f_Ma_wouldWait_3, f_Ma_compute_3, f_Ma_moveNumbers_3, f_Ma_write_3, f_Ma_stop_3, f_Ma_rememberBefore_3, stC, xN, xV, f_Mo_result, g_up, reg_x, xn_x, g1, g2, g3, g4, g5, gw, ek, h0, xWr, hnr, hnm, hr4, hm4, xM_x]
    · simp (decide := true) [f_Ma_advance_3, f_Ma_wouldWait_3, f_Ma_compute_3, f_Ma_moveNumbers_3, f_Ma_write_3, f_Ma_stop_3, f_Ma_rememberBefore_3, stC, xN, xV, f_Mo_result, g_up, reg_x, xn_x, g1, g2, g3, g4, g5, gw, ek, h0, xWr, hnr, hnm, hr4, hm4, xM_x]
    · simp (decide := true) [f_Ma_advance_3, f_Ma_wouldWait_3, f_Ma_compute_3, f_Ma_moveNumbers_3, f_Ma_write_3, f_Ma_stop_3, f_Ma_rememberBefore_3, stC, xN, xV, f_Mo_result, g_up, reg_x, xn_x, g1, g2, g3, g4, g5, gw, ek, h0, xWr, hnr, hnm, hr4, hm4, xM_x]
    · simp (decide := true) [f_Ma_advance_3, f_Ma_wouldWait_3, f_Ma_compute_3, f_Ma_moveNumbers_3, f_Ma_write_3, f_Ma_stop_3, f_Ma_rememberBefore_3, stC, xN, xV, f_Mo_result, g_up, reg_x, xn_x, g1, g2, g3, g4, g5, gw, ek, h0, xWr, hnr, hnm, hr4, hm4, xM_x]
    · simp (decide := true) [f_Ma_advance_3, f_Ma_wouldWait_3, f_Ma_compute_3, f_Ma_moveNumbers_3, f_Ma_write_3, f_Ma_stop_3, f_Ma_rememberBefore_3, stC, xN, xV, f_Mo_result, g_up, reg_x, xn_x, g1, g2, g3, g4, g5, gw, ek, h0, xWr, hnr, hnm, hr4, hm4, xM_x]
    · simp (decide := true) [f_Ma_advance_3, f_Ma_wouldWait_3, f_Ma_compute_3, f_Ma_moveNumbers_3, f_Ma_write_3, f_Ma_stop_3, f_Ma_rememberBefore_3, stC, xN, xV, f_Mo_result, g_up, reg_x, xn_x, g1, g2, g3, g4, g5, gw, ek, h0, xWr, hnr, hnm, hr4, hm4, xM_x]
    · intro a h3 h4
      funext b
      simp (decide := true) [f_Ma_advance_3, f_Ma_wouldWait_3, f_Ma_compute_3, f_Ma_moveNumbers_3, f_Ma_write_3, f_Ma_stop_3, f_Ma_rememberBefore_3, stC, xN, xV, f_Mo_result, g_up, reg_x, xn_x, g1, g2, g3, g4, g5, gw, ek, h0, xWr, hnr, hnm, hr4, hm4, xM_x, h3, h4]
  · intro h
    simp (decide := true) [f_Ma_advance_3, f_Ma_wouldWait_3, g1, g2, g5, gw, ek, (show ¬ x 268 = 0 from h.elim (fun z => z) (fun z => absurd z.1 (by decide)))]

set_option maxHeartbeats 1000000 in
theorem ad_3_4 (G : gT) (x I : Nat → Int32) (av w : Int32) (g1 : G 3 1 = x 264) (g2 : G 3 2 = x 265) (g3 : G 3 3 = x 266) (g4 : G 3 4 = x 267) (g5 : G 3 5 = x 268) (gn : ∀ i, i < 264 → G 4 i = x i) (gw : G 1 (x 264).toNatClampNeg = w) (v1 : vp_in (x 264) 64) (v2 : x 265 < av → vp_in (x 265) 200) (gi : x 265 < av → G 2 (x 265).toNatClampNeg = I (x 265).toNatClampNeg) (hr4 : ∀ p, G 4 (xR w p).toNatClampNeg = x (xR w p).toNatClampNeg) (hm4 : G 4 (xM w x).toNatClampNeg = x (xM w x).toNatClampNeg) (vr : ∀ p, vp_in (xR w p) 264) (vm : vp_in (xM w x) 264) (ek : g_ush w 28 = 4) : ok_Ma_advance_3 G av ∧ (x 268 = 0 → ¬ ((4 : Int32) = 8 ∧ ¬ x 265 < av) → ∃ G', f_Ma_advance_3 G av = (1, G') ∧ (∀ i, i < 269 → stC 3 4 G' i = xN 4 w I x i) ∧ G' 3 6 = xWr 4 w x ∧ (¬ xWr 4 w x = -1 → G' 3 7 = x (xWr 4 w x).toNatClampNeg) ∧ G' 3 8 = x 264 ∧ G' 3 9 = x 265 ∧ G' 3 10 = x 266 ∧ G' 3 11 = x 267 ∧ ∀ a, ¬ a = 3 → ¬ a = 4 → G' a = G a) ∧ ((¬ x 268 = 0 ∨ ((4 : Int32) = 8 ∧ ¬ x 265 < av)) → f_Ma_advance_3 G av = (0, G)) := by
  have hnr := xR_n w 24
  have hnm := xM_n w x
  refine ⟨?_, fun h0 hnw => ?_, ?_⟩
  · simp (decide := true) [ok_Ma_advance_3, ok_Ma_wouldWait_3, f_Ma_wouldWait_3, ok_Ma_compute_3, ok_Ma_moveNumbers_3, ok_Ma_write_3, f_Ma_rememberBefore_3, g_up, reg_x, xn_x, g1, g2, g3, g4, g5, gw, ek, v1, hr4, hm4, vr, vm, xM_x]
  · refine ⟨_, Prod.ext ?_ rfl, i_cases ?_ ?_ ?_ ?_ ?_ ?_, ?_, ?_, ?_, ?_, ?_, ?_, ?_⟩
    · simp (decide := true) [f_Ma_advance_3, f_Ma_wouldWait_3, g1, g2, g5, gw, ek, h0]
    · intro i hi
      simp (decide := true) [f_Ma_advance_3, f_Ma_wouldWait_3, f_Ma_compute_3, f_Ma_moveNumbers_3, f_Ma_write_3, f_Ma_stop_3, f_Ma_rememberBefore_3, stC, xN, xV, f_Mo_result, g_up, reg_x, xn_x, g1, g2, g3, g4, g5, gw, ek, h0, xWr, hnr, hnm, hr4, hm4, xM_x, hi, gn i hi]
    · simp (decide := true) [f_Ma_advance_3, f_Ma_wouldWait_3, f_Ma_compute_3, f_Ma_moveNumbers_3, f_Ma_write_3, f_Ma_stop_3, f_Ma_rememberBefore_3, stC, xN, xV, f_Mo_result, g_up, reg_x, xn_x, g1, g2, g3, g4, g5, gw, ek, h0, xWr, hnr, hnm, hr4, hm4, xM_x]
    · simp (decide := true) [f_Ma_advance_3, f_Ma_wouldWait_3, f_Ma_compute_3, f_Ma_moveNumbers_3, f_Ma_write_3, f_Ma_stop_3, f_Ma_rememberBefore_3, stC, xN, xV, f_Mo_result, g_up, reg_x, xn_x, g1, g2, g3, g4, g5, gw, ek, h0, xWr, hnr, hnm, hr4, hm4, xM_x]
    · simp (decide := true) [f_Ma_advance_3, f_Ma_wouldWait_3, f_Ma_compute_3, f_Ma_moveNumbers_3, f_Ma_write_3, f_Ma_stop_3, f_Ma_rememberBefore_3, stC, xN, xV, f_Mo_result, g_up, reg_x, xn_x, g1, g2, g3, g4, g5, gw, ek, h0, xWr, hnr, hnm, hr4, hm4, xM_x]
    · simp (decide := true) [f_Ma_advance_3, f_Ma_wouldWait_3, f_Ma_compute_3, f_Ma_moveNumbers_3, f_Ma_write_3, f_Ma_stop_3, f_Ma_rememberBefore_3, stC, xN, xV, f_Mo_result, g_up, reg_x, xn_x, g1, g2, g3, g4, g5, gw, ek, h0, xWr, hnr, hnm, hr4, hm4, xM_x]
    · simp (decide := true) [f_Ma_advance_3, f_Ma_wouldWait_3, f_Ma_compute_3, f_Ma_moveNumbers_3, f_Ma_write_3, f_Ma_stop_3, f_Ma_rememberBefore_3, stC, xN, xV, f_Mo_result, g_up, reg_x, xn_x, g1, g2, g3, g4, g5, gw, ek, h0, xWr, hnr, hnm, hr4, hm4, xM_x]
    · simp (decide := true) [f_Ma_advance_3, f_Ma_wouldWait_3, f_Ma_compute_3, f_Ma_moveNumbers_3, f_Ma_write_3, f_Ma_stop_3, f_Ma_rememberBefore_3, stC, xN, xV, f_Mo_result, g_up, reg_x, xn_x, g1, g2, g3, g4, g5, gw, ek, h0, xWr, hnr, hnm, hr4, hm4, xM_x]
    · simp (decide := true) [f_Ma_advance_3, f_Ma_wouldWait_3, f_Ma_compute_3, f_Ma_moveNumbers_3, f_Ma_write_3, f_Ma_stop_3, f_Ma_rememberBefore_3, stC, xN, xV, f_Mo_result, g_up, reg_x, xn_x, g1, g2, g3, g4, g5, gw, ek, h0, xWr, hnr, hnm, hr4, hm4, xM_x]
    · simp (decide := true) [f_Ma_advance_3, f_Ma_wouldWait_3, f_Ma_compute_3, f_Ma_moveNumbers_3, f_Ma_write_3, f_Ma_stop_3, f_Ma_rememberBefore_3, stC, xN, xV, f_Mo_result, g_up, reg_x, xn_x, g1, g2, g3, g4, g5, gw, ek, h0, xWr, hnr, hnm, hr4, hm4, xM_x]
    · simp (decide := true) [f_Ma_advance_3, f_Ma_wouldWait_3, f_Ma_compute_3, f_Ma_moveNumbers_3, f_Ma_write_3, f_Ma_stop_3, f_Ma_rememberBefore_3, stC, xN, xV, f_Mo_result, g_up, reg_x, xn_x, g1, g2, g3, g4, g5, gw, ek, h0, xWr, hnr, hnm, hr4, hm4, xM_x]
    · simp (decide := true) [f_Ma_advance_3, f_Ma_wouldWait_3, f_Ma_compute_3, f_Ma_moveNumbers_3, f_Ma_write_3, f_Ma_stop_3, f_Ma_rememberBefore_3, stC, xN, xV, f_Mo_result, g_up, reg_x, xn_x, g1, g2, g3, g4, g5, gw, ek, h0, xWr, hnr, hnm, hr4, hm4, xM_x]
    · simp (decide := true) [f_Ma_advance_3, f_Ma_wouldWait_3, f_Ma_compute_3, f_Ma_moveNumbers_3, f_Ma_write_3, f_Ma_stop_3, f_Ma_rememberBefore_3, stC, xN, xV, f_Mo_result, g_up, reg_x, xn_x, g1, g2, g3, g4, g5, gw, ek, h0, xWr, hnr, hnm, hr4, hm4, xM_x]
    · intro a h3 h4
      funext b
      simp (decide := true) [f_Ma_advance_3, f_Ma_wouldWait_3, f_Ma_compute_3, f_Ma_moveNumbers_3, f_Ma_write_3, f_Ma_stop_3, f_Ma_rememberBefore_3, stC, xN, xV, f_Mo_result, g_up, reg_x, xn_x, g1, g2, g3, g4, g5, gw, ek, h0, xWr, hnr, hnm, hr4, hm4, xM_x, h3, h4]
  · intro h
    simp (decide := true) [f_Ma_advance_3, f_Ma_wouldWait_3, g1, g2, g5, gw, ek, (show ¬ x 268 = 0 from h.elim (fun z => z) (fun z => absurd z.1 (by decide)))]

set_option maxHeartbeats 1000000 in
theorem ad_3_5 (G : gT) (x I : Nat → Int32) (av w : Int32) (g1 : G 3 1 = x 264) (g2 : G 3 2 = x 265) (g3 : G 3 3 = x 266) (g4 : G 3 4 = x 267) (g5 : G 3 5 = x 268) (gn : ∀ i, i < 264 → G 4 i = x i) (gw : G 1 (x 264).toNatClampNeg = w) (v1 : vp_in (x 264) 64) (v2 : x 265 < av → vp_in (x 265) 200) (gi : x 265 < av → G 2 (x 265).toNatClampNeg = I (x 265).toNatClampNeg) (hr4 : ∀ p, G 4 (xR w p).toNatClampNeg = x (xR w p).toNatClampNeg) (hm4 : G 4 (xM w x).toNatClampNeg = x (xM w x).toNatClampNeg) (vr : ∀ p, vp_in (xR w p) 264) (vm : vp_in (xM w x) 264) (ek : g_ush w 28 = 5) : ok_Ma_advance_3 G av ∧ (x 268 = 0 → ¬ ((5 : Int32) = 8 ∧ ¬ x 265 < av) → ∃ G', f_Ma_advance_3 G av = (1, G') ∧ (∀ i, i < 269 → stC 3 4 G' i = xN 5 w I x i) ∧ G' 3 6 = xWr 5 w x ∧ (¬ xWr 5 w x = -1 → G' 3 7 = x (xWr 5 w x).toNatClampNeg) ∧ G' 3 8 = x 264 ∧ G' 3 9 = x 265 ∧ G' 3 10 = x 266 ∧ G' 3 11 = x 267 ∧ ∀ a, ¬ a = 3 → ¬ a = 4 → G' a = G a) ∧ ((¬ x 268 = 0 ∨ ((5 : Int32) = 8 ∧ ¬ x 265 < av)) → f_Ma_advance_3 G av = (0, G)) := by
  have hnr := xR_n w 24
  have hnm := xM_n w x
  refine ⟨?_, fun h0 hnw => ?_, ?_⟩
  · simp (decide := true) [ok_Ma_advance_3, ok_Ma_wouldWait_3, f_Ma_wouldWait_3, ok_Ma_compute_3, ok_Ma_moveNumbers_3, ok_Ma_write_3, f_Ma_rememberBefore_3, g_up, reg_x, xn_x, g1, g2, g3, g4, g5, gw, ek, v1, hr4, hm4, vr, vm, xM_x]
  · refine ⟨_, Prod.ext ?_ rfl, i_cases ?_ ?_ ?_ ?_ ?_ ?_, ?_, ?_, ?_, ?_, ?_, ?_, ?_⟩
    · simp (decide := true) [f_Ma_advance_3, f_Ma_wouldWait_3, g1, g2, g5, gw, ek, h0]
    · intro i hi
      simp (decide := true) [f_Ma_advance_3, f_Ma_wouldWait_3, f_Ma_compute_3, f_Ma_moveNumbers_3, f_Ma_write_3, f_Ma_stop_3, f_Ma_rememberBefore_3, stC, xN, xV, f_Mo_result, g_up, reg_x, xn_x, g1, g2, g3, g4, g5, gw, ek, h0, xWr, hnr, hnm, hr4, hm4, xM_x, hi, gn i hi]
    · simp (decide := true) [f_Ma_advance_3, f_Ma_wouldWait_3, f_Ma_compute_3, f_Ma_moveNumbers_3, f_Ma_write_3, f_Ma_stop_3, f_Ma_rememberBefore_3, stC, xN, xV, f_Mo_result, g_up, reg_x, xn_x, g1, g2, g3, g4, g5, gw, ek, h0, xWr, hnr, hnm, hr4, hm4, xM_x]
    · simp (decide := true) [f_Ma_advance_3, f_Ma_wouldWait_3, f_Ma_compute_3, f_Ma_moveNumbers_3, f_Ma_write_3, f_Ma_stop_3, f_Ma_rememberBefore_3, stC, xN, xV, f_Mo_result, g_up, reg_x, xn_x, g1, g2, g3, g4, g5, gw, ek, h0, xWr, hnr, hnm, hr4, hm4, xM_x]
    · simp (decide := true) [f_Ma_advance_3, f_Ma_wouldWait_3, f_Ma_compute_3, f_Ma_moveNumbers_3, f_Ma_write_3, f_Ma_stop_3, f_Ma_rememberBefore_3, stC, xN, xV, f_Mo_result, g_up, reg_x, xn_x, g1, g2, g3, g4, g5, gw, ek, h0, xWr, hnr, hnm, hr4, hm4, xM_x]
    · simp (decide := true) [f_Ma_advance_3, f_Ma_wouldWait_3, f_Ma_compute_3, f_Ma_moveNumbers_3, f_Ma_write_3, f_Ma_stop_3, f_Ma_rememberBefore_3, stC, xN, xV, f_Mo_result, g_up, reg_x, xn_x, g1, g2, g3, g4, g5, gw, ek, h0, xWr, hnr, hnm, hr4, hm4, xM_x]
    · simp (decide := true) [f_Ma_advance_3, f_Ma_wouldWait_3, f_Ma_compute_3, f_Ma_moveNumbers_3, f_Ma_write_3, f_Ma_stop_3, f_Ma_rememberBefore_3, stC, xN, xV, f_Mo_result, g_up, reg_x, xn_x, g1, g2, g3, g4, g5, gw, ek, h0, xWr, hnr, hnm, hr4, hm4, xM_x]
    · simp (decide := true) [f_Ma_advance_3, f_Ma_wouldWait_3, f_Ma_compute_3, f_Ma_moveNumbers_3, f_Ma_write_3, f_Ma_stop_3, f_Ma_rememberBefore_3, stC, xN, xV, f_Mo_result, g_up, reg_x, xn_x, g1, g2, g3, g4, g5, gw, ek, h0, xWr, hnr, hnm, hr4, hm4, xM_x]
    · simp (decide := true) [f_Ma_advance_3, f_Ma_wouldWait_3, f_Ma_compute_3, f_Ma_moveNumbers_3, f_Ma_write_3, f_Ma_stop_3, f_Ma_rememberBefore_3, stC, xN, xV, f_Mo_result, g_up, reg_x, xn_x, g1, g2, g3, g4, g5, gw, ek, h0, xWr, hnr, hnm, hr4, hm4, xM_x]
    · simp (decide := true) [f_Ma_advance_3, f_Ma_wouldWait_3, f_Ma_compute_3, f_Ma_moveNumbers_3, f_Ma_write_3, f_Ma_stop_3, f_Ma_rememberBefore_3, stC, xN, xV, f_Mo_result, g_up, reg_x, xn_x, g1, g2, g3, g4, g5, gw, ek, h0, xWr, hnr, hnm, hr4, hm4, xM_x]
    · simp (decide := true) [f_Ma_advance_3, f_Ma_wouldWait_3, f_Ma_compute_3, f_Ma_moveNumbers_3, f_Ma_write_3, f_Ma_stop_3, f_Ma_rememberBefore_3, stC, xN, xV, f_Mo_result, g_up, reg_x, xn_x, g1, g2, g3, g4, g5, gw, ek, h0, xWr, hnr, hnm, hr4, hm4, xM_x]
    · simp (decide := true) [f_Ma_advance_3, f_Ma_wouldWait_3, f_Ma_compute_3, f_Ma_moveNumbers_3, f_Ma_write_3, f_Ma_stop_3, f_Ma_rememberBefore_3, stC, xN, xV, f_Mo_result, g_up, reg_x, xn_x, g1, g2, g3, g4, g5, gw, ek, h0, xWr, hnr, hnm, hr4, hm4, xM_x]
    · simp (decide := true) [f_Ma_advance_3, f_Ma_wouldWait_3, f_Ma_compute_3, f_Ma_moveNumbers_3, f_Ma_write_3, f_Ma_stop_3, f_Ma_rememberBefore_3, stC, xN, xV, f_Mo_result, g_up, reg_x, xn_x, g1, g2, g3, g4, g5, gw, ek, h0, xWr, hnr, hnm, hr4, hm4, xM_x]
    · intro a h3 h4
      funext b
      simp (decide := true) [f_Ma_advance_3, f_Ma_wouldWait_3, f_Ma_compute_3, f_Ma_moveNumbers_3, f_Ma_write_3, f_Ma_stop_3, f_Ma_rememberBefore_3, stC, xN, xV, f_Mo_result, g_up, reg_x, xn_x, g1, g2, g3, g4, g5, gw, ek, h0, xWr, hnr, hnm, hr4, hm4, xM_x, h3, h4]
  · intro h
    simp (decide := true) [f_Ma_advance_3, f_Ma_wouldWait_3, g1, g2, g5, gw, ek, (show ¬ x 268 = 0 from h.elim (fun z => z) (fun z => absurd z.1 (by decide)))]

set_option maxHeartbeats 1000000 in
theorem ad_3_6 (G : gT) (x I : Nat → Int32) (av w : Int32) (g1 : G 3 1 = x 264) (g2 : G 3 2 = x 265) (g3 : G 3 3 = x 266) (g4 : G 3 4 = x 267) (g5 : G 3 5 = x 268) (gn : ∀ i, i < 264 → G 4 i = x i) (gw : G 1 (x 264).toNatClampNeg = w) (v1 : vp_in (x 264) 64) (v2 : x 265 < av → vp_in (x 265) 200) (gi : x 265 < av → G 2 (x 265).toNatClampNeg = I (x 265).toNatClampNeg) (hr4 : ∀ p, G 4 (xR w p).toNatClampNeg = x (xR w p).toNatClampNeg) (hm4 : G 4 (xM w x).toNatClampNeg = x (xM w x).toNatClampNeg) (vr : ∀ p, vp_in (xR w p) 264) (vm : vp_in (xM w x) 264) (ek : g_ush w 28 = 6) : ok_Ma_advance_3 G av ∧ (x 268 = 0 → ¬ ((6 : Int32) = 8 ∧ ¬ x 265 < av) → ∃ G', f_Ma_advance_3 G av = (1, G') ∧ (∀ i, i < 269 → stC 3 4 G' i = xN 6 w I x i) ∧ G' 3 6 = xWr 6 w x ∧ (¬ xWr 6 w x = -1 → G' 3 7 = x (xWr 6 w x).toNatClampNeg) ∧ G' 3 8 = x 264 ∧ G' 3 9 = x 265 ∧ G' 3 10 = x 266 ∧ G' 3 11 = x 267 ∧ ∀ a, ¬ a = 3 → ¬ a = 4 → G' a = G a) ∧ ((¬ x 268 = 0 ∨ ((6 : Int32) = 8 ∧ ¬ x 265 < av)) → f_Ma_advance_3 G av = (0, G)) := by
  have hnr := xR_n w 24
  have hnm := xM_n w x
  refine ⟨?_, fun h0 hnw => ?_, ?_⟩
  · simp (decide := true) [ok_Ma_advance_3, ok_Ma_wouldWait_3, f_Ma_wouldWait_3, ok_Ma_compute_3, ok_Ma_moveNumbers_3, ok_Ma_write_3, f_Ma_rememberBefore_3, g_up, reg_x, xn_x, g1, g2, g3, g4, g5, gw, ek, v1, hr4, hm4, vr, vm, xM_x]
  · refine ⟨_, Prod.ext ?_ rfl, i_cases ?_ ?_ ?_ ?_ ?_ ?_, ?_, ?_, ?_, ?_, ?_, ?_, ?_⟩
    · simp (decide := true) [f_Ma_advance_3, f_Ma_wouldWait_3, g1, g2, g5, gw, ek, h0]
    · intro i hi
      simp (decide := true) [f_Ma_advance_3, f_Ma_wouldWait_3, f_Ma_compute_3, f_Ma_moveNumbers_3, f_Ma_write_3, f_Ma_stop_3, f_Ma_rememberBefore_3, stC, xN, xV, f_Mo_result, g_up, reg_x, xn_x, g1, g2, g3, g4, g5, gw, ek, h0, xWr, hnr, hnm, hr4, hm4, xM_x, hi, gn i hi]
    · simp (decide := true) [f_Ma_advance_3, f_Ma_wouldWait_3, f_Ma_compute_3, f_Ma_moveNumbers_3, f_Ma_write_3, f_Ma_stop_3, f_Ma_rememberBefore_3, stC, xN, xV, f_Mo_result, g_up, reg_x, xn_x, g1, g2, g3, g4, g5, gw, ek, h0, xWr, hnr, hnm, hr4, hm4, xM_x]
    · simp (decide := true) [f_Ma_advance_3, f_Ma_wouldWait_3, f_Ma_compute_3, f_Ma_moveNumbers_3, f_Ma_write_3, f_Ma_stop_3, f_Ma_rememberBefore_3, stC, xN, xV, f_Mo_result, g_up, reg_x, xn_x, g1, g2, g3, g4, g5, gw, ek, h0, xWr, hnr, hnm, hr4, hm4, xM_x]
    · simp (decide := true) [f_Ma_advance_3, f_Ma_wouldWait_3, f_Ma_compute_3, f_Ma_moveNumbers_3, f_Ma_write_3, f_Ma_stop_3, f_Ma_rememberBefore_3, stC, xN, xV, f_Mo_result, g_up, reg_x, xn_x, g1, g2, g3, g4, g5, gw, ek, h0, xWr, hnr, hnm, hr4, hm4, xM_x]
    · simp (decide := true) [f_Ma_advance_3, f_Ma_wouldWait_3, f_Ma_compute_3, f_Ma_moveNumbers_3, f_Ma_write_3, f_Ma_stop_3, f_Ma_rememberBefore_3, stC, xN, xV, f_Mo_result, g_up, reg_x, xn_x, g1, g2, g3, g4, g5, gw, ek, h0, xWr, hnr, hnm, hr4, hm4, xM_x]
    · simp (decide := true) [f_Ma_advance_3, f_Ma_wouldWait_3, f_Ma_compute_3, f_Ma_moveNumbers_3, f_Ma_write_3, f_Ma_stop_3, f_Ma_rememberBefore_3, stC, xN, xV, f_Mo_result, g_up, reg_x, xn_x, g1, g2, g3, g4, g5, gw, ek, h0, xWr, hnr, hnm, hr4, hm4, xM_x]
    · simp (decide := true) [f_Ma_advance_3, f_Ma_wouldWait_3, f_Ma_compute_3, f_Ma_moveNumbers_3, f_Ma_write_3, f_Ma_stop_3, f_Ma_rememberBefore_3, stC, xN, xV, f_Mo_result, g_up, reg_x, xn_x, g1, g2, g3, g4, g5, gw, ek, h0, xWr, hnr, hnm, hr4, hm4, xM_x]
    · simp (decide := true) [f_Ma_advance_3, f_Ma_wouldWait_3, f_Ma_compute_3, f_Ma_moveNumbers_3, f_Ma_write_3, f_Ma_stop_3, f_Ma_rememberBefore_3, stC, xN, xV, f_Mo_result, g_up, reg_x, xn_x, g1, g2, g3, g4, g5, gw, ek, h0, xWr, hnr, hnm, hr4, hm4, xM_x]
    · simp (decide := true) [f_Ma_advance_3, f_Ma_wouldWait_3, f_Ma_compute_3, f_Ma_moveNumbers_3, f_Ma_write_3, f_Ma_stop_3, f_Ma_rememberBefore_3, stC, xN, xV, f_Mo_result, g_up, reg_x, xn_x, g1, g2, g3, g4, g5, gw, ek, h0, xWr, hnr, hnm, hr4, hm4, xM_x]
    · simp (decide := true) [f_Ma_advance_3, f_Ma_wouldWait_3, f_Ma_compute_3, f_Ma_moveNumbers_3, f_Ma_write_3, f_Ma_stop_3, f_Ma_rememberBefore_3, stC, xN, xV, f_Mo_result, g_up, reg_x, xn_x, g1, g2, g3, g4, g5, gw, ek, h0, xWr, hnr, hnm, hr4, hm4, xM_x]
    · simp (decide := true) [f_Ma_advance_3, f_Ma_wouldWait_3, f_Ma_compute_3, f_Ma_moveNumbers_3, f_Ma_write_3, f_Ma_stop_3, f_Ma_rememberBefore_3, stC, xN, xV, f_Mo_result, g_up, reg_x, xn_x, g1, g2, g3, g4, g5, gw, ek, h0, xWr, hnr, hnm, hr4, hm4, xM_x]
    · simp (decide := true) [f_Ma_advance_3, f_Ma_wouldWait_3, f_Ma_compute_3, f_Ma_moveNumbers_3, f_Ma_write_3, f_Ma_stop_3, f_Ma_rememberBefore_3, stC, xN, xV, f_Mo_result, g_up, reg_x, xn_x, g1, g2, g3, g4, g5, gw, ek, h0, xWr, hnr, hnm, hr4, hm4, xM_x]
    · intro a h3 h4
      funext b
      simp (decide := true) [f_Ma_advance_3, f_Ma_wouldWait_3, f_Ma_compute_3, f_Ma_moveNumbers_3, f_Ma_write_3, f_Ma_stop_3, f_Ma_rememberBefore_3, stC, xN, xV, f_Mo_result, g_up, reg_x, xn_x, g1, g2, g3, g4, g5, gw, ek, h0, xWr, hnr, hnm, hr4, hm4, xM_x, h3, h4]
  · intro h
    simp (decide := true) [f_Ma_advance_3, f_Ma_wouldWait_3, g1, g2, g5, gw, ek, (show ¬ x 268 = 0 from h.elim (fun z => z) (fun z => absurd z.1 (by decide)))]

set_option maxHeartbeats 1000000 in
theorem ad_3_7 (G : gT) (x I : Nat → Int32) (av w : Int32) (g1 : G 3 1 = x 264) (g2 : G 3 2 = x 265) (g3 : G 3 3 = x 266) (g4 : G 3 4 = x 267) (g5 : G 3 5 = x 268) (gn : ∀ i, i < 264 → G 4 i = x i) (gw : G 1 (x 264).toNatClampNeg = w) (v1 : vp_in (x 264) 64) (v2 : x 265 < av → vp_in (x 265) 200) (gi : x 265 < av → G 2 (x 265).toNatClampNeg = I (x 265).toNatClampNeg) (hr4 : ∀ p, G 4 (xR w p).toNatClampNeg = x (xR w p).toNatClampNeg) (hm4 : G 4 (xM w x).toNatClampNeg = x (xM w x).toNatClampNeg) (vr : ∀ p, vp_in (xR w p) 264) (vm : vp_in (xM w x) 264) (ek : g_ush w 28 = 7) : ok_Ma_advance_3 G av ∧ (x 268 = 0 → ¬ ((7 : Int32) = 8 ∧ ¬ x 265 < av) → ∃ G', f_Ma_advance_3 G av = (1, G') ∧ (∀ i, i < 269 → stC 3 4 G' i = xN 7 w I x i) ∧ G' 3 6 = xWr 7 w x ∧ (¬ xWr 7 w x = -1 → G' 3 7 = x (xWr 7 w x).toNatClampNeg) ∧ G' 3 8 = x 264 ∧ G' 3 9 = x 265 ∧ G' 3 10 = x 266 ∧ G' 3 11 = x 267 ∧ ∀ a, ¬ a = 3 → ¬ a = 4 → G' a = G a) ∧ ((¬ x 268 = 0 ∨ ((7 : Int32) = 8 ∧ ¬ x 265 < av)) → f_Ma_advance_3 G av = (0, G)) := by
  have hnr := xR_n w 24
  have hnm := xM_n w x
  refine ⟨?_, fun h0 hnw => ?_, ?_⟩
  · simp (decide := true) [ok_Ma_advance_3, ok_Ma_wouldWait_3, f_Ma_wouldWait_3, ok_Ma_compute_3, ok_Ma_moveNumbers_3, ok_Ma_write_3, f_Ma_rememberBefore_3, g_up, reg_x, xn_x, g1, g2, g3, g4, g5, gw, ek, v1, hr4, hm4, vr, vm, xM_x]
  · by_cases hc : x (xR w 24).toNatClampNeg = 0
    · refine ⟨_, Prod.ext ?_ rfl, i_cases ?_ ?_ ?_ ?_ ?_ ?_, ?_, ?_, ?_, ?_, ?_, ?_, ?_⟩
      · simp (decide := true) [f_Ma_advance_3, f_Ma_wouldWait_3, g1, g2, g5, gw, ek, h0, hc]
      · intro i hi
        simp (decide := true) [f_Ma_advance_3, f_Ma_wouldWait_3, f_Ma_compute_3, f_Ma_moveNumbers_3, f_Ma_write_3, f_Ma_stop_3, f_Ma_rememberBefore_3, stC, xN, xV, f_Mo_result, g_up, reg_x, xn_x, g1, g2, g3, g4, g5, gw, ek, h0, hc, xWr, hnr, hnm, hr4, hm4, xM_x, hi, gn i hi]
      · simp (decide := true) [f_Ma_advance_3, f_Ma_wouldWait_3, f_Ma_compute_3, f_Ma_moveNumbers_3, f_Ma_write_3, f_Ma_stop_3, f_Ma_rememberBefore_3, stC, xN, xV, f_Mo_result, g_up, reg_x, xn_x, g1, g2, g3, g4, g5, gw, ek, h0, hc, xWr, hnr, hnm, hr4, hm4, xM_x]
      · simp (decide := true) [f_Ma_advance_3, f_Ma_wouldWait_3, f_Ma_compute_3, f_Ma_moveNumbers_3, f_Ma_write_3, f_Ma_stop_3, f_Ma_rememberBefore_3, stC, xN, xV, f_Mo_result, g_up, reg_x, xn_x, g1, g2, g3, g4, g5, gw, ek, h0, hc, xWr, hnr, hnm, hr4, hm4, xM_x]
      · simp (decide := true) [f_Ma_advance_3, f_Ma_wouldWait_3, f_Ma_compute_3, f_Ma_moveNumbers_3, f_Ma_write_3, f_Ma_stop_3, f_Ma_rememberBefore_3, stC, xN, xV, f_Mo_result, g_up, reg_x, xn_x, g1, g2, g3, g4, g5, gw, ek, h0, hc, xWr, hnr, hnm, hr4, hm4, xM_x]
      · simp (decide := true) [f_Ma_advance_3, f_Ma_wouldWait_3, f_Ma_compute_3, f_Ma_moveNumbers_3, f_Ma_write_3, f_Ma_stop_3, f_Ma_rememberBefore_3, stC, xN, xV, f_Mo_result, g_up, reg_x, xn_x, g1, g2, g3, g4, g5, gw, ek, h0, hc, xWr, hnr, hnm, hr4, hm4, xM_x]
      · simp (decide := true) [f_Ma_advance_3, f_Ma_wouldWait_3, f_Ma_compute_3, f_Ma_moveNumbers_3, f_Ma_write_3, f_Ma_stop_3, f_Ma_rememberBefore_3, stC, xN, xV, f_Mo_result, g_up, reg_x, xn_x, g1, g2, g3, g4, g5, gw, ek, h0, hc, xWr, hnr, hnm, hr4, hm4, xM_x]
      · simp (decide := true) [f_Ma_advance_3, f_Ma_wouldWait_3, f_Ma_compute_3, f_Ma_moveNumbers_3, f_Ma_write_3, f_Ma_stop_3, f_Ma_rememberBefore_3, stC, xN, xV, f_Mo_result, g_up, reg_x, xn_x, g1, g2, g3, g4, g5, gw, ek, h0, hc, xWr, hnr, hnm, hr4, hm4, xM_x]
      · simp (decide := true) [f_Ma_advance_3, f_Ma_wouldWait_3, f_Ma_compute_3, f_Ma_moveNumbers_3, f_Ma_write_3, f_Ma_stop_3, f_Ma_rememberBefore_3, stC, xN, xV, f_Mo_result, g_up, reg_x, xn_x, g1, g2, g3, g4, g5, gw, ek, h0, hc, xWr, hnr, hnm, hr4, hm4, xM_x]
      · simp (decide := true) [f_Ma_advance_3, f_Ma_wouldWait_3, f_Ma_compute_3, f_Ma_moveNumbers_3, f_Ma_write_3, f_Ma_stop_3, f_Ma_rememberBefore_3, stC, xN, xV, f_Mo_result, g_up, reg_x, xn_x, g1, g2, g3, g4, g5, gw, ek, h0, hc, xWr, hnr, hnm, hr4, hm4, xM_x]
      · simp (decide := true) [f_Ma_advance_3, f_Ma_wouldWait_3, f_Ma_compute_3, f_Ma_moveNumbers_3, f_Ma_write_3, f_Ma_stop_3, f_Ma_rememberBefore_3, stC, xN, xV, f_Mo_result, g_up, reg_x, xn_x, g1, g2, g3, g4, g5, gw, ek, h0, hc, xWr, hnr, hnm, hr4, hm4, xM_x]
      · simp (decide := true) [f_Ma_advance_3, f_Ma_wouldWait_3, f_Ma_compute_3, f_Ma_moveNumbers_3, f_Ma_write_3, f_Ma_stop_3, f_Ma_rememberBefore_3, stC, xN, xV, f_Mo_result, g_up, reg_x, xn_x, g1, g2, g3, g4, g5, gw, ek, h0, hc, xWr, hnr, hnm, hr4, hm4, xM_x]
      · simp (decide := true) [f_Ma_advance_3, f_Ma_wouldWait_3, f_Ma_compute_3, f_Ma_moveNumbers_3, f_Ma_write_3, f_Ma_stop_3, f_Ma_rememberBefore_3, stC, xN, xV, f_Mo_result, g_up, reg_x, xn_x, g1, g2, g3, g4, g5, gw, ek, h0, hc, xWr, hnr, hnm, hr4, hm4, xM_x]
      · intro a h3 h4
        funext b
        simp (decide := true) [f_Ma_advance_3, f_Ma_wouldWait_3, f_Ma_compute_3, f_Ma_moveNumbers_3, f_Ma_write_3, f_Ma_stop_3, f_Ma_rememberBefore_3, stC, xN, xV, f_Mo_result, g_up, reg_x, xn_x, g1, g2, g3, g4, g5, gw, ek, h0, hc, xWr, hnr, hnm, hr4, hm4, xM_x, h3, h4]
    · refine ⟨_, Prod.ext ?_ rfl, i_cases ?_ ?_ ?_ ?_ ?_ ?_, ?_, ?_, ?_, ?_, ?_, ?_, ?_⟩
      · simp (decide := true) [f_Ma_advance_3, f_Ma_wouldWait_3, g1, g2, g5, gw, ek, h0, hc]
      · intro i hi
        simp (decide := true) [f_Ma_advance_3, f_Ma_wouldWait_3, f_Ma_compute_3, f_Ma_moveNumbers_3, f_Ma_write_3, f_Ma_stop_3, f_Ma_rememberBefore_3, stC, xN, xV, f_Mo_result, g_up, reg_x, xn_x, g1, g2, g3, g4, g5, gw, ek, h0, hc, xWr, hnr, hnm, hr4, hm4, xM_x, hi, gn i hi]
      · simp (decide := true) [f_Ma_advance_3, f_Ma_wouldWait_3, f_Ma_compute_3, f_Ma_moveNumbers_3, f_Ma_write_3, f_Ma_stop_3, f_Ma_rememberBefore_3, stC, xN, xV, f_Mo_result, g_up, reg_x, xn_x, g1, g2, g3, g4, g5, gw, ek, h0, hc, xWr, hnr, hnm, hr4, hm4, xM_x]
      · simp (decide := true) [f_Ma_advance_3, f_Ma_wouldWait_3, f_Ma_compute_3, f_Ma_moveNumbers_3, f_Ma_write_3, f_Ma_stop_3, f_Ma_rememberBefore_3, stC, xN, xV, f_Mo_result, g_up, reg_x, xn_x, g1, g2, g3, g4, g5, gw, ek, h0, hc, xWr, hnr, hnm, hr4, hm4, xM_x]
      · simp (decide := true) [f_Ma_advance_3, f_Ma_wouldWait_3, f_Ma_compute_3, f_Ma_moveNumbers_3, f_Ma_write_3, f_Ma_stop_3, f_Ma_rememberBefore_3, stC, xN, xV, f_Mo_result, g_up, reg_x, xn_x, g1, g2, g3, g4, g5, gw, ek, h0, hc, xWr, hnr, hnm, hr4, hm4, xM_x]
      · simp (decide := true) [f_Ma_advance_3, f_Ma_wouldWait_3, f_Ma_compute_3, f_Ma_moveNumbers_3, f_Ma_write_3, f_Ma_stop_3, f_Ma_rememberBefore_3, stC, xN, xV, f_Mo_result, g_up, reg_x, xn_x, g1, g2, g3, g4, g5, gw, ek, h0, hc, xWr, hnr, hnm, hr4, hm4, xM_x]
      · simp (decide := true) [f_Ma_advance_3, f_Ma_wouldWait_3, f_Ma_compute_3, f_Ma_moveNumbers_3, f_Ma_write_3, f_Ma_stop_3, f_Ma_rememberBefore_3, stC, xN, xV, f_Mo_result, g_up, reg_x, xn_x, g1, g2, g3, g4, g5, gw, ek, h0, hc, xWr, hnr, hnm, hr4, hm4, xM_x]
      · simp (decide := true) [f_Ma_advance_3, f_Ma_wouldWait_3, f_Ma_compute_3, f_Ma_moveNumbers_3, f_Ma_write_3, f_Ma_stop_3, f_Ma_rememberBefore_3, stC, xN, xV, f_Mo_result, g_up, reg_x, xn_x, g1, g2, g3, g4, g5, gw, ek, h0, hc, xWr, hnr, hnm, hr4, hm4, xM_x]
      · simp (decide := true) [f_Ma_advance_3, f_Ma_wouldWait_3, f_Ma_compute_3, f_Ma_moveNumbers_3, f_Ma_write_3, f_Ma_stop_3, f_Ma_rememberBefore_3, stC, xN, xV, f_Mo_result, g_up, reg_x, xn_x, g1, g2, g3, g4, g5, gw, ek, h0, hc, xWr, hnr, hnm, hr4, hm4, xM_x]
      · simp (decide := true) [f_Ma_advance_3, f_Ma_wouldWait_3, f_Ma_compute_3, f_Ma_moveNumbers_3, f_Ma_write_3, f_Ma_stop_3, f_Ma_rememberBefore_3, stC, xN, xV, f_Mo_result, g_up, reg_x, xn_x, g1, g2, g3, g4, g5, gw, ek, h0, hc, xWr, hnr, hnm, hr4, hm4, xM_x]
      · simp (decide := true) [f_Ma_advance_3, f_Ma_wouldWait_3, f_Ma_compute_3, f_Ma_moveNumbers_3, f_Ma_write_3, f_Ma_stop_3, f_Ma_rememberBefore_3, stC, xN, xV, f_Mo_result, g_up, reg_x, xn_x, g1, g2, g3, g4, g5, gw, ek, h0, hc, xWr, hnr, hnm, hr4, hm4, xM_x]
      · simp (decide := true) [f_Ma_advance_3, f_Ma_wouldWait_3, f_Ma_compute_3, f_Ma_moveNumbers_3, f_Ma_write_3, f_Ma_stop_3, f_Ma_rememberBefore_3, stC, xN, xV, f_Mo_result, g_up, reg_x, xn_x, g1, g2, g3, g4, g5, gw, ek, h0, hc, xWr, hnr, hnm, hr4, hm4, xM_x]
      · simp (decide := true) [f_Ma_advance_3, f_Ma_wouldWait_3, f_Ma_compute_3, f_Ma_moveNumbers_3, f_Ma_write_3, f_Ma_stop_3, f_Ma_rememberBefore_3, stC, xN, xV, f_Mo_result, g_up, reg_x, xn_x, g1, g2, g3, g4, g5, gw, ek, h0, hc, xWr, hnr, hnm, hr4, hm4, xM_x]
      · intro a h3 h4
        funext b
        simp (decide := true) [f_Ma_advance_3, f_Ma_wouldWait_3, f_Ma_compute_3, f_Ma_moveNumbers_3, f_Ma_write_3, f_Ma_stop_3, f_Ma_rememberBefore_3, stC, xN, xV, f_Mo_result, g_up, reg_x, xn_x, g1, g2, g3, g4, g5, gw, ek, h0, hc, xWr, hnr, hnm, hr4, hm4, xM_x, h3, h4]
  · intro h
    simp (decide := true) [f_Ma_advance_3, f_Ma_wouldWait_3, g1, g2, g5, gw, ek, (show ¬ x 268 = 0 from h.elim (fun z => z) (fun z => absurd z.1 (by decide)))]

set_option maxHeartbeats 1000000 in
theorem ad_3_8 (G : gT) (x I : Nat → Int32) (av w : Int32) (g1 : G 3 1 = x 264) (g2 : G 3 2 = x 265) (g3 : G 3 3 = x 266) (g4 : G 3 4 = x 267) (g5 : G 3 5 = x 268) (gn : ∀ i, i < 264 → G 4 i = x i) (gw : G 1 (x 264).toNatClampNeg = w) (v1 : vp_in (x 264) 64) (v2 : x 265 < av → vp_in (x 265) 200) (gi : x 265 < av → G 2 (x 265).toNatClampNeg = I (x 265).toNatClampNeg) (hr4 : ∀ p, G 4 (xR w p).toNatClampNeg = x (xR w p).toNatClampNeg) (hm4 : G 4 (xM w x).toNatClampNeg = x (xM w x).toNatClampNeg) (vr : ∀ p, vp_in (xR w p) 264) (vm : vp_in (xM w x) 264) (ek : g_ush w 28 = 8) : ok_Ma_advance_3 G av ∧ (x 268 = 0 → ¬ ((8 : Int32) = 8 ∧ ¬ x 265 < av) → ∃ G', f_Ma_advance_3 G av = (1, G') ∧ (∀ i, i < 269 → stC 3 4 G' i = xN 8 w I x i) ∧ G' 3 6 = xWr 8 w x ∧ (¬ xWr 8 w x = -1 → G' 3 7 = x (xWr 8 w x).toNatClampNeg) ∧ G' 3 8 = x 264 ∧ G' 3 9 = x 265 ∧ G' 3 10 = x 266 ∧ G' 3 11 = x 267 ∧ ∀ a, ¬ a = 3 → ¬ a = 4 → G' a = G a) ∧ ((¬ x 268 = 0 ∨ ((8 : Int32) = 8 ∧ ¬ x 265 < av)) → f_Ma_advance_3 G av = (0, G)) := by
  have hnr := xR_n w 24
  have hnm := xM_n w x
  refine ⟨?_, fun h0 hnw => ?_, ?_⟩
  · simp (decide := true) [ok_Ma_advance_3, ok_Ma_wouldWait_3, f_Ma_wouldWait_3, ok_Ma_compute_3, ok_Ma_moveNumbers_3, ok_Ma_write_3, f_Ma_rememberBefore_3, g_up, reg_x, xn_x, g1, g2, g3, g4, g5, gw, ek, v1, hr4, hm4, vr, vm, xM_x]
    intro q1 q2
    exact v2 (q2 q1)
  · have hlt : x 265 < av := Classical.byContradiction fun h => hnw ⟨rfl, h⟩
    refine ⟨_, Prod.ext ?_ rfl, i_cases ?_ ?_ ?_ ?_ ?_ ?_, ?_, ?_, ?_, ?_, ?_, ?_, ?_⟩
    · simp (decide := true) [f_Ma_advance_3, f_Ma_wouldWait_3, g1, g2, g5, gw, ek, h0, hlt, gi hlt]
    · intro i hi
      simp (decide := true) [f_Ma_advance_3, f_Ma_wouldWait_3, f_Ma_compute_3, f_Ma_moveNumbers_3, f_Ma_write_3, f_Ma_stop_3, f_Ma_rememberBefore_3, stC, xN, xV, f_Mo_result, g_up, reg_x, xn_x, g1, g2, g3, g4, g5, gw, ek, h0, hlt, gi hlt, xWr, hnr, hnm, hr4, hm4, xM_x, hi, gn i hi]
    · simp (decide := true) [f_Ma_advance_3, f_Ma_wouldWait_3, f_Ma_compute_3, f_Ma_moveNumbers_3, f_Ma_write_3, f_Ma_stop_3, f_Ma_rememberBefore_3, stC, xN, xV, f_Mo_result, g_up, reg_x, xn_x, g1, g2, g3, g4, g5, gw, ek, h0, hlt, gi hlt, xWr, hnr, hnm, hr4, hm4, xM_x]
    · simp (decide := true) [f_Ma_advance_3, f_Ma_wouldWait_3, f_Ma_compute_3, f_Ma_moveNumbers_3, f_Ma_write_3, f_Ma_stop_3, f_Ma_rememberBefore_3, stC, xN, xV, f_Mo_result, g_up, reg_x, xn_x, g1, g2, g3, g4, g5, gw, ek, h0, hlt, gi hlt, xWr, hnr, hnm, hr4, hm4, xM_x]
    · simp (decide := true) [f_Ma_advance_3, f_Ma_wouldWait_3, f_Ma_compute_3, f_Ma_moveNumbers_3, f_Ma_write_3, f_Ma_stop_3, f_Ma_rememberBefore_3, stC, xN, xV, f_Mo_result, g_up, reg_x, xn_x, g1, g2, g3, g4, g5, gw, ek, h0, hlt, gi hlt, xWr, hnr, hnm, hr4, hm4, xM_x]
    · simp (decide := true) [f_Ma_advance_3, f_Ma_wouldWait_3, f_Ma_compute_3, f_Ma_moveNumbers_3, f_Ma_write_3, f_Ma_stop_3, f_Ma_rememberBefore_3, stC, xN, xV, f_Mo_result, g_up, reg_x, xn_x, g1, g2, g3, g4, g5, gw, ek, h0, hlt, gi hlt, xWr, hnr, hnm, hr4, hm4, xM_x]
    · simp (decide := true) [f_Ma_advance_3, f_Ma_wouldWait_3, f_Ma_compute_3, f_Ma_moveNumbers_3, f_Ma_write_3, f_Ma_stop_3, f_Ma_rememberBefore_3, stC, xN, xV, f_Mo_result, g_up, reg_x, xn_x, g1, g2, g3, g4, g5, gw, ek, h0, hlt, gi hlt, xWr, hnr, hnm, hr4, hm4, xM_x]
    · simp (decide := true) [f_Ma_advance_3, f_Ma_wouldWait_3, f_Ma_compute_3, f_Ma_moveNumbers_3, f_Ma_write_3, f_Ma_stop_3, f_Ma_rememberBefore_3, stC, xN, xV, f_Mo_result, g_up, reg_x, xn_x, g1, g2, g3, g4, g5, gw, ek, h0, hlt, gi hlt, xWr, hnr, hnm, hr4, hm4, xM_x]
    · simp (decide := true) [f_Ma_advance_3, f_Ma_wouldWait_3, f_Ma_compute_3, f_Ma_moveNumbers_3, f_Ma_write_3, f_Ma_stop_3, f_Ma_rememberBefore_3, stC, xN, xV, f_Mo_result, g_up, reg_x, xn_x, g1, g2, g3, g4, g5, gw, ek, h0, hlt, gi hlt, xWr, hnr, hnm, hr4, hm4, xM_x]
    · simp (decide := true) [f_Ma_advance_3, f_Ma_wouldWait_3, f_Ma_compute_3, f_Ma_moveNumbers_3, f_Ma_write_3, f_Ma_stop_3, f_Ma_rememberBefore_3, stC, xN, xV, f_Mo_result, g_up, reg_x, xn_x, g1, g2, g3, g4, g5, gw, ek, h0, hlt, gi hlt, xWr, hnr, hnm, hr4, hm4, xM_x]
    · simp (decide := true) [f_Ma_advance_3, f_Ma_wouldWait_3, f_Ma_compute_3, f_Ma_moveNumbers_3, f_Ma_write_3, f_Ma_stop_3, f_Ma_rememberBefore_3, stC, xN, xV, f_Mo_result, g_up, reg_x, xn_x, g1, g2, g3, g4, g5, gw, ek, h0, hlt, gi hlt, xWr, hnr, hnm, hr4, hm4, xM_x]
    · simp (decide := true) [f_Ma_advance_3, f_Ma_wouldWait_3, f_Ma_compute_3, f_Ma_moveNumbers_3, f_Ma_write_3, f_Ma_stop_3, f_Ma_rememberBefore_3, stC, xN, xV, f_Mo_result, g_up, reg_x, xn_x, g1, g2, g3, g4, g5, gw, ek, h0, hlt, gi hlt, xWr, hnr, hnm, hr4, hm4, xM_x]
    · simp (decide := true) [f_Ma_advance_3, f_Ma_wouldWait_3, f_Ma_compute_3, f_Ma_moveNumbers_3, f_Ma_write_3, f_Ma_stop_3, f_Ma_rememberBefore_3, stC, xN, xV, f_Mo_result, g_up, reg_x, xn_x, g1, g2, g3, g4, g5, gw, ek, h0, hlt, gi hlt, xWr, hnr, hnm, hr4, hm4, xM_x]
    · intro a h3 h4
      funext b
      simp (decide := true) [f_Ma_advance_3, f_Ma_wouldWait_3, f_Ma_compute_3, f_Ma_moveNumbers_3, f_Ma_write_3, f_Ma_stop_3, f_Ma_rememberBefore_3, stC, xN, xV, f_Mo_result, g_up, reg_x, xn_x, g1, g2, g3, g4, g5, gw, ek, h0, hlt, gi hlt, xWr, hnr, hnm, hr4, hm4, xM_x, h3, h4]
  · intro h
    simp (decide := true) [f_Ma_advance_3, f_Ma_wouldWait_3, g1, g2, g5, gw, ek]
    intro q1
    rcases h with h | h
    · exact absurd q1 h
    · exact ⟨q1, Int32.not_lt.mp h.2⟩

set_option maxHeartbeats 1000000 in
theorem ad_3_9 (G : gT) (x I : Nat → Int32) (av w : Int32) (g1 : G 3 1 = x 264) (g2 : G 3 2 = x 265) (g3 : G 3 3 = x 266) (g4 : G 3 4 = x 267) (g5 : G 3 5 = x 268) (gn : ∀ i, i < 264 → G 4 i = x i) (gw : G 1 (x 264).toNatClampNeg = w) (v1 : vp_in (x 264) 64) (v2 : x 265 < av → vp_in (x 265) 200) (gi : x 265 < av → G 2 (x 265).toNatClampNeg = I (x 265).toNatClampNeg) (hr4 : ∀ p, G 4 (xR w p).toNatClampNeg = x (xR w p).toNatClampNeg) (hm4 : G 4 (xM w x).toNatClampNeg = x (xM w x).toNatClampNeg) (vr : ∀ p, vp_in (xR w p) 264) (vm : vp_in (xM w x) 264) (ek : g_ush w 28 = 9) : ok_Ma_advance_3 G av ∧ (x 268 = 0 → ¬ ((9 : Int32) = 8 ∧ ¬ x 265 < av) → ∃ G', f_Ma_advance_3 G av = (1, G') ∧ (∀ i, i < 269 → stC 3 4 G' i = xN 9 w I x i) ∧ G' 3 6 = xWr 9 w x ∧ (¬ xWr 9 w x = -1 → G' 3 7 = x (xWr 9 w x).toNatClampNeg) ∧ G' 3 8 = x 264 ∧ G' 3 9 = x 265 ∧ G' 3 10 = x 266 ∧ G' 3 11 = x 267 ∧ ∀ a, ¬ a = 3 → ¬ a = 4 → G' a = G a) ∧ ((¬ x 268 = 0 ∨ ((9 : Int32) = 8 ∧ ¬ x 265 < av)) → f_Ma_advance_3 G av = (0, G)) := by
  have hnr := xR_n w 24
  have hnm := xM_n w x
  refine ⟨?_, fun h0 hnw => ?_, ?_⟩
  · simp (decide := true) [ok_Ma_advance_3, ok_Ma_wouldWait_3, f_Ma_wouldWait_3, ok_Ma_compute_3, ok_Ma_moveNumbers_3, ok_Ma_write_3, f_Ma_rememberBefore_3, g_up, reg_x, xn_x, g1, g2, g3, g4, g5, gw, ek, v1, hr4, hm4, vr, vm, xM_x]
  · refine ⟨_, Prod.ext ?_ rfl, i_cases ?_ ?_ ?_ ?_ ?_ ?_, ?_, ?_, ?_, ?_, ?_, ?_, ?_⟩
    · simp (decide := true) [f_Ma_advance_3, f_Ma_wouldWait_3, g1, g2, g5, gw, ek, h0]
    · intro i hi
      simp (decide := true) [f_Ma_advance_3, f_Ma_wouldWait_3, f_Ma_compute_3, f_Ma_moveNumbers_3, f_Ma_write_3, f_Ma_stop_3, f_Ma_rememberBefore_3, stC, xN, xV, f_Mo_result, g_up, reg_x, xn_x, g1, g2, g3, g4, g5, gw, ek, h0, xWr, hnr, hnm, hr4, hm4, xM_x, hi, gn i hi]
    · simp (decide := true) [f_Ma_advance_3, f_Ma_wouldWait_3, f_Ma_compute_3, f_Ma_moveNumbers_3, f_Ma_write_3, f_Ma_stop_3, f_Ma_rememberBefore_3, stC, xN, xV, f_Mo_result, g_up, reg_x, xn_x, g1, g2, g3, g4, g5, gw, ek, h0, xWr, hnr, hnm, hr4, hm4, xM_x]
    · simp (decide := true) [f_Ma_advance_3, f_Ma_wouldWait_3, f_Ma_compute_3, f_Ma_moveNumbers_3, f_Ma_write_3, f_Ma_stop_3, f_Ma_rememberBefore_3, stC, xN, xV, f_Mo_result, g_up, reg_x, xn_x, g1, g2, g3, g4, g5, gw, ek, h0, xWr, hnr, hnm, hr4, hm4, xM_x]
    · simp (decide := true) [f_Ma_advance_3, f_Ma_wouldWait_3, f_Ma_compute_3, f_Ma_moveNumbers_3, f_Ma_write_3, f_Ma_stop_3, f_Ma_rememberBefore_3, stC, xN, xV, f_Mo_result, g_up, reg_x, xn_x, g1, g2, g3, g4, g5, gw, ek, h0, xWr, hnr, hnm, hr4, hm4, xM_x]
    · simp (decide := true) [f_Ma_advance_3, f_Ma_wouldWait_3, f_Ma_compute_3, f_Ma_moveNumbers_3, f_Ma_write_3, f_Ma_stop_3, f_Ma_rememberBefore_3, stC, xN, xV, f_Mo_result, g_up, reg_x, xn_x, g1, g2, g3, g4, g5, gw, ek, h0, xWr, hnr, hnm, hr4, hm4, xM_x]
    · simp (decide := true) [f_Ma_advance_3, f_Ma_wouldWait_3, f_Ma_compute_3, f_Ma_moveNumbers_3, f_Ma_write_3, f_Ma_stop_3, f_Ma_rememberBefore_3, stC, xN, xV, f_Mo_result, g_up, reg_x, xn_x, g1, g2, g3, g4, g5, gw, ek, h0, xWr, hnr, hnm, hr4, hm4, xM_x]
    · simp (decide := true) [f_Ma_advance_3, f_Ma_wouldWait_3, f_Ma_compute_3, f_Ma_moveNumbers_3, f_Ma_write_3, f_Ma_stop_3, f_Ma_rememberBefore_3, stC, xN, xV, f_Mo_result, g_up, reg_x, xn_x, g1, g2, g3, g4, g5, gw, ek, h0, xWr, hnr, hnm, hr4, hm4, xM_x]
    · simp (decide := true) [f_Ma_advance_3, f_Ma_wouldWait_3, f_Ma_compute_3, f_Ma_moveNumbers_3, f_Ma_write_3, f_Ma_stop_3, f_Ma_rememberBefore_3, stC, xN, xV, f_Mo_result, g_up, reg_x, xn_x, g1, g2, g3, g4, g5, gw, ek, h0, xWr, hnr, hnm, hr4, hm4, xM_x]
    · simp (decide := true) [f_Ma_advance_3, f_Ma_wouldWait_3, f_Ma_compute_3, f_Ma_moveNumbers_3, f_Ma_write_3, f_Ma_stop_3, f_Ma_rememberBefore_3, stC, xN, xV, f_Mo_result, g_up, reg_x, xn_x, g1, g2, g3, g4, g5, gw, ek, h0, xWr, hnr, hnm, hr4, hm4, xM_x]
    · simp (decide := true) [f_Ma_advance_3, f_Ma_wouldWait_3, f_Ma_compute_3, f_Ma_moveNumbers_3, f_Ma_write_3, f_Ma_stop_3, f_Ma_rememberBefore_3, stC, xN, xV, f_Mo_result, g_up, reg_x, xn_x, g1, g2, g3, g4, g5, gw, ek, h0, xWr, hnr, hnm, hr4, hm4, xM_x]
    · simp (decide := true) [f_Ma_advance_3, f_Ma_wouldWait_3, f_Ma_compute_3, f_Ma_moveNumbers_3, f_Ma_write_3, f_Ma_stop_3, f_Ma_rememberBefore_3, stC, xN, xV, f_Mo_result, g_up, reg_x, xn_x, g1, g2, g3, g4, g5, gw, ek, h0, xWr, hnr, hnm, hr4, hm4, xM_x]
    · simp (decide := true) [f_Ma_advance_3, f_Ma_wouldWait_3, f_Ma_compute_3, f_Ma_moveNumbers_3, f_Ma_write_3, f_Ma_stop_3, f_Ma_rememberBefore_3, stC, xN, xV, f_Mo_result, g_up, reg_x, xn_x, g1, g2, g3, g4, g5, gw, ek, h0, xWr, hnr, hnm, hr4, hm4, xM_x]
    · intro a h3 h4
      funext b
      simp (decide := true) [f_Ma_advance_3, f_Ma_wouldWait_3, f_Ma_compute_3, f_Ma_moveNumbers_3, f_Ma_write_3, f_Ma_stop_3, f_Ma_rememberBefore_3, stC, xN, xV, f_Mo_result, g_up, reg_x, xn_x, g1, g2, g3, g4, g5, gw, ek, h0, xWr, hnr, hnm, hr4, hm4, xM_x, h3, h4]
  · intro h
    simp (decide := true) [f_Ma_advance_3, f_Ma_wouldWait_3, g1, g2, g5, gw, ek, (show ¬ x 268 = 0 from h.elim (fun z => z) (fun z => absurd z.1 (by decide)))]

set_option maxHeartbeats 1000000 in
theorem ad_3_10 (G : gT) (x I : Nat → Int32) (av w : Int32) (g1 : G 3 1 = x 264) (g2 : G 3 2 = x 265) (g3 : G 3 3 = x 266) (g4 : G 3 4 = x 267) (g5 : G 3 5 = x 268) (gn : ∀ i, i < 264 → G 4 i = x i) (gw : G 1 (x 264).toNatClampNeg = w) (v1 : vp_in (x 264) 64) (v2 : x 265 < av → vp_in (x 265) 200) (gi : x 265 < av → G 2 (x 265).toNatClampNeg = I (x 265).toNatClampNeg) (hr4 : ∀ p, G 4 (xR w p).toNatClampNeg = x (xR w p).toNatClampNeg) (hm4 : G 4 (xM w x).toNatClampNeg = x (xM w x).toNatClampNeg) (vr : ∀ p, vp_in (xR w p) 264) (vm : vp_in (xM w x) 264) (ek : g_ush w 28 = 10) : ok_Ma_advance_3 G av ∧ (x 268 = 0 → ¬ ((10 : Int32) = 8 ∧ ¬ x 265 < av) → ∃ G', f_Ma_advance_3 G av = (1, G') ∧ (∀ i, i < 269 → stC 3 4 G' i = xN 10 w I x i) ∧ G' 3 6 = xWr 10 w x ∧ (¬ xWr 10 w x = -1 → G' 3 7 = x (xWr 10 w x).toNatClampNeg) ∧ G' 3 8 = x 264 ∧ G' 3 9 = x 265 ∧ G' 3 10 = x 266 ∧ G' 3 11 = x 267 ∧ ∀ a, ¬ a = 3 → ¬ a = 4 → G' a = G a) ∧ ((¬ x 268 = 0 ∨ ((10 : Int32) = 8 ∧ ¬ x 265 < av)) → f_Ma_advance_3 G av = (0, G)) := by
  have hnr := xR_n w 24
  have hnm := xM_n w x
  refine ⟨?_, fun h0 hnw => ?_, ?_⟩
  · simp (decide := true) [ok_Ma_advance_3, ok_Ma_wouldWait_3, f_Ma_wouldWait_3, ok_Ma_compute_3, ok_Ma_moveNumbers_3, ok_Ma_write_3, f_Ma_rememberBefore_3, g_up, reg_x, xn_x, g1, g2, g3, g4, g5, gw, ek, v1, hr4, hm4, vr, vm, xM_x]
  · refine ⟨_, Prod.ext ?_ rfl, i_cases ?_ ?_ ?_ ?_ ?_ ?_, ?_, ?_, ?_, ?_, ?_, ?_, ?_⟩
    · simp (decide := true) [f_Ma_advance_3, f_Ma_wouldWait_3, g1, g2, g5, gw, ek, h0]
    · intro i hi
      simp (decide := true) [f_Ma_advance_3, f_Ma_wouldWait_3, f_Ma_compute_3, f_Ma_moveNumbers_3, f_Ma_write_3, f_Ma_stop_3, f_Ma_rememberBefore_3, stC, xN, xV, f_Mo_result, g_up, reg_x, xn_x, g1, g2, g3, g4, g5, gw, ek, h0, xWr, hnr, hnm, hr4, hm4, xM_x, hi, gn i hi]
    · simp (decide := true) [f_Ma_advance_3, f_Ma_wouldWait_3, f_Ma_compute_3, f_Ma_moveNumbers_3, f_Ma_write_3, f_Ma_stop_3, f_Ma_rememberBefore_3, stC, xN, xV, f_Mo_result, g_up, reg_x, xn_x, g1, g2, g3, g4, g5, gw, ek, h0, xWr, hnr, hnm, hr4, hm4, xM_x]
    · simp (decide := true) [f_Ma_advance_3, f_Ma_wouldWait_3, f_Ma_compute_3, f_Ma_moveNumbers_3, f_Ma_write_3, f_Ma_stop_3, f_Ma_rememberBefore_3, stC, xN, xV, f_Mo_result, g_up, reg_x, xn_x, g1, g2, g3, g4, g5, gw, ek, h0, xWr, hnr, hnm, hr4, hm4, xM_x]
    · simp (decide := true) [f_Ma_advance_3, f_Ma_wouldWait_3, f_Ma_compute_3, f_Ma_moveNumbers_3, f_Ma_write_3, f_Ma_stop_3, f_Ma_rememberBefore_3, stC, xN, xV, f_Mo_result, g_up, reg_x, xn_x, g1, g2, g3, g4, g5, gw, ek, h0, xWr, hnr, hnm, hr4, hm4, xM_x]
    · simp (decide := true) [f_Ma_advance_3, f_Ma_wouldWait_3, f_Ma_compute_3, f_Ma_moveNumbers_3, f_Ma_write_3, f_Ma_stop_3, f_Ma_rememberBefore_3, stC, xN, xV, f_Mo_result, g_up, reg_x, xn_x, g1, g2, g3, g4, g5, gw, ek, h0, xWr, hnr, hnm, hr4, hm4, xM_x]
    · simp (decide := true) [f_Ma_advance_3, f_Ma_wouldWait_3, f_Ma_compute_3, f_Ma_moveNumbers_3, f_Ma_write_3, f_Ma_stop_3, f_Ma_rememberBefore_3, stC, xN, xV, f_Mo_result, g_up, reg_x, xn_x, g1, g2, g3, g4, g5, gw, ek, h0, xWr, hnr, hnm, hr4, hm4, xM_x]
    · simp (decide := true) [f_Ma_advance_3, f_Ma_wouldWait_3, f_Ma_compute_3, f_Ma_moveNumbers_3, f_Ma_write_3, f_Ma_stop_3, f_Ma_rememberBefore_3, stC, xN, xV, f_Mo_result, g_up, reg_x, xn_x, g1, g2, g3, g4, g5, gw, ek, h0, xWr, hnr, hnm, hr4, hm4, xM_x]
    · simp (decide := true) [f_Ma_advance_3, f_Ma_wouldWait_3, f_Ma_compute_3, f_Ma_moveNumbers_3, f_Ma_write_3, f_Ma_stop_3, f_Ma_rememberBefore_3, stC, xN, xV, f_Mo_result, g_up, reg_x, xn_x, g1, g2, g3, g4, g5, gw, ek, h0, xWr, hnr, hnm, hr4, hm4, xM_x]
    · simp (decide := true) [f_Ma_advance_3, f_Ma_wouldWait_3, f_Ma_compute_3, f_Ma_moveNumbers_3, f_Ma_write_3, f_Ma_stop_3, f_Ma_rememberBefore_3, stC, xN, xV, f_Mo_result, g_up, reg_x, xn_x, g1, g2, g3, g4, g5, gw, ek, h0, xWr, hnr, hnm, hr4, hm4, xM_x]
    · simp (decide := true) [f_Ma_advance_3, f_Ma_wouldWait_3, f_Ma_compute_3, f_Ma_moveNumbers_3, f_Ma_write_3, f_Ma_stop_3, f_Ma_rememberBefore_3, stC, xN, xV, f_Mo_result, g_up, reg_x, xn_x, g1, g2, g3, g4, g5, gw, ek, h0, xWr, hnr, hnm, hr4, hm4, xM_x]
    · simp (decide := true) [f_Ma_advance_3, f_Ma_wouldWait_3, f_Ma_compute_3, f_Ma_moveNumbers_3, f_Ma_write_3, f_Ma_stop_3, f_Ma_rememberBefore_3, stC, xN, xV, f_Mo_result, g_up, reg_x, xn_x, g1, g2, g3, g4, g5, gw, ek, h0, xWr, hnr, hnm, hr4, hm4, xM_x]
    · simp (decide := true) [f_Ma_advance_3, f_Ma_wouldWait_3, f_Ma_compute_3, f_Ma_moveNumbers_3, f_Ma_write_3, f_Ma_stop_3, f_Ma_rememberBefore_3, stC, xN, xV, f_Mo_result, g_up, reg_x, xn_x, g1, g2, g3, g4, g5, gw, ek, h0, xWr, hnr, hnm, hr4, hm4, xM_x]
    · intro a h3 h4
      funext b
      simp (decide := true) [f_Ma_advance_3, f_Ma_wouldWait_3, f_Ma_compute_3, f_Ma_moveNumbers_3, f_Ma_write_3, f_Ma_stop_3, f_Ma_rememberBefore_3, stC, xN, xV, f_Mo_result, g_up, reg_x, xn_x, g1, g2, g3, g4, g5, gw, ek, h0, xWr, hnr, hnm, hr4, hm4, xM_x, h3, h4]
  · intro h
    simp (decide := true) [f_Ma_advance_3, f_Ma_wouldWait_3, g1, g2, g5, gw, ek, (show ¬ x 268 = 0 from h.elim (fun z => z) (fun z => absurd z.1 (by decide)))]

set_option maxHeartbeats 1000000 in
theorem ad_3_11 (G : gT) (x I : Nat → Int32) (av w : Int32) (g1 : G 3 1 = x 264) (g2 : G 3 2 = x 265) (g3 : G 3 3 = x 266) (g4 : G 3 4 = x 267) (g5 : G 3 5 = x 268) (gn : ∀ i, i < 264 → G 4 i = x i) (gw : G 1 (x 264).toNatClampNeg = w) (v1 : vp_in (x 264) 64) (v2 : x 265 < av → vp_in (x 265) 200) (gi : x 265 < av → G 2 (x 265).toNatClampNeg = I (x 265).toNatClampNeg) (hr4 : ∀ p, G 4 (xR w p).toNatClampNeg = x (xR w p).toNatClampNeg) (hm4 : G 4 (xM w x).toNatClampNeg = x (xM w x).toNatClampNeg) (vr : ∀ p, vp_in (xR w p) 264) (vm : vp_in (xM w x) 264) (ek : g_ush w 28 = 11) : ok_Ma_advance_3 G av ∧ (x 268 = 0 → ¬ ((11 : Int32) = 8 ∧ ¬ x 265 < av) → ∃ G', f_Ma_advance_3 G av = (1, G') ∧ (∀ i, i < 269 → stC 3 4 G' i = xN 11 w I x i) ∧ G' 3 6 = xWr 11 w x ∧ (¬ xWr 11 w x = -1 → G' 3 7 = x (xWr 11 w x).toNatClampNeg) ∧ G' 3 8 = x 264 ∧ G' 3 9 = x 265 ∧ G' 3 10 = x 266 ∧ G' 3 11 = x 267 ∧ ∀ a, ¬ a = 3 → ¬ a = 4 → G' a = G a) ∧ ((¬ x 268 = 0 ∨ ((11 : Int32) = 8 ∧ ¬ x 265 < av)) → f_Ma_advance_3 G av = (0, G)) := by
  have hnr := xR_n w 24
  have hnm := xM_n w x
  refine ⟨?_, fun h0 hnw => ?_, ?_⟩
  · simp (decide := true) [ok_Ma_advance_3, ok_Ma_wouldWait_3, f_Ma_wouldWait_3, ok_Ma_compute_3, ok_Ma_moveNumbers_3, ok_Ma_write_3, f_Ma_rememberBefore_3, g_up, reg_x, xn_x, g1, g2, g3, g4, g5, gw, ek, v1, hr4, hm4, vr, vm, xM_x]
  · refine ⟨_, Prod.ext ?_ rfl, i_cases ?_ ?_ ?_ ?_ ?_ ?_, ?_, ?_, ?_, ?_, ?_, ?_, ?_⟩
    · simp (decide := true) [f_Ma_advance_3, f_Ma_wouldWait_3, g1, g2, g5, gw, ek, h0]
    · intro i hi
      simp (decide := true) [f_Ma_advance_3, f_Ma_wouldWait_3, f_Ma_compute_3, f_Ma_moveNumbers_3, f_Ma_write_3, f_Ma_stop_3, f_Ma_rememberBefore_3, stC, xN, xV, f_Mo_result, g_up, reg_x, xn_x, g1, g2, g3, g4, g5, gw, ek, h0, xWr, hnr, hnm, hr4, hm4, xM_x, hi, gn i hi]
    · simp (decide := true) [f_Ma_advance_3, f_Ma_wouldWait_3, f_Ma_compute_3, f_Ma_moveNumbers_3, f_Ma_write_3, f_Ma_stop_3, f_Ma_rememberBefore_3, stC, xN, xV, f_Mo_result, g_up, reg_x, xn_x, g1, g2, g3, g4, g5, gw, ek, h0, xWr, hnr, hnm, hr4, hm4, xM_x]
    · simp (decide := true) [f_Ma_advance_3, f_Ma_wouldWait_3, f_Ma_compute_3, f_Ma_moveNumbers_3, f_Ma_write_3, f_Ma_stop_3, f_Ma_rememberBefore_3, stC, xN, xV, f_Mo_result, g_up, reg_x, xn_x, g1, g2, g3, g4, g5, gw, ek, h0, xWr, hnr, hnm, hr4, hm4, xM_x]
    · simp (decide := true) [f_Ma_advance_3, f_Ma_wouldWait_3, f_Ma_compute_3, f_Ma_moveNumbers_3, f_Ma_write_3, f_Ma_stop_3, f_Ma_rememberBefore_3, stC, xN, xV, f_Mo_result, g_up, reg_x, xn_x, g1, g2, g3, g4, g5, gw, ek, h0, xWr, hnr, hnm, hr4, hm4, xM_x]
    · simp (decide := true) [f_Ma_advance_3, f_Ma_wouldWait_3, f_Ma_compute_3, f_Ma_moveNumbers_3, f_Ma_write_3, f_Ma_stop_3, f_Ma_rememberBefore_3, stC, xN, xV, f_Mo_result, g_up, reg_x, xn_x, g1, g2, g3, g4, g5, gw, ek, h0, xWr, hnr, hnm, hr4, hm4, xM_x]
    · simp (decide := true) [f_Ma_advance_3, f_Ma_wouldWait_3, f_Ma_compute_3, f_Ma_moveNumbers_3, f_Ma_write_3, f_Ma_stop_3, f_Ma_rememberBefore_3, stC, xN, xV, f_Mo_result, g_up, reg_x, xn_x, g1, g2, g3, g4, g5, gw, ek, h0, xWr, hnr, hnm, hr4, hm4, xM_x]
    · simp (decide := true) [f_Ma_advance_3, f_Ma_wouldWait_3, f_Ma_compute_3, f_Ma_moveNumbers_3, f_Ma_write_3, f_Ma_stop_3, f_Ma_rememberBefore_3, stC, xN, xV, f_Mo_result, g_up, reg_x, xn_x, g1, g2, g3, g4, g5, gw, ek, h0, xWr, hnr, hnm, hr4, hm4, xM_x]
    · simp (decide := true) [f_Ma_advance_3, f_Ma_wouldWait_3, f_Ma_compute_3, f_Ma_moveNumbers_3, f_Ma_write_3, f_Ma_stop_3, f_Ma_rememberBefore_3, stC, xN, xV, f_Mo_result, g_up, reg_x, xn_x, g1, g2, g3, g4, g5, gw, ek, h0, xWr, hnr, hnm, hr4, hm4, xM_x]
    · simp (decide := true) [f_Ma_advance_3, f_Ma_wouldWait_3, f_Ma_compute_3, f_Ma_moveNumbers_3, f_Ma_write_3, f_Ma_stop_3, f_Ma_rememberBefore_3, stC, xN, xV, f_Mo_result, g_up, reg_x, xn_x, g1, g2, g3, g4, g5, gw, ek, h0, xWr, hnr, hnm, hr4, hm4, xM_x]
    · simp (decide := true) [f_Ma_advance_3, f_Ma_wouldWait_3, f_Ma_compute_3, f_Ma_moveNumbers_3, f_Ma_write_3, f_Ma_stop_3, f_Ma_rememberBefore_3, stC, xN, xV, f_Mo_result, g_up, reg_x, xn_x, g1, g2, g3, g4, g5, gw, ek, h0, xWr, hnr, hnm, hr4, hm4, xM_x]
    · simp (decide := true) [f_Ma_advance_3, f_Ma_wouldWait_3, f_Ma_compute_3, f_Ma_moveNumbers_3, f_Ma_write_3, f_Ma_stop_3, f_Ma_rememberBefore_3, stC, xN, xV, f_Mo_result, g_up, reg_x, xn_x, g1, g2, g3, g4, g5, gw, ek, h0, xWr, hnr, hnm, hr4, hm4, xM_x]
    · simp (decide := true) [f_Ma_advance_3, f_Ma_wouldWait_3, f_Ma_compute_3, f_Ma_moveNumbers_3, f_Ma_write_3, f_Ma_stop_3, f_Ma_rememberBefore_3, stC, xN, xV, f_Mo_result, g_up, reg_x, xn_x, g1, g2, g3, g4, g5, gw, ek, h0, xWr, hnr, hnm, hr4, hm4, xM_x]
    · intro a h3 h4
      funext b
      simp (decide := true) [f_Ma_advance_3, f_Ma_wouldWait_3, f_Ma_compute_3, f_Ma_moveNumbers_3, f_Ma_write_3, f_Ma_stop_3, f_Ma_rememberBefore_3, stC, xN, xV, f_Mo_result, g_up, reg_x, xn_x, g1, g2, g3, g4, g5, gw, ek, h0, xWr, hnr, hnm, hr4, hm4, xM_x, h3, h4]
  · intro h
    simp (decide := true) [f_Ma_advance_3, f_Ma_wouldWait_3, g1, g2, g5, gw, ek, (show ¬ x 268 = 0 from h.elim (fun z => z) (fun z => absurd z.1 (by decide)))]

set_option maxHeartbeats 1000000 in
theorem ad_3_12 (G : gT) (x I : Nat → Int32) (av w : Int32) (g1 : G 3 1 = x 264) (g2 : G 3 2 = x 265) (g3 : G 3 3 = x 266) (g4 : G 3 4 = x 267) (g5 : G 3 5 = x 268) (gn : ∀ i, i < 264 → G 4 i = x i) (gw : G 1 (x 264).toNatClampNeg = w) (v1 : vp_in (x 264) 64) (v2 : x 265 < av → vp_in (x 265) 200) (gi : x 265 < av → G 2 (x 265).toNatClampNeg = I (x 265).toNatClampNeg) (hr4 : ∀ p, G 4 (xR w p).toNatClampNeg = x (xR w p).toNatClampNeg) (hm4 : G 4 (xM w x).toNatClampNeg = x (xM w x).toNatClampNeg) (vr : ∀ p, vp_in (xR w p) 264) (vm : vp_in (xM w x) 264) (ek : g_ush w 28 = 12) : ok_Ma_advance_3 G av ∧ (x 268 = 0 → ¬ ((12 : Int32) = 8 ∧ ¬ x 265 < av) → ∃ G', f_Ma_advance_3 G av = (1, G') ∧ (∀ i, i < 269 → stC 3 4 G' i = xN 12 w I x i) ∧ G' 3 6 = xWr 12 w x ∧ (¬ xWr 12 w x = -1 → G' 3 7 = x (xWr 12 w x).toNatClampNeg) ∧ G' 3 8 = x 264 ∧ G' 3 9 = x 265 ∧ G' 3 10 = x 266 ∧ G' 3 11 = x 267 ∧ ∀ a, ¬ a = 3 → ¬ a = 4 → G' a = G a) ∧ ((¬ x 268 = 0 ∨ ((12 : Int32) = 8 ∧ ¬ x 265 < av)) → f_Ma_advance_3 G av = (0, G)) := by
  have hnr := xR_n w 24
  have hnm := xM_n w x
  refine ⟨?_, fun h0 hnw => ?_, ?_⟩
  · simp (decide := true) [ok_Ma_advance_3, ok_Ma_wouldWait_3, f_Ma_wouldWait_3, ok_Ma_compute_3, ok_Ma_moveNumbers_3, ok_Ma_write_3, f_Ma_rememberBefore_3, g_up, reg_x, xn_x, g1, g2, g3, g4, g5, gw, ek, v1, hr4, hm4, vr, vm, xM_x]
  · by_cases hc : x (xR w 16).toNatClampNeg ≤ x (xR w 20).toNatClampNeg
    · refine ⟨_, Prod.ext ?_ rfl, i_cases ?_ ?_ ?_ ?_ ?_ ?_, ?_, ?_, ?_, ?_, ?_, ?_, ?_⟩
      · simp (decide := true) [f_Ma_advance_3, f_Ma_wouldWait_3, g1, g2, g5, gw, ek, h0, hc]
      · intro i hi
        simp (decide := true) [f_Ma_advance_3, f_Ma_wouldWait_3, f_Ma_compute_3, f_Ma_moveNumbers_3, f_Ma_write_3, f_Ma_stop_3, f_Ma_rememberBefore_3, stC, xN, xV, f_Mo_result, g_up, reg_x, xn_x, g1, g2, g3, g4, g5, gw, ek, h0, hc, xWr, hnr, hnm, hr4, hm4, xM_x, hi, gn i hi]
      · simp (decide := true) [f_Ma_advance_3, f_Ma_wouldWait_3, f_Ma_compute_3, f_Ma_moveNumbers_3, f_Ma_write_3, f_Ma_stop_3, f_Ma_rememberBefore_3, stC, xN, xV, f_Mo_result, g_up, reg_x, xn_x, g1, g2, g3, g4, g5, gw, ek, h0, hc, xWr, hnr, hnm, hr4, hm4, xM_x]
      · simp (decide := true) [f_Ma_advance_3, f_Ma_wouldWait_3, f_Ma_compute_3, f_Ma_moveNumbers_3, f_Ma_write_3, f_Ma_stop_3, f_Ma_rememberBefore_3, stC, xN, xV, f_Mo_result, g_up, reg_x, xn_x, g1, g2, g3, g4, g5, gw, ek, h0, hc, xWr, hnr, hnm, hr4, hm4, xM_x]
      · simp (decide := true) [f_Ma_advance_3, f_Ma_wouldWait_3, f_Ma_compute_3, f_Ma_moveNumbers_3, f_Ma_write_3, f_Ma_stop_3, f_Ma_rememberBefore_3, stC, xN, xV, f_Mo_result, g_up, reg_x, xn_x, g1, g2, g3, g4, g5, gw, ek, h0, hc, xWr, hnr, hnm, hr4, hm4, xM_x]
      · simp (decide := true) [f_Ma_advance_3, f_Ma_wouldWait_3, f_Ma_compute_3, f_Ma_moveNumbers_3, f_Ma_write_3, f_Ma_stop_3, f_Ma_rememberBefore_3, stC, xN, xV, f_Mo_result, g_up, reg_x, xn_x, g1, g2, g3, g4, g5, gw, ek, h0, hc, xWr, hnr, hnm, hr4, hm4, xM_x]
      · simp (decide := true) [f_Ma_advance_3, f_Ma_wouldWait_3, f_Ma_compute_3, f_Ma_moveNumbers_3, f_Ma_write_3, f_Ma_stop_3, f_Ma_rememberBefore_3, stC, xN, xV, f_Mo_result, g_up, reg_x, xn_x, g1, g2, g3, g4, g5, gw, ek, h0, hc, xWr, hnr, hnm, hr4, hm4, xM_x]
      · simp (decide := true) [f_Ma_advance_3, f_Ma_wouldWait_3, f_Ma_compute_3, f_Ma_moveNumbers_3, f_Ma_write_3, f_Ma_stop_3, f_Ma_rememberBefore_3, stC, xN, xV, f_Mo_result, g_up, reg_x, xn_x, g1, g2, g3, g4, g5, gw, ek, h0, hc, xWr, hnr, hnm, hr4, hm4, xM_x]
      · simp (decide := true) [f_Ma_advance_3, f_Ma_wouldWait_3, f_Ma_compute_3, f_Ma_moveNumbers_3, f_Ma_write_3, f_Ma_stop_3, f_Ma_rememberBefore_3, stC, xN, xV, f_Mo_result, g_up, reg_x, xn_x, g1, g2, g3, g4, g5, gw, ek, h0, hc, xWr, hnr, hnm, hr4, hm4, xM_x]
      · simp (decide := true) [f_Ma_advance_3, f_Ma_wouldWait_3, f_Ma_compute_3, f_Ma_moveNumbers_3, f_Ma_write_3, f_Ma_stop_3, f_Ma_rememberBefore_3, stC, xN, xV, f_Mo_result, g_up, reg_x, xn_x, g1, g2, g3, g4, g5, gw, ek, h0, hc, xWr, hnr, hnm, hr4, hm4, xM_x]
      · simp (decide := true) [f_Ma_advance_3, f_Ma_wouldWait_3, f_Ma_compute_3, f_Ma_moveNumbers_3, f_Ma_write_3, f_Ma_stop_3, f_Ma_rememberBefore_3, stC, xN, xV, f_Mo_result, g_up, reg_x, xn_x, g1, g2, g3, g4, g5, gw, ek, h0, hc, xWr, hnr, hnm, hr4, hm4, xM_x]
      · simp (decide := true) [f_Ma_advance_3, f_Ma_wouldWait_3, f_Ma_compute_3, f_Ma_moveNumbers_3, f_Ma_write_3, f_Ma_stop_3, f_Ma_rememberBefore_3, stC, xN, xV, f_Mo_result, g_up, reg_x, xn_x, g1, g2, g3, g4, g5, gw, ek, h0, hc, xWr, hnr, hnm, hr4, hm4, xM_x]
      · simp (decide := true) [f_Ma_advance_3, f_Ma_wouldWait_3, f_Ma_compute_3, f_Ma_moveNumbers_3, f_Ma_write_3, f_Ma_stop_3, f_Ma_rememberBefore_3, stC, xN, xV, f_Mo_result, g_up, reg_x, xn_x, g1, g2, g3, g4, g5, gw, ek, h0, hc, xWr, hnr, hnm, hr4, hm4, xM_x]
      · intro a h3 h4
        funext b
        simp (decide := true) [f_Ma_advance_3, f_Ma_wouldWait_3, f_Ma_compute_3, f_Ma_moveNumbers_3, f_Ma_write_3, f_Ma_stop_3, f_Ma_rememberBefore_3, stC, xN, xV, f_Mo_result, g_up, reg_x, xn_x, g1, g2, g3, g4, g5, gw, ek, h0, hc, xWr, hnr, hnm, hr4, hm4, xM_x, h3, h4]
    · refine ⟨_, Prod.ext ?_ rfl, i_cases ?_ ?_ ?_ ?_ ?_ ?_, ?_, ?_, ?_, ?_, ?_, ?_, ?_⟩
      · simp (decide := true) [f_Ma_advance_3, f_Ma_wouldWait_3, g1, g2, g5, gw, ek, h0, hc]
      · intro i hi
        simp (decide := true) [f_Ma_advance_3, f_Ma_wouldWait_3, f_Ma_compute_3, f_Ma_moveNumbers_3, f_Ma_write_3, f_Ma_stop_3, f_Ma_rememberBefore_3, stC, xN, xV, f_Mo_result, g_up, reg_x, xn_x, g1, g2, g3, g4, g5, gw, ek, h0, hc, xWr, hnr, hnm, hr4, hm4, xM_x, hi, gn i hi]
      · simp (decide := true) [f_Ma_advance_3, f_Ma_wouldWait_3, f_Ma_compute_3, f_Ma_moveNumbers_3, f_Ma_write_3, f_Ma_stop_3, f_Ma_rememberBefore_3, stC, xN, xV, f_Mo_result, g_up, reg_x, xn_x, g1, g2, g3, g4, g5, gw, ek, h0, hc, xWr, hnr, hnm, hr4, hm4, xM_x]
      · simp (decide := true) [f_Ma_advance_3, f_Ma_wouldWait_3, f_Ma_compute_3, f_Ma_moveNumbers_3, f_Ma_write_3, f_Ma_stop_3, f_Ma_rememberBefore_3, stC, xN, xV, f_Mo_result, g_up, reg_x, xn_x, g1, g2, g3, g4, g5, gw, ek, h0, hc, xWr, hnr, hnm, hr4, hm4, xM_x]
      · simp (decide := true) [f_Ma_advance_3, f_Ma_wouldWait_3, f_Ma_compute_3, f_Ma_moveNumbers_3, f_Ma_write_3, f_Ma_stop_3, f_Ma_rememberBefore_3, stC, xN, xV, f_Mo_result, g_up, reg_x, xn_x, g1, g2, g3, g4, g5, gw, ek, h0, hc, xWr, hnr, hnm, hr4, hm4, xM_x]
      · simp (decide := true) [f_Ma_advance_3, f_Ma_wouldWait_3, f_Ma_compute_3, f_Ma_moveNumbers_3, f_Ma_write_3, f_Ma_stop_3, f_Ma_rememberBefore_3, stC, xN, xV, f_Mo_result, g_up, reg_x, xn_x, g1, g2, g3, g4, g5, gw, ek, h0, hc, xWr, hnr, hnm, hr4, hm4, xM_x]
      · simp (decide := true) [f_Ma_advance_3, f_Ma_wouldWait_3, f_Ma_compute_3, f_Ma_moveNumbers_3, f_Ma_write_3, f_Ma_stop_3, f_Ma_rememberBefore_3, stC, xN, xV, f_Mo_result, g_up, reg_x, xn_x, g1, g2, g3, g4, g5, gw, ek, h0, hc, xWr, hnr, hnm, hr4, hm4, xM_x]
      · simp (decide := true) [f_Ma_advance_3, f_Ma_wouldWait_3, f_Ma_compute_3, f_Ma_moveNumbers_3, f_Ma_write_3, f_Ma_stop_3, f_Ma_rememberBefore_3, stC, xN, xV, f_Mo_result, g_up, reg_x, xn_x, g1, g2, g3, g4, g5, gw, ek, h0, hc, xWr, hnr, hnm, hr4, hm4, xM_x]
      · simp (decide := true) [f_Ma_advance_3, f_Ma_wouldWait_3, f_Ma_compute_3, f_Ma_moveNumbers_3, f_Ma_write_3, f_Ma_stop_3, f_Ma_rememberBefore_3, stC, xN, xV, f_Mo_result, g_up, reg_x, xn_x, g1, g2, g3, g4, g5, gw, ek, h0, hc, xWr, hnr, hnm, hr4, hm4, xM_x]
      · simp (decide := true) [f_Ma_advance_3, f_Ma_wouldWait_3, f_Ma_compute_3, f_Ma_moveNumbers_3, f_Ma_write_3, f_Ma_stop_3, f_Ma_rememberBefore_3, stC, xN, xV, f_Mo_result, g_up, reg_x, xn_x, g1, g2, g3, g4, g5, gw, ek, h0, hc, xWr, hnr, hnm, hr4, hm4, xM_x]
      · simp (decide := true) [f_Ma_advance_3, f_Ma_wouldWait_3, f_Ma_compute_3, f_Ma_moveNumbers_3, f_Ma_write_3, f_Ma_stop_3, f_Ma_rememberBefore_3, stC, xN, xV, f_Mo_result, g_up, reg_x, xn_x, g1, g2, g3, g4, g5, gw, ek, h0, hc, xWr, hnr, hnm, hr4, hm4, xM_x]
      · simp (decide := true) [f_Ma_advance_3, f_Ma_wouldWait_3, f_Ma_compute_3, f_Ma_moveNumbers_3, f_Ma_write_3, f_Ma_stop_3, f_Ma_rememberBefore_3, stC, xN, xV, f_Mo_result, g_up, reg_x, xn_x, g1, g2, g3, g4, g5, gw, ek, h0, hc, xWr, hnr, hnm, hr4, hm4, xM_x]
      · simp (decide := true) [f_Ma_advance_3, f_Ma_wouldWait_3, f_Ma_compute_3, f_Ma_moveNumbers_3, f_Ma_write_3, f_Ma_stop_3, f_Ma_rememberBefore_3, stC, xN, xV, f_Mo_result, g_up, reg_x, xn_x, g1, g2, g3, g4, g5, gw, ek, h0, hc, xWr, hnr, hnm, hr4, hm4, xM_x]
      · intro a h3 h4
        funext b
        simp (decide := true) [f_Ma_advance_3, f_Ma_wouldWait_3, f_Ma_compute_3, f_Ma_moveNumbers_3, f_Ma_write_3, f_Ma_stop_3, f_Ma_rememberBefore_3, stC, xN, xV, f_Mo_result, g_up, reg_x, xn_x, g1, g2, g3, g4, g5, gw, ek, h0, hc, xWr, hnr, hnm, hr4, hm4, xM_x, h3, h4]
  · intro h
    simp (decide := true) [f_Ma_advance_3, f_Ma_wouldWait_3, g1, g2, g5, gw, ek, (show ¬ x 268 = 0 from h.elim (fun z => z) (fun z => absurd z.1 (by decide)))]

set_option maxHeartbeats 1000000 in
theorem ad_3_13 (G : gT) (x I : Nat → Int32) (av w : Int32) (g1 : G 3 1 = x 264) (g2 : G 3 2 = x 265) (g3 : G 3 3 = x 266) (g4 : G 3 4 = x 267) (g5 : G 3 5 = x 268) (gn : ∀ i, i < 264 → G 4 i = x i) (gw : G 1 (x 264).toNatClampNeg = w) (v1 : vp_in (x 264) 64) (v2 : x 265 < av → vp_in (x 265) 200) (gi : x 265 < av → G 2 (x 265).toNatClampNeg = I (x 265).toNatClampNeg) (hr4 : ∀ p, G 4 (xR w p).toNatClampNeg = x (xR w p).toNatClampNeg) (hm4 : G 4 (xM w x).toNatClampNeg = x (xM w x).toNatClampNeg) (vr : ∀ p, vp_in (xR w p) 264) (vm : vp_in (xM w x) 264) (ek : g_ush w 28 = 13) : ok_Ma_advance_3 G av ∧ (x 268 = 0 → ¬ ((13 : Int32) = 8 ∧ ¬ x 265 < av) → ∃ G', f_Ma_advance_3 G av = (1, G') ∧ (∀ i, i < 269 → stC 3 4 G' i = xN 13 w I x i) ∧ G' 3 6 = xWr 13 w x ∧ (¬ xWr 13 w x = -1 → G' 3 7 = x (xWr 13 w x).toNatClampNeg) ∧ G' 3 8 = x 264 ∧ G' 3 9 = x 265 ∧ G' 3 10 = x 266 ∧ G' 3 11 = x 267 ∧ ∀ a, ¬ a = 3 → ¬ a = 4 → G' a = G a) ∧ ((¬ x 268 = 0 ∨ ((13 : Int32) = 8 ∧ ¬ x 265 < av)) → f_Ma_advance_3 G av = (0, G)) := by
  have hnr := xR_n w 24
  have hnm := xM_n w x
  refine ⟨?_, fun h0 hnw => ?_, ?_⟩
  · simp (decide := true) [ok_Ma_advance_3, ok_Ma_wouldWait_3, f_Ma_wouldWait_3, ok_Ma_compute_3, ok_Ma_moveNumbers_3, ok_Ma_write_3, f_Ma_rememberBefore_3, g_up, reg_x, xn_x, g1, g2, g3, g4, g5, gw, ek, v1, hr4, hm4, vr, vm, xM_x]
  · refine ⟨_, Prod.ext ?_ rfl, i_cases ?_ ?_ ?_ ?_ ?_ ?_, ?_, ?_, ?_, ?_, ?_, ?_, ?_⟩
    · simp (decide := true) [f_Ma_advance_3, f_Ma_wouldWait_3, g1, g2, g5, gw, ek, h0]
    · intro i hi
      simp (decide := true) [f_Ma_advance_3, f_Ma_wouldWait_3, f_Ma_compute_3, f_Ma_moveNumbers_3, f_Ma_write_3, f_Ma_stop_3, f_Ma_rememberBefore_3, stC, xN, xV, f_Mo_result, g_up, reg_x, xn_x, g1, g2, g3, g4, g5, gw, ek, h0, xWr, hnr, hnm, hr4, hm4, xM_x, hi, gn i hi]
    · simp (decide := true) [f_Ma_advance_3, f_Ma_wouldWait_3, f_Ma_compute_3, f_Ma_moveNumbers_3, f_Ma_write_3, f_Ma_stop_3, f_Ma_rememberBefore_3, stC, xN, xV, f_Mo_result, g_up, reg_x, xn_x, g1, g2, g3, g4, g5, gw, ek, h0, xWr, hnr, hnm, hr4, hm4, xM_x]
    · simp (decide := true) [f_Ma_advance_3, f_Ma_wouldWait_3, f_Ma_compute_3, f_Ma_moveNumbers_3, f_Ma_write_3, f_Ma_stop_3, f_Ma_rememberBefore_3, stC, xN, xV, f_Mo_result, g_up, reg_x, xn_x, g1, g2, g3, g4, g5, gw, ek, h0, xWr, hnr, hnm, hr4, hm4, xM_x]
    · simp (decide := true) [f_Ma_advance_3, f_Ma_wouldWait_3, f_Ma_compute_3, f_Ma_moveNumbers_3, f_Ma_write_3, f_Ma_stop_3, f_Ma_rememberBefore_3, stC, xN, xV, f_Mo_result, g_up, reg_x, xn_x, g1, g2, g3, g4, g5, gw, ek, h0, xWr, hnr, hnm, hr4, hm4, xM_x]
    · simp (decide := true) [f_Ma_advance_3, f_Ma_wouldWait_3, f_Ma_compute_3, f_Ma_moveNumbers_3, f_Ma_write_3, f_Ma_stop_3, f_Ma_rememberBefore_3, stC, xN, xV, f_Mo_result, g_up, reg_x, xn_x, g1, g2, g3, g4, g5, gw, ek, h0, xWr, hnr, hnm, hr4, hm4, xM_x]
    · simp (decide := true) [f_Ma_advance_3, f_Ma_wouldWait_3, f_Ma_compute_3, f_Ma_moveNumbers_3, f_Ma_write_3, f_Ma_stop_3, f_Ma_rememberBefore_3, stC, xN, xV, f_Mo_result, g_up, reg_x, xn_x, g1, g2, g3, g4, g5, gw, ek, h0, xWr, hnr, hnm, hr4, hm4, xM_x]
    · simp (decide := true) [f_Ma_advance_3, f_Ma_wouldWait_3, f_Ma_compute_3, f_Ma_moveNumbers_3, f_Ma_write_3, f_Ma_stop_3, f_Ma_rememberBefore_3, stC, xN, xV, f_Mo_result, g_up, reg_x, xn_x, g1, g2, g3, g4, g5, gw, ek, h0, xWr, hnr, hnm, hr4, hm4, xM_x]
    · simp (decide := true) [f_Ma_advance_3, f_Ma_wouldWait_3, f_Ma_compute_3, f_Ma_moveNumbers_3, f_Ma_write_3, f_Ma_stop_3, f_Ma_rememberBefore_3, stC, xN, xV, f_Mo_result, g_up, reg_x, xn_x, g1, g2, g3, g4, g5, gw, ek, h0, xWr, hnr, hnm, hr4, hm4, xM_x]
    · simp (decide := true) [f_Ma_advance_3, f_Ma_wouldWait_3, f_Ma_compute_3, f_Ma_moveNumbers_3, f_Ma_write_3, f_Ma_stop_3, f_Ma_rememberBefore_3, stC, xN, xV, f_Mo_result, g_up, reg_x, xn_x, g1, g2, g3, g4, g5, gw, ek, h0, xWr, hnr, hnm, hr4, hm4, xM_x]
    · simp (decide := true) [f_Ma_advance_3, f_Ma_wouldWait_3, f_Ma_compute_3, f_Ma_moveNumbers_3, f_Ma_write_3, f_Ma_stop_3, f_Ma_rememberBefore_3, stC, xN, xV, f_Mo_result, g_up, reg_x, xn_x, g1, g2, g3, g4, g5, gw, ek, h0, xWr, hnr, hnm, hr4, hm4, xM_x]
    · simp (decide := true) [f_Ma_advance_3, f_Ma_wouldWait_3, f_Ma_compute_3, f_Ma_moveNumbers_3, f_Ma_write_3, f_Ma_stop_3, f_Ma_rememberBefore_3, stC, xN, xV, f_Mo_result, g_up, reg_x, xn_x, g1, g2, g3, g4, g5, gw, ek, h0, xWr, hnr, hnm, hr4, hm4, xM_x]
    · simp (decide := true) [f_Ma_advance_3, f_Ma_wouldWait_3, f_Ma_compute_3, f_Ma_moveNumbers_3, f_Ma_write_3, f_Ma_stop_3, f_Ma_rememberBefore_3, stC, xN, xV, f_Mo_result, g_up, reg_x, xn_x, g1, g2, g3, g4, g5, gw, ek, h0, xWr, hnr, hnm, hr4, hm4, xM_x]
    · intro a h3 h4
      funext b
      simp (decide := true) [f_Ma_advance_3, f_Ma_wouldWait_3, f_Ma_compute_3, f_Ma_moveNumbers_3, f_Ma_write_3, f_Ma_stop_3, f_Ma_rememberBefore_3, stC, xN, xV, f_Mo_result, g_up, reg_x, xn_x, g1, g2, g3, g4, g5, gw, ek, h0, xWr, hnr, hnm, hr4, hm4, xM_x, h3, h4]
  · intro h
    simp (decide := true) [f_Ma_advance_3, f_Ma_wouldWait_3, g1, g2, g5, gw, ek, (show ¬ x 268 = 0 from h.elim (fun z => z) (fun z => absurd z.1 (by decide)))]

set_option maxHeartbeats 1000000 in
theorem ad_3_14 (G : gT) (x I : Nat → Int32) (av w : Int32) (g1 : G 3 1 = x 264) (g2 : G 3 2 = x 265) (g3 : G 3 3 = x 266) (g4 : G 3 4 = x 267) (g5 : G 3 5 = x 268) (gn : ∀ i, i < 264 → G 4 i = x i) (gw : G 1 (x 264).toNatClampNeg = w) (v1 : vp_in (x 264) 64) (v2 : x 265 < av → vp_in (x 265) 200) (gi : x 265 < av → G 2 (x 265).toNatClampNeg = I (x 265).toNatClampNeg) (hr4 : ∀ p, G 4 (xR w p).toNatClampNeg = x (xR w p).toNatClampNeg) (hm4 : G 4 (xM w x).toNatClampNeg = x (xM w x).toNatClampNeg) (vr : ∀ p, vp_in (xR w p) 264) (vm : vp_in (xM w x) 264) (ek : g_ush w 28 = 14) : ok_Ma_advance_3 G av ∧ (x 268 = 0 → ¬ ((14 : Int32) = 8 ∧ ¬ x 265 < av) → ∃ G', f_Ma_advance_3 G av = (1, G') ∧ (∀ i, i < 269 → stC 3 4 G' i = xN 14 w I x i) ∧ G' 3 6 = xWr 14 w x ∧ (¬ xWr 14 w x = -1 → G' 3 7 = x (xWr 14 w x).toNatClampNeg) ∧ G' 3 8 = x 264 ∧ G' 3 9 = x 265 ∧ G' 3 10 = x 266 ∧ G' 3 11 = x 267 ∧ ∀ a, ¬ a = 3 → ¬ a = 4 → G' a = G a) ∧ ((¬ x 268 = 0 ∨ ((14 : Int32) = 8 ∧ ¬ x 265 < av)) → f_Ma_advance_3 G av = (0, G)) := by
  have hnr := xR_n w 24
  have hnm := xM_n w x
  refine ⟨?_, fun h0 hnw => ?_, ?_⟩
  · simp (decide := true) [ok_Ma_advance_3, ok_Ma_wouldWait_3, f_Ma_wouldWait_3, ok_Ma_compute_3, ok_Ma_moveNumbers_3, ok_Ma_write_3, f_Ma_rememberBefore_3, g_up, reg_x, xn_x, g1, g2, g3, g4, g5, gw, ek, v1, hr4, hm4, vr, vm, xM_x]
  · refine ⟨_, Prod.ext ?_ rfl, i_cases ?_ ?_ ?_ ?_ ?_ ?_, ?_, ?_, ?_, ?_, ?_, ?_, ?_⟩
    · simp (decide := true) [f_Ma_advance_3, f_Ma_wouldWait_3, g1, g2, g5, gw, ek, h0]
    · intro i hi
      simp (decide := true) [f_Ma_advance_3, f_Ma_wouldWait_3, f_Ma_compute_3, f_Ma_moveNumbers_3, f_Ma_write_3, f_Ma_stop_3, f_Ma_rememberBefore_3, stC, xN, xV, f_Mo_result, g_up, reg_x, xn_x, g1, g2, g3, g4, g5, gw, ek, h0, xWr, hnr, hnm, hr4, hm4, xM_x, hi, gn i hi]
    · simp (decide := true) [f_Ma_advance_3, f_Ma_wouldWait_3, f_Ma_compute_3, f_Ma_moveNumbers_3, f_Ma_write_3, f_Ma_stop_3, f_Ma_rememberBefore_3, stC, xN, xV, f_Mo_result, g_up, reg_x, xn_x, g1, g2, g3, g4, g5, gw, ek, h0, xWr, hnr, hnm, hr4, hm4, xM_x]
    · simp (decide := true) [f_Ma_advance_3, f_Ma_wouldWait_3, f_Ma_compute_3, f_Ma_moveNumbers_3, f_Ma_write_3, f_Ma_stop_3, f_Ma_rememberBefore_3, stC, xN, xV, f_Mo_result, g_up, reg_x, xn_x, g1, g2, g3, g4, g5, gw, ek, h0, xWr, hnr, hnm, hr4, hm4, xM_x]
    · simp (decide := true) [f_Ma_advance_3, f_Ma_wouldWait_3, f_Ma_compute_3, f_Ma_moveNumbers_3, f_Ma_write_3, f_Ma_stop_3, f_Ma_rememberBefore_3, stC, xN, xV, f_Mo_result, g_up, reg_x, xn_x, g1, g2, g3, g4, g5, gw, ek, h0, xWr, hnr, hnm, hr4, hm4, xM_x]
    · simp (decide := true) [f_Ma_advance_3, f_Ma_wouldWait_3, f_Ma_compute_3, f_Ma_moveNumbers_3, f_Ma_write_3, f_Ma_stop_3, f_Ma_rememberBefore_3, stC, xN, xV, f_Mo_result, g_up, reg_x, xn_x, g1, g2, g3, g4, g5, gw, ek, h0, xWr, hnr, hnm, hr4, hm4, xM_x]
    · simp (decide := true) [f_Ma_advance_3, f_Ma_wouldWait_3, f_Ma_compute_3, f_Ma_moveNumbers_3, f_Ma_write_3, f_Ma_stop_3, f_Ma_rememberBefore_3, stC, xN, xV, f_Mo_result, g_up, reg_x, xn_x, g1, g2, g3, g4, g5, gw, ek, h0, xWr, hnr, hnm, hr4, hm4, xM_x]
    · simp (decide := true) [f_Ma_advance_3, f_Ma_wouldWait_3, f_Ma_compute_3, f_Ma_moveNumbers_3, f_Ma_write_3, f_Ma_stop_3, f_Ma_rememberBefore_3, stC, xN, xV, f_Mo_result, g_up, reg_x, xn_x, g1, g2, g3, g4, g5, gw, ek, h0, xWr, hnr, hnm, hr4, hm4, xM_x]
    · simp (decide := true) [f_Ma_advance_3, f_Ma_wouldWait_3, f_Ma_compute_3, f_Ma_moveNumbers_3, f_Ma_write_3, f_Ma_stop_3, f_Ma_rememberBefore_3, stC, xN, xV, f_Mo_result, g_up, reg_x, xn_x, g1, g2, g3, g4, g5, gw, ek, h0, xWr, hnr, hnm, hr4, hm4, xM_x]
    · simp (decide := true) [f_Ma_advance_3, f_Ma_wouldWait_3, f_Ma_compute_3, f_Ma_moveNumbers_3, f_Ma_write_3, f_Ma_stop_3, f_Ma_rememberBefore_3, stC, xN, xV, f_Mo_result, g_up, reg_x, xn_x, g1, g2, g3, g4, g5, gw, ek, h0, xWr, hnr, hnm, hr4, hm4, xM_x]
    · simp (decide := true) [f_Ma_advance_3, f_Ma_wouldWait_3, f_Ma_compute_3, f_Ma_moveNumbers_3, f_Ma_write_3, f_Ma_stop_3, f_Ma_rememberBefore_3, stC, xN, xV, f_Mo_result, g_up, reg_x, xn_x, g1, g2, g3, g4, g5, gw, ek, h0, xWr, hnr, hnm, hr4, hm4, xM_x]
    · simp (decide := true) [f_Ma_advance_3, f_Ma_wouldWait_3, f_Ma_compute_3, f_Ma_moveNumbers_3, f_Ma_write_3, f_Ma_stop_3, f_Ma_rememberBefore_3, stC, xN, xV, f_Mo_result, g_up, reg_x, xn_x, g1, g2, g3, g4, g5, gw, ek, h0, xWr, hnr, hnm, hr4, hm4, xM_x]
    · simp (decide := true) [f_Ma_advance_3, f_Ma_wouldWait_3, f_Ma_compute_3, f_Ma_moveNumbers_3, f_Ma_write_3, f_Ma_stop_3, f_Ma_rememberBefore_3, stC, xN, xV, f_Mo_result, g_up, reg_x, xn_x, g1, g2, g3, g4, g5, gw, ek, h0, xWr, hnr, hnm, hr4, hm4, xM_x]
    · intro a h3 h4
      funext b
      simp (decide := true) [f_Ma_advance_3, f_Ma_wouldWait_3, f_Ma_compute_3, f_Ma_moveNumbers_3, f_Ma_write_3, f_Ma_stop_3, f_Ma_rememberBefore_3, stC, xN, xV, f_Mo_result, g_up, reg_x, xn_x, g1, g2, g3, g4, g5, gw, ek, h0, xWr, hnr, hnm, hr4, hm4, xM_x, h3, h4]
  · intro h
    simp (decide := true) [f_Ma_advance_3, f_Ma_wouldWait_3, g1, g2, g5, gw, ek, (show ¬ x 268 = 0 from h.elim (fun z => z) (fun z => absurd z.1 (by decide)))]

set_option maxHeartbeats 1000000 in
theorem ad_3_15 (G : gT) (x I : Nat → Int32) (av w : Int32) (g1 : G 3 1 = x 264) (g2 : G 3 2 = x 265) (g3 : G 3 3 = x 266) (g4 : G 3 4 = x 267) (g5 : G 3 5 = x 268) (gn : ∀ i, i < 264 → G 4 i = x i) (gw : G 1 (x 264).toNatClampNeg = w) (v1 : vp_in (x 264) 64) (v2 : x 265 < av → vp_in (x 265) 200) (gi : x 265 < av → G 2 (x 265).toNatClampNeg = I (x 265).toNatClampNeg) (hr4 : ∀ p, G 4 (xR w p).toNatClampNeg = x (xR w p).toNatClampNeg) (hm4 : G 4 (xM w x).toNatClampNeg = x (xM w x).toNatClampNeg) (vr : ∀ p, vp_in (xR w p) 264) (vm : vp_in (xM w x) 264) (ek : g_ush w 28 = 15) : ok_Ma_advance_3 G av ∧ (x 268 = 0 → ¬ ((15 : Int32) = 8 ∧ ¬ x 265 < av) → ∃ G', f_Ma_advance_3 G av = (1, G') ∧ (∀ i, i < 269 → stC 3 4 G' i = xN 15 w I x i) ∧ G' 3 6 = xWr 15 w x ∧ (¬ xWr 15 w x = -1 → G' 3 7 = x (xWr 15 w x).toNatClampNeg) ∧ G' 3 8 = x 264 ∧ G' 3 9 = x 265 ∧ G' 3 10 = x 266 ∧ G' 3 11 = x 267 ∧ ∀ a, ¬ a = 3 → ¬ a = 4 → G' a = G a) ∧ ((¬ x 268 = 0 ∨ ((15 : Int32) = 8 ∧ ¬ x 265 < av)) → f_Ma_advance_3 G av = (0, G)) := by
  have hnr := xR_n w 24
  have hnm := xM_n w x
  refine ⟨?_, fun h0 hnw => ?_, ?_⟩
  · simp (decide := true) [ok_Ma_advance_3, ok_Ma_wouldWait_3, f_Ma_wouldWait_3, ok_Ma_compute_3, ok_Ma_moveNumbers_3, ok_Ma_write_3, f_Ma_rememberBefore_3, g_up, reg_x, xn_x, g1, g2, g3, g4, g5, gw, ek, v1, hr4, hm4, vr, vm, xM_x]
  · refine ⟨_, Prod.ext ?_ rfl, i_cases ?_ ?_ ?_ ?_ ?_ ?_, ?_, ?_, ?_, ?_, ?_, ?_, ?_⟩
    · simp (decide := true) [f_Ma_advance_3, f_Ma_wouldWait_3, g1, g2, g5, gw, ek, h0]
    · intro i hi
      simp (decide := true) [f_Ma_advance_3, f_Ma_wouldWait_3, f_Ma_compute_3, f_Ma_moveNumbers_3, f_Ma_write_3, f_Ma_stop_3, f_Ma_rememberBefore_3, stC, xN, xV, f_Mo_result, g_up, reg_x, xn_x, g1, g2, g3, g4, g5, gw, ek, h0, xWr, hnr, hnm, hr4, hm4, xM_x, hi, gn i hi]
    · simp (decide := true) [f_Ma_advance_3, f_Ma_wouldWait_3, f_Ma_compute_3, f_Ma_moveNumbers_3, f_Ma_write_3, f_Ma_stop_3, f_Ma_rememberBefore_3, stC, xN, xV, f_Mo_result, g_up, reg_x, xn_x, g1, g2, g3, g4, g5, gw, ek, h0, xWr, hnr, hnm, hr4, hm4, xM_x]
    · simp (decide := true) [f_Ma_advance_3, f_Ma_wouldWait_3, f_Ma_compute_3, f_Ma_moveNumbers_3, f_Ma_write_3, f_Ma_stop_3, f_Ma_rememberBefore_3, stC, xN, xV, f_Mo_result, g_up, reg_x, xn_x, g1, g2, g3, g4, g5, gw, ek, h0, xWr, hnr, hnm, hr4, hm4, xM_x]
    · simp (decide := true) [f_Ma_advance_3, f_Ma_wouldWait_3, f_Ma_compute_3, f_Ma_moveNumbers_3, f_Ma_write_3, f_Ma_stop_3, f_Ma_rememberBefore_3, stC, xN, xV, f_Mo_result, g_up, reg_x, xn_x, g1, g2, g3, g4, g5, gw, ek, h0, xWr, hnr, hnm, hr4, hm4, xM_x]
    · simp (decide := true) [f_Ma_advance_3, f_Ma_wouldWait_3, f_Ma_compute_3, f_Ma_moveNumbers_3, f_Ma_write_3, f_Ma_stop_3, f_Ma_rememberBefore_3, stC, xN, xV, f_Mo_result, g_up, reg_x, xn_x, g1, g2, g3, g4, g5, gw, ek, h0, xWr, hnr, hnm, hr4, hm4, xM_x]
    · simp (decide := true) [f_Ma_advance_3, f_Ma_wouldWait_3, f_Ma_compute_3, f_Ma_moveNumbers_3, f_Ma_write_3, f_Ma_stop_3, f_Ma_rememberBefore_3, stC, xN, xV, f_Mo_result, g_up, reg_x, xn_x, g1, g2, g3, g4, g5, gw, ek, h0, xWr, hnr, hnm, hr4, hm4, xM_x]
    · simp (decide := true) [f_Ma_advance_3, f_Ma_wouldWait_3, f_Ma_compute_3, f_Ma_moveNumbers_3, f_Ma_write_3, f_Ma_stop_3, f_Ma_rememberBefore_3, stC, xN, xV, f_Mo_result, g_up, reg_x, xn_x, g1, g2, g3, g4, g5, gw, ek, h0, xWr, hnr, hnm, hr4, hm4, xM_x]
    · simp (decide := true) [f_Ma_advance_3, f_Ma_wouldWait_3, f_Ma_compute_3, f_Ma_moveNumbers_3, f_Ma_write_3, f_Ma_stop_3, f_Ma_rememberBefore_3, stC, xN, xV, f_Mo_result, g_up, reg_x, xn_x, g1, g2, g3, g4, g5, gw, ek, h0, xWr, hnr, hnm, hr4, hm4, xM_x]
    · simp (decide := true) [f_Ma_advance_3, f_Ma_wouldWait_3, f_Ma_compute_3, f_Ma_moveNumbers_3, f_Ma_write_3, f_Ma_stop_3, f_Ma_rememberBefore_3, stC, xN, xV, f_Mo_result, g_up, reg_x, xn_x, g1, g2, g3, g4, g5, gw, ek, h0, xWr, hnr, hnm, hr4, hm4, xM_x]
    · simp (decide := true) [f_Ma_advance_3, f_Ma_wouldWait_3, f_Ma_compute_3, f_Ma_moveNumbers_3, f_Ma_write_3, f_Ma_stop_3, f_Ma_rememberBefore_3, stC, xN, xV, f_Mo_result, g_up, reg_x, xn_x, g1, g2, g3, g4, g5, gw, ek, h0, xWr, hnr, hnm, hr4, hm4, xM_x]
    · simp (decide := true) [f_Ma_advance_3, f_Ma_wouldWait_3, f_Ma_compute_3, f_Ma_moveNumbers_3, f_Ma_write_3, f_Ma_stop_3, f_Ma_rememberBefore_3, stC, xN, xV, f_Mo_result, g_up, reg_x, xn_x, g1, g2, g3, g4, g5, gw, ek, h0, xWr, hnr, hnm, hr4, hm4, xM_x]
    · simp (decide := true) [f_Ma_advance_3, f_Ma_wouldWait_3, f_Ma_compute_3, f_Ma_moveNumbers_3, f_Ma_write_3, f_Ma_stop_3, f_Ma_rememberBefore_3, stC, xN, xV, f_Mo_result, g_up, reg_x, xn_x, g1, g2, g3, g4, g5, gw, ek, h0, xWr, hnr, hnm, hr4, hm4, xM_x]
    · intro a h3 h4
      funext b
      simp (decide := true) [f_Ma_advance_3, f_Ma_wouldWait_3, f_Ma_compute_3, f_Ma_moveNumbers_3, f_Ma_write_3, f_Ma_stop_3, f_Ma_rememberBefore_3, stC, xN, xV, f_Mo_result, g_up, reg_x, xn_x, g1, g2, g3, g4, g5, gw, ek, h0, xWr, hnr, hnm, hr4, hm4, xM_x, h3, h4]
  · intro h
    simp (decide := true) [f_Ma_advance_3, f_Ma_wouldWait_3, g1, g2, g5, gw, ek, (show ¬ x 268 = 0 from h.elim (fun z => z) (fun z => absurd z.1 (by decide)))]

set_option maxHeartbeats 4000000 in
theorem ad_3 (G : gT) (x P I : Nat → Int32) (av w : Int32) (hx : ∀ i, i < 269 → stC 3 4 G i = x i) (hP : ∀ j, j < 64 → G 1 j = P j) (hI : ∀ j, j < 200 → G 2 j = I j) (hp : ∃ k, k < 64 ∧ x 264 = nI k) (ht : ∃ k, k ≤ 200 ∧ x 265 = nI k) (ha : ∃ a, a ≤ 200 ∧ av = nI a) (hw : P (x 264).toNatClampNeg = w) :
    ok_Ma_advance_3 G av ∧ (x 268 = 0 → ¬ (g_ush w 28 = 8 ∧ ¬ x 265 < av) → ∃ G', f_Ma_advance_3 G av = (1, G') ∧ (∀ i, i < 269 → stC 3 4 G' i = xN (g_ush w 28) w I x i) ∧ G' 3 6 = xWr (g_ush w 28) w x ∧ (¬ xWr (g_ush w 28) w x = -1 → G' 3 7 = x (xWr (g_ush w 28) w x).toNatClampNeg) ∧ G' 3 8 = x 264 ∧ G' 3 9 = x 265 ∧ G' 3 10 = x 266 ∧ G' 3 11 = x 267 ∧ ∀ a, ¬ a = 3 → ¬ a = 4 → G' a = G a) ∧
    ((¬ x 268 = 0 ∨ (g_ush w 28 = 8 ∧ ¬ x 265 < av)) → f_Ma_advance_3 G av = (0, G)) := by
  have g1 : G 3 1 = x 264 := hx 264 (by decide)
  have g2 : G 3 2 = x 265 := hx 265 (by decide)
  have g3 : G 3 3 = x 266 := hx 266 (by decide)
  have g4 : G 3 4 = x 267 := hx 267 (by decide)
  have g5 : G 3 5 = x 268 := hx 268 (by decide)
  have gn : ∀ i, i < 264 → G 4 i = x i := fun i hi => by have := hx i (by omega); unfold stC at this; rw [if_pos hi] at this; exact this
  obtain ⟨pk, hpk, ep⟩ := hp
  obtain ⟨tk, htk, et⟩ := ht
  obtain ⟨ak, hak, ea⟩ := ha
  have gw : G 1 (x 264).toNatClampNeg = w := by rw [← hw]; exact hP _ (by rw [ep, nI_clamp (by omega)]; exact hpk)
  have v1 : vp_in (x 264) 64 := by rw [ep]; exact vp_in_nI hpk (by decide)
  have v2 : x 265 < av → vp_in (x 265) 200 := fun h => by
    rw [et, ea] at h
    rw [et]; exact vp_in_nI (by have := (nI_ltI (by omega) (by omega)).mp h; omega) (by decide)
  have gi : x 265 < av → G 2 (x 265).toNatClampNeg = I (x 265).toNatClampNeg := fun h => hI _ (by
    rw [et, ea] at h
    have := (nI_ltI (by omega) (by omega)).mp h
    rw [et, nI_clamp (by omega)]; omega)
  have hr4 : ∀ p, G 4 (xR w p).toNatClampNeg = x (xR w p).toNatClampNeg := fun p => gn _ (by have := xR_c w p; omega)
  have hm4 : G 4 (xM w x).toNatClampNeg = x (xM w x).toNatClampNeg := gn _ (xM_c w x)
  have vr : ∀ p, vp_in (xR w p) 264 := fun p => xR_v w p 264 (by decide) (by decide)
  have vm := xM_v w x 264 (by decide) (by decide)
  refine k_cases (p := fun k => ok_Ma_advance_3 G av ∧ (x 268 = 0 → ¬ (k = 8 ∧ ¬ x 265 < av) → ∃ G', f_Ma_advance_3 G av = (1, G') ∧ (∀ i, i < 269 → stC 3 4 G' i = xN k w I x i) ∧ G' 3 6 = xWr k w x ∧ (¬ xWr k w x = -1 → G' 3 7 = x (xWr k w x).toNatClampNeg) ∧ G' 3 8 = x 264 ∧ G' 3 9 = x 265 ∧ G' 3 10 = x 266 ∧ G' 3 11 = x 267 ∧ ∀ a, ¬ a = 3 → ¬ a = 4 → G' a = G a) ∧ ((¬ x 268 = 0 ∨ (k = 8 ∧ ¬ x 265 < av)) → f_Ma_advance_3 G av = (0, G))) w (fun k hk ek => ?_)
  rcases (show k = 0 ∨ k = 1 ∨ k = 2 ∨ k = 3 ∨ k = 4 ∨ k = 5 ∨ k = 6 ∨ k = 7 ∨ k = 8 ∨ k = 9 ∨ k = 10 ∨ k = 11 ∨ k = 12 ∨ k = 13 ∨ k = 14 ∨ k = 15 by omega) with rfl | rfl | rfl | rfl | rfl | rfl | rfl | rfl | rfl | rfl | rfl | rfl | rfl | rfl | rfl | rfl
  · exact ad_3_0 G x I av w g1 g2 g3 g4 g5 gn gw v1 v2 gi hr4 hm4 vr vm ek
  · exact ad_3_1 G x I av w g1 g2 g3 g4 g5 gn gw v1 v2 gi hr4 hm4 vr vm ek
  · exact ad_3_2 G x I av w g1 g2 g3 g4 g5 gn gw v1 v2 gi hr4 hm4 vr vm ek
  · exact ad_3_3 G x I av w g1 g2 g3 g4 g5 gn gw v1 v2 gi hr4 hm4 vr vm ek
  · exact ad_3_4 G x I av w g1 g2 g3 g4 g5 gn gw v1 v2 gi hr4 hm4 vr vm ek
  · exact ad_3_5 G x I av w g1 g2 g3 g4 g5 gn gw v1 v2 gi hr4 hm4 vr vm ek
  · exact ad_3_6 G x I av w g1 g2 g3 g4 g5 gn gw v1 v2 gi hr4 hm4 vr vm ek
  · exact ad_3_7 G x I av w g1 g2 g3 g4 g5 gn gw v1 v2 gi hr4 hm4 vr vm ek
  · exact ad_3_8 G x I av w g1 g2 g3 g4 g5 gn gw v1 v2 gi hr4 hm4 vr vm ek
  · exact ad_3_9 G x I av w g1 g2 g3 g4 g5 gn gw v1 v2 gi hr4 hm4 vr vm ek
  · exact ad_3_10 G x I av w g1 g2 g3 g4 g5 gn gw v1 v2 gi hr4 hm4 vr vm ek
  · exact ad_3_11 G x I av w g1 g2 g3 g4 g5 gn gw v1 v2 gi hr4 hm4 vr vm ek
  · exact ad_3_12 G x I av w g1 g2 g3 g4 g5 gn gw v1 v2 gi hr4 hm4 vr vm ek
  · exact ad_3_13 G x I av w g1 g2 g3 g4 g5 gn gw v1 v2 gi hr4 hm4 vr vm ek
  · exact ad_3_14 G x I av w g1 g2 g3 g4 g5 gn gw v1 v2 gi hr4 hm4 vr vm ek
  · exact ad_3_15 G x I av w g1 g2 g3 g4 g5 gn gw v1 v2 gi hr4 hm4 vr vm ek
