/-! count (nx_xor stands in the kit's BITS to paste). -/
theorem nx_xor (a b : Nat) : nI a ^^^ nI b = nI (a ^^^ b) := by
  apply Int32.toBitVec_inj.1
  show BitVec.ofNat 32 a ^^^ BitVec.ofNat 32 b = BitVec.ofNat 32 (a ^^^ b)
  apply BitVec.eq_of_getLsbD_eq
  intro i hi
  simp [hi]
theorem rem_nI {t d : Nat} (ht : t < 2 ^ 31) (h0 : 0 < d) (hd : d < 2 ^ 31) : nI t - nI t / nI d * nI d = nI (t % d) := by
  rw [pk_div ht h0 hd, nI_mul, nI_sub (Nat.div_mul_le_self t d)]
  congr 1
  have := Nat.div_add_mod t d
  rw [Nat.mul_comm] at this
  omega
def mkF (d t : Nat) : Nat := (t + d - 1) / d
theorem mk_e (d t : Nat) (h : 1 ≤ d) : mkF d t = t / d + (if t % d = 0 then 0 else 1) := by
  have e := Nat.div_add_mod t d
  have hr := Nat.mod_lt t (show 0 < d by omega)
  rw [Nat.mul_comm] at e
  unfold mkF
  split
  · apply Nat.div_eq_of_lt_le
    · rw [Nat.add_zero]; omega
    · rw [Nat.add_zero, Nat.succ_mul]; omega
  · apply Nat.div_eq_of_lt_le
    · rw [Nat.succ_mul]; omega
    · rw [Nat.succ_mul, Nat.succ_mul]; omega
theorem mk_s (d t : Nat) (h : 1 ≤ d) : mkF d (t + 1) = mkF d t + (if t % d = 0 then 1 else 0) := by
  have e1 : mkF d (t + 1) = t / d + 1 := by
    unfold mkF
    rw [show t + 1 + d - 1 = t + d by omega, Nat.add_div_right _ (by omega)]
  rw [e1, mk_e d t h]
  split <;> omega
theorem mk_mono (d a b : Nat) (h : a ≤ b) : mkF d a ≤ mkF d b := Nat.div_le_div_right (by omega)
theorem cnt_loop (N : Nat) (p1 : Int32) (G : gT) (nw d : Nat) (hnw : nw < 2 ^ 29) (hd : 1 ≤ d) (hd2 : d ≤ 64) (h11 : G 16 11 = nI nw) (h2 : G 16 2 = nI d) : ∀ (n j t s : Nat), j < n → t + j = nw + 1 →
    ok_Mo_count_L120 N n G p1 (nI s) (nI t) ∧ f_Mo_count_L120 N n G p1 (nI s) (nI t) = (nI (s + (mkF d (nw + 1) - mkF d t)), G) := by
  intro n
  induction n with
  | zero => intro j t s h; omega
  | succ n ih =>
    intro j t s hj ht
    have d0 : ¬ G 16 2 = 0 := by rw [h2]; exact nI_ne0 (by omega) (by omega)
    cases j with
    | zero =>
      have c1 : G 16 11 < nI t := by rw [h11]; exact nI_lt (by omega) (by omega)
      refine ⟨⟨fun _ => trivial, fun q => absurd c1 q⟩, ?_⟩
      rw [f_Mo_count_L120, if_pos c1, show t = nw + 1 by omega, Nat.sub_self]; rfl
    | succ j =>
      have c1 : ¬ G 16 11 < nI t := by rw [h11]; exact nI_nlt (by omega) (by omega)
      have hm := mk_s d t hd
      have hmm := mk_mono d (t + 1) (nw + 1) (by omega)
      have er : nI t - nI t / G 16 2 * G 16 2 = nI (t % d) := by rw [h2]; exact rem_nI (by omega) (by omega) (by omega)
      have hz : nI (t % d) = 0 ↔ t % d = 0 := by
        rw [← nI_0]; exact nI_eq (by have := Nat.mod_lt t (show 0 < d by omega); omega) (by decide)
      by_cases q : t % d = 0
      · obtain ⟨i1, i2⟩ := ih j (t + 1) (s + 1) (by omega) (by omega)
        rw [if_pos q] at hm
        have q' : nI t - nI t / G 16 2 * G 16 2 = 0 := by rw [er]; exact hz.mpr q
        refine ⟨⟨fun z => absurd z c1, fun _ => ⟨d0, fun _ => by rw [nI_1, nI_1]; exact i1, fun z => absurd q' z⟩⟩, ?_⟩
        rw [f_Mo_count_L120, if_neg c1, if_pos q', nI_1, nI_1, i2, show s + 1 + (mkF d (nw + 1) - mkF d (t + 1)) = s + (mkF d (nw + 1) - mkF d t) by omega]
      · obtain ⟨i1, i2⟩ := ih j (t + 1) s (by omega) (by omega)
        rw [if_neg q] at hm
        have q' : ¬ nI t - nI t / G 16 2 * G 16 2 = 0 := by rw [er]; exact fun z => q (hz.mp z)
        refine ⟨⟨fun z => absurd z c1, fun _ => ⟨d0, fun z => absurd z q', fun _ => by rw [Int32.add_zero, nI_1]; exact i1⟩⟩, ?_⟩
        rw [f_Mo_count_L120, if_neg c1, if_neg q', Int32.add_zero, nI_1, i2, show mkF d (t + 1) = mkF d t by omega]
theorem fd_nn (G : gT) (a d : Nat) (ha : a < 2 ^ 30) (h0 : 1 ≤ d) (hd : d ≤ 64) : f_Mt_floorDiv G (nI a) (nI d) = nI (a / d) := by
  unfold f_Mt_floorDiv
  have : (0 : Int32) ≤ nI a ^^^ nI d := by
    rw [nx_xor]
    exact nI_pos' (Nat.xor_lt_two_pow (by omega) (by omega))
  rw [if_pos this, pk_div (by omega) (by omega) (by omega)]
theorem fd_m1 (G : gT) (d : Nat) (h0 : 1 ≤ d) (hd : d ≤ 64) : f_Mt_floorDiv G (-1) (nI d) = -1 := by
  have : ∀ d, d < 65 → 1 ≤ d → f_Mt_floorDiv (fun _ _ => 0) (-1) (nI d) = -1 := by decide +kernel
  exact this d (by omega) h0
theorem marks_e (G : gT) (nw od d : Nat) (hnw : nw < 2 ^ 29) (ho : od ≤ nw) (h0 : 1 ≤ d) (hd : d ≤ 64) (h1 : G 7 1 = nI nw) (h2 : G 7 2 = nI od) (h3 : G 0 0 = nI d) : f_BS_marksKept G = nI (mkF d (nw + 1) - mkF d od) := by
  unfold f_BS_marksKept
  rw [h1, h2, h3, fd_nn G nw d (by omega) h0 hd]
  have e1 : mkF d (nw + 1) = nw / d + 1 := by
    unfold mkF
    rw [show nw + 1 + d - 1 = nw + d by omega, Nat.add_div_right _ (by omega)]
  cases od with
  | zero =>
    have : mkF d 0 = 0 := by unfold mkF; exact Nat.div_eq_of_lt (by omega)
    rw [show nI 0 - 1 = -1 from by decide, fd_m1 G d h0 hd, e1, this, Nat.sub_zero, Int32.sub_neg, nI_1]
  | succ od =>
    have e2 : mkF d (od + 1) = od / d + 1 := by
      unfold mkF
      rw [show od + 1 + d - 1 = od + d by omega, Nat.add_div_right _ (by omega)]
    have hle : od / d ≤ nw / d := Nat.div_le_div_right (by omega)
    rw [nI_s1, fd_nn G od d (by omega) h0 hd, e1, e2, nI_sub hle, show nw / d + 1 - (od / d + 1) = nw / d - od / d by omega]
theorem op_count (N : Nat) (hNN : 2001 ≤ N) (T : Nat) (hT : T < 2 ^ 29) (G : gT) (p1 : Int32) (h : Rl T G) : ok_BS_count G p1 ∧ ok_Mo_count N G p1 ∧ f_BS_count G p1 = (f_Mo_count N G p1).1 ∧ Rl T (f_Mo_count N G p1).2 := by
  have h0 := h
  obtain ⟨P, I, gv, rm, d, ⟨nw, od, go, st, co, wr⟩, a, b, c, m⟩ := h
  have hlen := av_len a
  have b : nw ≤ T := b
  obtain ⟨h1, h2, h3, h4, h5, h6, h7, h8, h9, h10⟩ := a
  obtain ⟨r1, r2, r3, r4, r5, r6, r7, r8, r9, r10, r11⟩ := c
  obtain ⟨m1, m2, m3, m4, m5, m6, m7, m8, m9, m10⟩ := m
  obtain ⟨⟨pk, hpk, ep⟩, ⟨tk, htk, et⟩⟩ := h9 nw h1 (Nat.le_refl _)
  have g31 : G 3 1 = st nw 264 := r10 264 (by decide)
  have g32 : G 3 2 = st nw 265 := r10 265 (by decide)
  have g35 : G 3 5 = st nw 268 := r10 268 (by decide)
  have d0 : ¬ nI d = 0 := nI_ne0 (by omega) (by omega)
  have vpl : vp_in (G 3 1) 64 := by rw [g31, ep]; exact vp_in_nI hpk (by decide)
  have okc : ok_BS_count G p1 := ⟨fun _ => trivial, fun _ => ⟨fun _ => trivial, fun _ => ⟨fun _ => trivial, fun _ => ⟨fun _ => trivial, fun _ => ⟨fun _ => trivial, fun _ => ⟨fun _ => ⟨⟨⟨by rw [r4]; exact d0, trivial⟩, ⟨by rw [r4]; exact d0, trivial⟩, trivial⟩, trivial⟩, fun _ => ⟨fun _ => ⟨⟨⟨fun _ => ⟨vpl, trivial⟩, fun _ => trivial⟩, trivial⟩, trivial⟩, fun _ => trivial⟩⟩⟩⟩⟩⟩⟩
  obtain ⟨a1, a2⟩ := all_costs N (by omega) (g_up G 16 0 0) nw od co (by omega) (by simp [g_up, m6]) (by simp [g_up, m7]) h1 (by omega) (fun u x y => (m10 u x y).1)
  obtain ⟨l1, l2⟩ := cnt_loop N p1 (g_up G 16 0 0) nw d (by omega) h4 h5 (by simp [g_up, m6]) (by simp [g_up, m4]) N (nw + 1 - od) od 0 (by omega) (by omega)
  rw [nI_0, Nat.zero_add] at l2
  rw [nI_0] at l1
  have vw : ok_Mo_waits (g_up G 16 0 0) := ⟨by show vp_in (G 19 264) 64; rw [m9 264 (by decide), ep]; exact vp_in_nI hpk (by decide), trivial⟩
  have okm : ok_Mo_count N G p1 := ⟨fun _ => trivial, fun _ => ⟨fun _ => ⟨fun _ => ⟨fun _ => ⟨fun _ => ⟨vw, trivial⟩, fun _ => trivial⟩, fun _ => by rw [m7]; exact l1⟩, fun _ => trivial⟩, fun _ => ⟨fun _ => trivial, fun _ => ⟨fun _ => trivial, fun _ => ⟨a1, trivial⟩⟩⟩⟩⟩
  refine ⟨okc, okm, ?_⟩
  have out : f_Mo_within (g_up G 16 0 0) p1 0 6 = 0 → f_BS_count G p1 = -1 → f_BS_count G p1 = (f_Mo_count N G p1).1 ∧ Rl T (f_Mo_count N G p1).2 := fun w e => by
    have e2 : f_Mo_count N G p1 = (-1, g_up G 16 0 0) := by unfold f_Mo_count; rw [if_pos w]
    rw [e, e2]; exact ⟨rfl, Rl_th h0 0⟩
  rcases rng p1 7 (by decide) with q | ⟨j, hj, rfl⟩ | ⟨q1, q2⟩
  · refine out (wi_lo _ _ _ _ q) ?_
    have n : ∀ k : Int32, ¬ k < 0 → ¬ p1 = k := fun k hk e => hk (e ▸ q)
    unfold f_BS_count
    rw [if_neg (n 0 (by decide)), if_neg (n 1 (by decide)), if_neg (n 2 (by decide)), if_neg (n 3 (by decide)), if_neg (n 4 (by decide)), if_neg (n 5 (by decide)), if_neg (n 6 (by decide))]
  · have w : ¬ f_Mo_within (g_up G 16 0 0) (nI j) 0 6 = 0 := by rw [wi_1 (g_up G 16 0 0) (nI j) 0 6 (nI_pos (by omega)) (show ¬ (6 : Int32) < nI j from nI_nlt (a := 6) (by omega) (by decide))]; exact ne10
    rcases (show j = 0 ∨ j = 1 ∨ j = 2 ∨ j = 3 ∨ j = 4 ∨ j = 5 ∨ j = 6 by omega) with rfl | rfl | rfl | rfl | rfl | rfl | rfl
    · have e : f_BS_count G (nI 0) = nI nw := by unfold f_BS_count; rw [if_pos (by decide)]; exact r6
      have e2 : f_Mo_count N G (nI 0) = (nI nw, g_up G 16 0 0) := by unfold f_Mo_count; rw [if_neg w, if_neg (by decide), if_pos (by decide), m6]
      rw [e, e2]; exact ⟨rfl, Rl_th h0 0⟩
    · have e : f_BS_count G (nI 1) = nI od := by unfold f_BS_count; rw [if_neg (by decide), if_pos (by decide)]; exact r7
      have e2 : f_Mo_count N G (nI 1) = (nI od, g_up G 16 0 0) := by unfold f_Mo_count; rw [if_neg w, if_neg (by decide), if_neg (by decide), if_pos (by decide), m7]
      rw [e, e2]; exact ⟨rfl, Rl_th h0 0⟩
    · have e : f_BS_count G (nI 2) = nI (sumc co od (nw - od)) := by unfold f_BS_count; rw [if_neg (by decide), if_neg (by decide), if_pos (by decide)]; exact r8
      have e2 : f_Mo_count N G (nI 2) = (nI (sumc co od (nw - od)), g_up G 16 0 0) := by unfold f_Mo_count; rw [if_neg w, if_neg (by decide), if_neg (by decide), if_neg (by decide), a2]
      rw [e, e2]; exact ⟨rfl, Rl_th h0 0⟩
    · have e : f_BS_count G (nI 3) = go := by unfold f_BS_count; rw [if_neg (by decide), if_neg (by decide), if_neg (by decide), if_pos (by decide)]; exact r9
      have e2 : f_Mo_count N G (nI 3) = (go, g_up G 16 0 0) := by unfold f_Mo_count; rw [if_neg w, if_pos (by decide), if_neg (by decide), if_pos (by decide), m8]
      rw [e, e2]; exact ⟨rfl, Rl_th h0 0⟩
    · have e : f_BS_count G (nI 4) = nI gv := by unfold f_BS_count; rw [if_neg (by decide), if_neg (by decide), if_neg (by decide), if_neg (by decide), if_pos (by decide)]; exact r3
      have e2 : f_Mo_count N G (nI 4) = (nI gv, g_up G 16 0 0) := by unfold f_Mo_count; rw [if_neg w, if_pos (by decide), if_neg (by decide), if_neg (by decide), m3]
      rw [e, e2]; exact ⟨rfl, Rl_th h0 0⟩
    · have e : f_BS_count G (nI 5) = nI (mkF d (nw + 1) - mkF d od) := by unfold f_BS_count; rw [if_neg (by decide), if_neg (by decide), if_neg (by decide), if_neg (by decide), if_neg (by decide), if_pos (by decide)]; exact marks_e G nw od d (by omega) h1 h4 h5 r6 r7 r4
      have e2 : f_Mo_count N G (nI 5) = (nI (mkF d (nw + 1) - mkF d od), g_up G 16 0 0) := by unfold f_Mo_count; rw [if_neg w, if_pos (by decide), if_pos (by decide), if_neg (by decide), m7]; exact l2
      rw [e, e2]; exact ⟨rfl, Rl_th h0 0⟩
    · have e : f_BS_count G (nI 6) = f_BS_state G := by unfold f_BS_count; rw [if_neg (by decide), if_neg (by decide), if_neg (by decide), if_neg (by decide), if_neg (by decide), if_neg (by decide), if_pos (by decide)]
      have e2 : f_Mo_count N G (nI 6) = (if (G 19 268) ≤ 0 then (if (f_Mo_waits (g_up G 16 0 0)) = 0 then (0, (g_up G 16 0 0)) else (3, (g_up G 16 0 0))) else ((G 19 268), (g_up G 16 0 0))) := by unfold f_Mo_count; rw [if_neg w, if_pos (by decide), if_pos (by decide), if_pos (by decide)]
      have hcl : (st nw 264).toNatClampNeg < 64 := by rw [ep, nI_clamp (by omega)]; exact hpk
      have ew : f_Mo_waits (g_up G 16 0 0) = if g_ush (P (st nw 264).toNatClampNeg) 28 = 8 then (if nI tk = nI gv then 1 else 0) else 0 := by
        show (if f_Mo_kindOf (g_up G 16 0 0) (G 17 (G 19 264).toNatClampNeg) = 8 then (if G 19 265 = G 16 4 then (1 : Int32) else 0) else 0) = _
        rw [m9 264 (by decide), m9 265 (by decide), m3, et, m1 _ hcl]; rfl
      have ec : f_Ma_wouldWait_3 G (G 0 3) = if st nw 268 = 0 then (if g_ush (P (st nw 264).toNatClampNeg) 28 = 8 then (if nI tk < nI gv then 0 else 1) else 0) else 0 := by
        unfold f_Ma_wouldWait_3
        rw [g35, g31, g32, r3, et, r1 _ hcl]
      rw [e, e2]
      unfold f_BS_state
      rw [ec, ew, g35, m9 268 (by decide)]
      by_cases z : st nw 268 = 0
      · rw [if_pos z, if_pos (show st nw 268 ≤ 0 by rw [z]; decide)]
        by_cases y : g_ush (P (st nw 264).toNatClampNeg) 28 = 8
        · rw [if_pos y, if_pos y]
          by_cases x : tk = gv
          · rw [if_neg (show ¬ nI tk < nI gv from nI_nlt (by omega) (by omega)), if_neg ne10, if_pos (show nI tk = nI gv by rw [x]), if_neg ne10]
            exact ⟨rfl, Rl_th h0 0⟩
          · rw [if_pos (show nI tk < nI gv from nI_lt (by omega) (by omega)), if_pos rfl, if_neg (fun e => x ((nI_eq (by omega) (by omega)).mp e)), if_pos rfl]
            exact ⟨z, Rl_th h0 0⟩
        · rw [if_neg y, if_neg y, if_pos rfl, if_pos rfl]
          exact ⟨z, Rl_th h0 0⟩
      · have n : ¬ st nw 268 ≤ 0 := by
          rcases h10 with q | q | q
          · exact absurd q z
          · rw [q]; decide
          · rw [q]; decide
        rw [if_neg z, if_pos rfl, if_neg n]
        exact ⟨rfl, Rl_th h0 0⟩
  · refine out (wi_hi _ _ _ _ (pred_lt 6 (by decide) p1 q2)) ?_
    have n : ∀ k : Int32, k < 7 → ¬ p1 = k := fun k hk e => q2 (e ▸ hk)
    unfold f_BS_count
    rw [if_neg (n 0 (by decide)), if_neg (n 1 (by decide)), if_neg (n 2 (by decide)), if_neg (n 3 (by decide)), if_neg (n 4 (by decide)), if_neg (n 5 (by decide)), if_neg (n 6 (by decide))]
