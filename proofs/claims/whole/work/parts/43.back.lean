theorem forget_loop (co : Nat → Nat) (od tm : Nat) (ho : od ≤ tm) : ∀ (n j : Nat) (G : gT), j < n → tm + j < 2 ^ 29 → G 7 1 = nI (tm + j) → G 7 3 = nI (sumc co od (tm + j - od)) → (∀ t, od ≤ t → t < tm + j → G 8 (t % 1024) = nI (co t)) →
    ok_Ro_forgetBehind_L0 n G (nI tm) ∧ f_Ro_forgetBehind_L0 n G (nI tm) 7 1 = nI tm ∧ f_Ro_forgetBehind_L0 n G (nI tm) 7 3 = nI (sumc co od (tm - od)) ∧ (∀ b, ¬ b = 1 → ¬ b = 3 → f_Ro_forgetBehind_L0 n G (nI tm) 7 b = G 7 b) ∧ ∀ a, ¬ a = 7 → f_Ro_forgetBehind_L0 n G (nI tm) a = G a := by
  intro n
  induction n with
  | zero => intro j G h; omega
  | succ n ih =>
    intro j G hj ht h1 h3 h8
    cases j with
    | zero =>
      have c1 : G 7 1 ≤ nI tm := by rw [h1]; exact nI_le (by omega) (by omega)
      have e : f_Ro_forgetBehind_L0 (n + 1) G (nI tm) = G := by rw [f_Ro_forgetBehind_L0, if_pos c1]
      rw [e]
      exact ⟨⟨fun _ => trivial, fun q => absurd c1 q⟩, h1, h3, fun _ _ _ => rfl, fun _ _ => rfl⟩
    | succ j =>
      have c1 : ¬ G 7 1 ≤ nI tm := by rw [h1]; exact nI_ge (by omega) (by omega)
      have s1 : G 7 1 - 1 = nI (tm + j) := by rw [h1, ← Nat.add_assoc, nI_s1]
      have c2 : ∀ G', (f_Ro_slot G' (nI (tm + j))).toNatClampNeg = (tm + j) % 1024 := fun G' => c_ro G' _
      have hv := h8 (tm + j) (by omega) (by omega)
      have e3 : G 7 3 - G 8 ((tm + j) % 1024) = nI (sumc co od (tm + j - od)) := by
        rw [hv, h3, show tm + (j + 1) - od = (tm + j - od) + 1 by omega]
        show nI (sumc co od (tm + j - od) + co (od + (tm + j - od))) - _ = _
        rw [show od + (tm + j - od) = tm + j by omega, nI_sub (by omega), Nat.add_sub_cancel]
      obtain ⟨i1, i2, i3, i4, i5⟩ := ih j (g_up (g_up G 7 1 (nI (tm + j))) 7 3 (nI (sumc co od (tm + j - od)))) (by omega) (by omega) (by simp [g_up]) (by simp [g_up]) (fun t a b => by simp only [g_up]; exact h8 t a (by omega))
      have e : f_Ro_forgetBehind_L0 (n + 1) G (nI tm) = f_Ro_forgetBehind_L0 n (g_up (g_up G 7 1 (nI (tm + j))) 7 3 (nI (sumc co od (tm + j - od)))) (nI tm) := by
        rw [f_Ro_forgetBehind_L0, if_neg c1, s1, c2, e3]
      rw [e]
      refine ⟨⟨fun z => absurd z c1, fun _ => ?_⟩, i2, i3, fun b x y => (i4 b x y).trans (by simp [g_up, x, y]), fun a x => (i5 a x).trans (by funext b; simp [g_up, x])⟩
      rw [s1, c2, e3]
      exact ⟨v_ro _ _, i1⟩
theorem st_at (G : gT) (st : Nat → Nat → Int32) (co : Nat → Nat) (wr : Nat → Int32) (od nw : Nat) (hnw : nw < 2 ^ 29) (h11 : G 16 11 = nI nw) (hM : Ms st co wr od nw G) (t i : Nat) (h1 : od ≤ t) (h2 : t ≤ nw) (hi : i < 269) (h19 : t = nw → G 19 i = st nw i) :
    ok_Mo_stateAt G (nI t) (nI i) ∧ f_Mo_stateAt G (nI t) (nI i) = st t i := by
  unfold ok_Mo_stateAt f_Mo_stateAt
  rw [h11]
  by_cases z : t = nw
  · subst z
    refine ⟨⟨fun _ => ⟨vp_in_nI hi (by decide), trivial⟩, fun q => absurd rfl q⟩, ?_⟩
    rw [if_pos rfl, nI_clamp (by omega)]
    exact h19 rfl
  · have q : ¬ nI t = nI nw := fun w => z ((nI_eq (by omega) (by omega)).mp w)
    refine ⟨⟨fun w => absurd w q, fun _ => ⟨ix_v G (by omega) hi, trivial⟩⟩, ?_⟩
    rw [if_neg q, ix_c G (by omega) hi]
    exact (hM t h1 (by omega)).2.2 i hi
theorem back_loop (st : Nat → Nat → Int32) (co : Nat → Nat) (wr : Nat → Int32) (od nw tm : Nat) (x2 : Int32) (hnw : nw < 2 ^ 29) (h1 : od ≤ tm) (h2 : tm ≤ nw) : ∀ (n i : Nat) (G : gT), 269 - i < n → i ≤ 269 → G 16 11 = nI nw → Ms st co wr od nw G → (∀ k, k < i → G 19 k = st tm k) → (∀ k, i ≤ k → k < 269 → G 19 k = st nw k) →
    ok_Mo_back_L28 n G (nI tm) x2 (nI i) ∧ ∃ G1, f_Mo_back_L28 n G (nI tm) x2 (nI i) = (x2, G1) ∧ (∀ k, k < 269 → G1 19 k = st tm k) ∧ G1 16 11 = nI tm ∧ (∀ b, ¬ b = 11 → G1 16 b = G 16 b) ∧ ∀ a, ¬ a = 16 → ¬ a = 19 → G1 a = G a := by
  intro n
  induction n with
  | zero => intro i G h; omega
  | succ n ih =>
    intro i G hn hi h11 hM hlo hhi
    by_cases z : i = 269
    · subst z
      have c1 : (269 : Int32) ≤ nI 269 := by decide
      exact ⟨⟨fun _ => trivial, fun q => absurd c1 q⟩, g_up G 16 11 (nI tm), by rw [f_Mo_back_L28, if_pos c1], fun k hk => by simp only [g_up]; exact hlo k hk, by simp [g_up], fun b hb => by simp [g_up, hb], fun a x y => by funext b; simp [g_up, x]⟩
    · have hlt : i < 269 := by omega
      have c1 : ¬ (269 : Int32) ≤ nI i := nI_ge (a := i) (b := 269) hlt (by decide)
      obtain ⟨s1, s2⟩ := st_at G st co wr od nw hnw h11 hM tm i h1 h2 hlt (fun _ => hhi i (Nat.le_refl _) hlt)
      have cl : (nI i).toNatClampNeg = i := nI_clamp (by omega)
      obtain ⟨i1, G1, i2, i3, i4, i5, i6⟩ := ih (i + 1) (g_up G 19 i (st tm i)) (by omega) (by omega) (by simp [g_up, h11]) (fun t a b => by simp only [g_up]; exact hM t a b) (fun k hk => by
        by_cases w : k = i
        · simp [g_up, w]
        · simp [g_up, w, hlo k (by omega)]) (fun k a b => by simp [g_up, show ¬ k = i by omega, hhi k (by omega) b])
      refine ⟨⟨fun w => absurd w c1, fun _ => ⟨s1, vp_in_nI hlt (by decide), by rw [s2, cl, nI_1]; exact i1⟩⟩, G1, by rw [f_Mo_back_L28, if_neg c1, s2, cl, nI_1]; exact i2, i3, i4, fun b hb => (i5 b hb).trans (by simp [g_up]), fun a x y => (i6 a x y).trans (by funext b; simp [g_up, y])⟩
/-- a time is kept, or not: class and reference say the same -/
theorem kept_c (G : gT) (p1 : Int32) (od nw : Nat) (ho : od ≤ nw) (hnw : nw < 2 ^ 29) (h1 : G 7 1 = nI nw) (h2 : G 7 2 = nI od) : (∃ t, od ≤ t ∧ t ≤ nw ∧ p1 = nI t ∧ f_BS_checkTime G p1 = 0 ∧ ∀ G', f_Mo_within G' p1 (nI od) (nI nw) = 1) ∨ (f_BS_checkTime G p1 = 1 ∧ ∀ G', f_Mo_within G' p1 (nI od) (nI nw) = 0) := by
  unfold f_BS_checkTime
  rw [h1, h2]
  by_cases q : p1 < nI od
  · exact Or.inr ⟨if_pos q, fun G' => wi_lo G' _ _ _ q⟩
  · by_cases q2 : p1 ≤ nI nw
    · have q0 : ¬ p1 < 0 := fun z => q (by rw [Int32.lt_iff_toInt_lt] at z ⊢; rw [nI_toInt (by omega)]; rw [Int32.toInt_zero] at z; omega)
      obtain ⟨t, ht, rfl⟩ := nI_of q0
      refine Or.inl ⟨t, ?_, (nI_leI (by omega) (by omega)).mp q2, rfl, by rw [if_neg q, if_pos q2], fun G' => wi_1 G' _ _ _ q (Int32.not_lt.mpr q2)⟩
      exact Nat.not_lt.mp fun z => q ((nI_ltI (by omega) (by omega)).mpr z)
    · exact Or.inr ⟨by rw [if_neg q, if_neg q2], fun G' => wi_hi G' _ _ _ (Int32.not_le.mp q2)⟩
theorem op_back (N : Nat) (hNN : 2001 ≤ N) (T : Nat) (hT : T < 2 ^ 29) (G : gT) (p1 : Int32) (h : Rl T G) : ok_BS_back N G p1 ∧ ok_Mo_back N (f_BS_back N G p1).2.2 p1 ∧ f_Mo_thrown (f_Mo_back N (f_BS_back N G p1).2.2 p1).2 = kx1 (f_BS_back N G p1).1 ∧ ((f_BS_back N G p1).1 = 0 → (f_BS_back N G p1).2.1 = (f_Mo_back N (f_BS_back N G p1).2.2 p1).1) ∧ Rl T (f_Mo_back N (f_BS_back N G p1).2.2 p1).2 := by
  have h0 := h
  obtain ⟨P, I, gv, rm, d, ⟨nw, od, go, st, co, wr⟩, a, b, c, m⟩ := h
  have hlen := av_len a
  have b : nw ≤ T := b
  obtain ⟨h1, h2, h3, h4, h5, h6, h7, h8, h9, h10⟩ := a
  obtain ⟨r1, r2, r3, r4, r5, r6, r7, r8, r9, r10, r11⟩ := c
  obtain ⟨m1, m2, m3, m4, m5, m6, m7, m8, m9, m10⟩ := m
  rcases kept_c G p1 od nw h1 (by omega) r6 r7 with ⟨tm, t1, t2, rfl, k1, k2⟩ | ⟨k1, k2⟩
  · obtain ⟨u1, u2, u3⟩ := undo_loop_3 st co wr od nw tm h8 t1 (by omega) N (nw - tm) G (by omega) (by omega) r11 (by rw [show tm + (nw - tm) = nw by omega]; exact r10)
    rw [show tm + (nw - tm) = nw by omega] at u1 u2 u3
    have eu : f_Ro_undoDownTo_3 N G (nI tm) = f_Ro_undoDownTo_3_L5 N G (nI tm) (nI nw) := by unfold f_Ro_undoDownTo_3; rw [r6]
    generalize hU : f_Ro_undoDownTo_3_L5 N G (nI tm) (nI nw) = U at u2 u3 eu
    have hR : Rws st co wr od nw U := Rws_fr r11 (fun a x y => u3 a (by omega) (by omega))
    obtain ⟨w1, w2, w3, w4, w5⟩ := forget_loop co od tm t1 N (nw - tm) U (by omega) (by omega) (by rw [u3 7 (by decide) (by decide), r6, show tm + (nw - tm) = nw by omega]) (by rw [u3 7 (by decide) (by decide), r8, show tm + (nw - tm) = nw by omega]) (fun t x y => (hR t x (by omega)).1)
    have ef : f_Ro_forgetBehind N U (nI tm) = f_Ro_forgetBehind_L0 N U (nI tm) := rfl
    generalize hV : f_Ro_forgetBehind_L0 N U (nI tm) = V at w2 w3 w4 w5 ef
    have e : f_BS_back N G (nI tm) = (0, nI (nw - tm), V) := by
      unfold f_BS_back; rw [if_pos k1, eu, ef, r6, nI_sub t2]
    rw [e]
    have V16 : ∀ a, 16 ≤ a → V a = G a := fun a ha => by rw [w5 a (by omega), u3 a (by omega) (by omega)]
    have g16 : ∀ b, ¬ b = 0 → g_up V 16 0 0 16 b = G 16 b := fun b hb => by
      have := congrFun (V16 16 (by decide)) b
      simp [g_up, hb, this]
    have ga : ∀ a, 17 ≤ a → g_up V 16 0 0 a = G a := fun a ha => by
      funext b
      have := congrFun (V16 a (by omega)) b
      simp [g_up, show ¬ a = 16 by omega, this]
    obtain ⟨x1, G1, x2, x3, x4, x5, x6⟩ := back_loop st co wr od nw tm (nI (nw - tm)) (by omega) t1 t2 N 0 (g_up V 16 0 0) (by omega) (by omega) (by rw [g16 11 (by decide)]; exact m6) (fun t x y => by rw [ga 22 (by decide), ga 23 (by decide), ga 21 (by decide)]; exact m10 t x y) (fun k hk => by omega) (fun k _ hk => by rw [ga 19 (by decide)]; exact m9 k hk)
    have kk : ¬ f_Mo_isKept (g_up V 16 0 0) (nI tm) = 0 := by
      unfold f_Mo_isKept
      rw [g16 12 (by decide), g16 11 (by decide), m6, m7, k2]; exact ne10
    have v11 : V 16 11 = nI nw := by rw [V16 16 (by decide)]; exact m6
    have e2 : f_Mo_back N V (nI tm) = (nI (nw - tm), G1) := by
      unfold f_Mo_back; rw [if_neg kk, v11, nI_sub t2, ← nI_0]; exact x2
    show _ ∧ ok_Mo_back N V (nI tm) ∧ f_Mo_thrown (f_Mo_back N V (nI tm)).2 = _ ∧ (_ → nI (nw - tm) = (f_Mo_back N V (nI tm)).1) ∧ Rl T (f_Mo_back N V (nI tm)).2
    rw [e2]
    refine ⟨⟨fun _ => ⟨by unfold ok_Ro_undoDownTo_3; rw [r6]; exact u1, by rw [eu]; exact w1, trivial⟩, trivial⟩, ⟨fun z => absurd z kk, fun _ => by rw [v11, nI_sub t2, ← nI_0]; exact x1⟩, ?_, fun _ => rfl, P, I, gv, rm, d, (tm, od, go, st, co, wr), ?_, (show tm ≤ T by omega), ?_, ?_⟩
    · show G1 16 0 = kx1 0
      rw [x5 0 (by decide)]; simp [g_up, kx1]
    · refine ⟨t1, h2, h3, h4, h5, h6, ?_, fun t x y => h8 t x (by omega), fun t x y => h9 t x (by omega), ?_⟩
      · exact Nat.le_trans (sumc_mono co od (tm - od) (nw - od) (by omega)) h7
      · by_cases z : tm = nw
        · rw [z]; exact h10
        · exact Or.inl (h8 tm t1 (by omega)).1
    · have G1a : ∀ a, a < 16 → G1 a = V a := fun a ha => by
        rw [x6 a (by omega) (by omega)]
        funext b; simp [g_up, show ¬ a = 16 by omega]
      refine RC_fr (G := V) ?_ G1a
      refine ⟨?_, ?_, ?_, ?_, ?_, w2, ?_, w3, ?_, ?_, ?_⟩
      · rw [w5 1 (by decide), u3 1 (by decide) (by decide)]; exact r1
      · rw [w5 2 (by decide), u3 2 (by decide) (by decide)]; exact r2
      · rw [w5 0 (by decide), u3 0 (by decide) (by decide)]; exact r3
      · rw [w5 0 (by decide), u3 0 (by decide) (by decide)]; exact r4
      · rw [w4 0 (by decide) (by decide), u3 7 (by decide) (by decide)]; exact r5
      · rw [w4 2 (by decide) (by decide), u3 7 (by decide) (by decide)]; exact r7
      · rw [w4 4 (by decide) (by decide), u3 7 (by decide) (by decide)]; exact r9
      · intro i hi
        have : stC 3 4 V i = stC 3 4 U i := by unfold stC; rw [w5 3 (by decide), w5 4 (by decide)]
        rw [this]; exact u2 i hi
      · have : Rws st co wr od nw V := Rws_fr hR (fun a x y => w5 a (by omega))
        exact fun t x y => this t x (by omega)
    · show RM P I gv rm d (tm, od, go, st, co, wr) G1
      refine ⟨?_, ?_, ?_, ?_, ?_, x4, ?_, ?_, x3, ?_⟩
      · rw [x6 17 (by decide) (by decide), ga 17 (by decide)]; exact m1
      · rw [x6 18 (by decide) (by decide), ga 18 (by decide)]; exact m2
      · rw [x5 4 (by decide), g16 4 (by decide)]; exact m3
      · rw [x5 2 (by decide), g16 2 (by decide)]; exact m4
      · rw [x5 1 (by decide), g16 1 (by decide)]; exact m5
      · rw [x5 12 (by decide), g16 12 (by decide)]; exact m7
      · rw [x5 13 (by decide), g16 13 (by decide)]; exact m8
      · intro t x y
        rw [x6 22 (by decide) (by decide), x6 23 (by decide) (by decide), x6 21 (by decide) (by decide), ga 22 (by decide), ga 23 (by decide), ga 21 (by decide)]
        exact m10 t x (by omega)
  · have q0 : ¬ f_BS_checkTime G p1 = 0 := by rw [k1]; decide
    have e : f_BS_back N G p1 = (1, 0, G) := by unfold f_BS_back; rw [if_neg q0, k1]
    rw [e]
    have kk : f_Mo_isKept (g_up G 16 0 0) p1 = 0 := by
      unfold f_Mo_isKept
      rw [show g_up G 16 0 0 16 12 = G 16 12 from by simp [g_up], show g_up G 16 0 0 16 11 = G 16 11 from by simp [g_up], m6, m7]; exact k2 _
    have e2 : f_Mo_back N G p1 = (0, g_up G 16 0 1) := by unfold f_Mo_back; rw [if_pos kk, fail_e]
    show _ ∧ ok_Mo_back N G p1 ∧ f_Mo_thrown (f_Mo_back N G p1).2 = _ ∧ _ ∧ Rl T (f_Mo_back N G p1).2
    rw [e2]
    exact ⟨⟨fun z => absurd z q0, trivial⟩, ⟨fun _ => trivial, fun z => absurd kk z⟩, thr_e G 1, fun z => absurd (show (1 : Nat) = 0 from z) (by decide), Rl_th h0 1⟩
