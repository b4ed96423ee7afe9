theorem op_input (T : Nat) (G : gT) (p1 : Int32) (h : Rl T G) : ok_BS_input G p1 ∧ ok_Mo_input (f_BS_input G p1).2.2 p1 ∧ f_Mo_thrown (f_Mo_input (f_BS_input G p1).2.2 p1).2 = kx1 (f_BS_input G p1).1 ∧ ((f_BS_input G p1).1 = 0 → (f_BS_input G p1).2.1 = (f_Mo_input (f_BS_input G p1).2.2 p1).1) ∧ Rl T (f_Mo_input (f_BS_input G p1).2.2 p1).2 := by
  have h0 := h
  obtain ⟨P, I, gv, rm, d, ⟨nw, od, go, st, co, wr⟩, a, b, c, m⟩ := h
  obtain ⟨h1, h2, h3, h4, h5, h6, h7, h8, h9, h10⟩ := a
  obtain ⟨r1, r2, r3, r4, r5, r6, r7, r8, r9, r10, r11⟩ := c
  obtain ⟨m1, m2, m3, m4, m5, m6, m7, m8, m9, m10⟩ := m
  by_cases q : gv < 200
  · have q1 : G 0 3 < 200 := by rw [r3]; exact nI_lt (b := 200) q (by decide)
    have cg : (nI gv).toNatClampNeg = gv := nI_clamp (by omega)
    have e : f_BS_input G p1 = (0, nI (gv + 1) - G 3 2, g_up (g_up G 2 gv p1) 0 3 (nI (gv + 1))) := by
      unfold f_BS_input; rw [if_pos q1, r3, cg, nI_1]
    rw [e]
    have g4 : g_up (g_up G 2 gv p1) 0 3 (nI (gv + 1)) 16 4 = nI gv := by simp [g_up, m3]
    have q2 : ¬ g_up (g_up G 2 gv p1) 0 3 (nI (gv + 1)) 16 4 = 200 := by
      rw [g4]; intro z
      have := (nI_eq (a := gv) (b := 200) (by omega) (by omega)).mp z
      omega
    have e2 : f_Mo_input (g_up (g_up G 2 gv p1) 0 3 (nI (gv + 1))) p1 = (nI (gv + 1) - G 19 265, g_up (g_up (g_up (g_up (g_up G 2 gv p1) 0 3 (nI (gv + 1))) 16 0 0) 18 gv p1) 16 4 (nI (gv + 1))) := by
      unfold f_Mo_input; rw [if_neg q2, g4, cg, nI_1]; simp [g_up]
    show _ ∧ ok_Mo_input (g_up (g_up G 2 gv p1) 0 3 (nI (gv + 1))) p1 ∧ f_Mo_thrown (f_Mo_input (g_up (g_up G 2 gv p1) 0 3 (nI (gv + 1))) p1).2 = _ ∧ (_ → nI (gv + 1) - G 3 2 = (f_Mo_input (g_up (g_up G 2 gv p1) 0 3 (nI (gv + 1))) p1).1) ∧ Rl T (f_Mo_input (g_up (g_up G 2 gv p1) 0 3 (nI (gv + 1))) p1).2
    rw [e2]
    have t1 : G 3 2 = st nw 265 := r10 265 (by decide)
    have t2 : G 19 265 = st nw 265 := m9 265 (by decide)
    refine ⟨⟨fun _ => ⟨by rw [r3]; exact vp_in_nI q (by decide), trivial⟩, fun _ => trivial⟩, ⟨fun z => absurd z q2, fun _ => ⟨by rw [g4]; exact vp_in_nI q (by decide), trivial⟩⟩, by simp [f_Mo_thrown, g_up, kx1], fun _ => by rw [t1, t2], P, (fun k => if k = gv then p1 else I k), gv + 1, rm, d, (nw, od, go, st, co, wr), ?_, b, ?_, ?_⟩
    · exact ⟨h1, h2, h3, h4, h5, by omega, h7, h8, fun t x y => ⟨(h9 t x y).1, by obtain ⟨k, hk, e⟩ := (h9 t x y).2; exact ⟨k, by omega, e⟩⟩, h10⟩
    · refine ⟨?_, fun j hj => ?_, ?_, ?_, ?_, ?_, ?_, ?_, ?_, ?_, ?_⟩
      · exact r1
      · by_cases z : j = gv
        · simp [g_up, z]
        · simp [g_up, z, r2 j hj]
      · simp [g_up]
      · exact r4
      · exact r5
      · exact r6
      · exact r7
      · exact r8
      · exact r9
      · exact r10
      · exact r11
    · refine ⟨?_, fun j hj => ?_, ?_, ?_, ?_, ?_, ?_, ?_, ?_, ?_⟩
      · exact m1
      · by_cases z : j = gv
        · simp [g_up, z]
        · simp [g_up, z, m2 j hj]
      · simp [g_up]
      · exact m4
      · exact m5
      · exact m6
      · exact m7
      · exact m8
      · exact m9
      · exact m10
  · have e0 : gv = 200 := by omega
    subst e0
    have q1 : ¬ G 0 3 < 200 := by rw [r3]; exact nI_nlt (b := 200) (by omega) (by decide)
    have q2 : G 16 4 = 200 := m3
    have e : f_BS_input G p1 = (3, 0, G) := by unfold f_BS_input; rw [if_neg q1]
    rw [e]
    have e2 : f_Mo_input G p1 = (0, g_up G 16 0 1) := by unfold f_Mo_input; rw [if_pos q2, fail_e]
    show _ ∧ ok_Mo_input G p1 ∧ f_Mo_thrown (f_Mo_input G p1).2 = _ ∧ _ ∧ Rl T (f_Mo_input G p1).2
    rw [e2]
    exact ⟨⟨fun z => absurd z q1, fun _ => trivial⟩, ⟨fun _ => trivial, fun z => absurd q2 z⟩, thr_e G 1, fun z => absurd (show (3 : Nat) = 0 from z) (by decide), Rl_th h0 1⟩
theorem op_poke (T : Nat) (G : gT) (p1 p2 : Int32) (h : Rl T G) : ok_BS_poke G p1 p2 ∧ ok_Mo_poke (f_BS_poke G p1 p2).2.2 p1 p2 ∧ f_Mo_thrown (f_Mo_poke (f_BS_poke G p1 p2).2.2 p1 p2).2 = kx1 (f_BS_poke G p1 p2).1 ∧ ((f_BS_poke G p1 p2).1 = 0 → (f_BS_poke G p1 p2).2.1 = (f_Mo_poke (f_BS_poke G p1 p2).2.2 p1 p2).1) ∧ Rl T (f_Mo_poke (f_BS_poke G p1 p2).2.2 p1 p2).2 := by
  have bad : f_BS_checkNumber G p1 = 2 → (∀ G, f_Mo_within G p1 0 263 = 0) → ok_BS_poke G p1 p2 ∧ ok_Mo_poke (f_BS_poke G p1 p2).2.2 p1 p2 ∧ f_Mo_thrown (f_Mo_poke (f_BS_poke G p1 p2).2.2 p1 p2).2 = kx1 (f_BS_poke G p1 p2).1 ∧ ((f_BS_poke G p1 p2).1 = 0 → (f_BS_poke G p1 p2).2.1 = (f_Mo_poke (f_BS_poke G p1 p2).2.2 p1 p2).1) ∧ Rl T (f_Mo_poke (f_BS_poke G p1 p2).2.2 p1 p2).2 := by
    intro q w
    have q0 : ¬ f_BS_checkNumber G p1 = 0 := by rw [q]; decide
    have e : f_BS_poke G p1 p2 = (2, 0, G) := by unfold f_BS_poke; rw [if_neg q0, q]
    rw [e]
    have e2 : f_Mo_poke G p1 p2 = (0, g_up G 16 0 1) := by unfold f_Mo_poke; rw [if_pos (w _), fail_e]
    show _ ∧ ok_Mo_poke G p1 p2 ∧ f_Mo_thrown (f_Mo_poke G p1 p2).2 = _ ∧ _ ∧ Rl T (f_Mo_poke G p1 p2).2
    rw [e2]
    exact ⟨⟨fun z => absurd z q0, trivial⟩, ⟨fun _ => trivial, fun z => absurd (w _) z⟩, thr_e G 1, fun z => absurd (show (2 : Nat) = 0 from z) (by decide), Rl_th h 1⟩
  rcases rng p1 264 (by decide) with q | ⟨j, hj, rfl⟩ | ⟨q1, q2⟩
  · exact bad (by unfold f_BS_checkNumber; rw [if_pos q]) (fun G => wi_lo G _ _ _ q)
  · clear bad
    obtain ⟨P, I, gv, rm, d, ⟨nw, od, go, st, co, wr⟩, a, b, c, m⟩ := h
    obtain ⟨h1, h2, h3, h4, h5, h6, h7, h8, h9, h10⟩ := a
    obtain ⟨r1, r2, r3, r4, r5, r6, r7, r8, r9, r10, r11⟩ := c
    obtain ⟨m1, m2, m3, m4, m5, m6, m7, m8, m9, m10⟩ := m
    have q1 : ¬ nI j < 0 := nI_pos (by omega)
    have q2 : nI j < 264 := nI_lt (b := 264) hj (by decide)
    have q3 : ¬ (263 : Int32) < nI j := nI_nlt (a := 263) (by omega) (by decide)
    have cj : (nI j).toNatClampNeg = j := nI_clamp (by omega)
    have q0 : f_BS_checkNumber G (nI j) = 0 := by unfold f_BS_checkNumber; rw [if_neg q1, if_pos q2]
    have v := vp_in_nI hj (by decide : 264 < 2 ^ 31)
    have v2 := vp_in_nI (show j < 269 by omega) (by decide : 269 < 2 ^ 31)
    have e : f_BS_poke G (nI j) p2 = (0, G 4 j, f_Ro_dropAll (g_up G 4 j p2)) := by unfold f_BS_poke; rw [if_pos q0, cj]
    rw [e]
    have w : ∀ G, ¬ f_Mo_within G (nI j) 0 263 = 0 := fun G => by rw [wi_1 G _ _ _ q1 q3]; decide
    have d17 : ∀ a, 16 ≤ a → f_Ro_dropAll (g_up G 4 j p2) a = G a := fun a ha => by
      funext b; simp [f_Ro_dropAll, g_up, show ¬ a = 7 by omega, show ¬ a = 4 by omega]
    generalize hD : f_Ro_dropAll (g_up G 4 j p2) = D at d17
    have e2 : f_Mo_poke D (nI j) p2 = (G 19 j, g_up (g_up (g_up (g_up D 16 0 0) 19 j p2) 16 13 (go + (nI nw - nI od))) 16 12 (nI nw)) := by
      unfold f_Mo_poke; rw [if_neg (w _), cj, d17 19 (by decide), d17 16 (by decide), m6, m7, m8]
    show _ ∧ ok_Mo_poke D (nI j) p2 ∧ f_Mo_thrown (f_Mo_poke D (nI j) p2).2 = _ ∧ (_ → G 4 j = (f_Mo_poke D (nI j) p2).1) ∧ Rl T (f_Mo_poke D (nI j) p2).2
    rw [e2]
    have t1 : G 4 j = st nw j := by have := r10 j (by omega); unfold stC at this; rw [if_pos hj] at this; exact this
    refine ⟨⟨fun _ => ⟨v, v, trivial⟩, trivial⟩, ⟨fun z => absurd z (w _), fun _ => ⟨v2, v2, trivial⟩⟩, by simp [f_Mo_thrown, g_up, kx1], fun _ => t1.trans (m9 j (by omega)).symm, P, I, gv, rm, d, (nw, nw, go + (nI nw - nI od), (fun t => if t = nw then (fun i => if i = j then p2 else st nw i) else st t), co, wr), ?_, b, ?_, ?_⟩
    · refine ⟨Nat.le_refl _, h2, h3, h4, h5, h6, ?_, fun t x y => by omega, fun t x y => ?_, ?_⟩
      · rw [Nat.sub_self]; exact Nat.zero_le _
      · have : t = nw := by omega
        subst this
        simp only [if_true, show ¬ 264 = j by omega, show ¬ 265 = j by omega, if_false]
        exact h9 t h1 (Nat.le_refl _)
      · simp only [if_true, show ¬ 268 = j by omega, if_false]
        exact h10
    · have hb : RC P I gv rm d (nw, nw, go + (nI nw - nI od), (fun t => if t = nw then (fun i => if i = j then p2 else st nw i) else st t), co, wr) D := by
        subst hD
        refine ⟨r1, r2, r3, r4, ?_, ?_, ?_, ?_, ?_, ?_, fun t x y => by omega⟩
        · simp [f_Ro_dropAll, g_up, r5]
        · simp [f_Ro_dropAll, g_up, r6]
        · simp [f_Ro_dropAll, g_up, r6]
        · rw [Nat.sub_self]; simp [f_Ro_dropAll, g_up, sumc, nI_0]
        · simp [f_Ro_dropAll, g_up, r6, r7, r9]
        · intro i hi
          have := r10 i hi
          simp only [if_true]
          by_cases z : i < 264
          · unfold stC at this ⊢
            rw [if_pos z] at this ⊢
            by_cases z2 : i = j
            · simp [f_Ro_dropAll, g_up, z2]
            · simp [f_Ro_dropAll, g_up, z2, this]
          · unfold stC at this ⊢
            rw [if_neg z] at this ⊢
            have : ¬ i = j := by omega
            simp [f_Ro_dropAll, g_up, this, *]
      exact RC_fr hb (fun a ha => by funext b; simp [g_up, show ¬ a = 16 by omega, show ¬ a = 19 by omega])
    · refine ⟨?_, ?_, ?_, ?_, ?_, ?_, ?_, ?_, ?_, fun t x y => by omega⟩
      · simp only [g_up]; rw [d17 17 (by decide)]; exact m1
      · simp only [g_up]; rw [d17 18 (by decide)]; exact m2
      · simp only [g_up]; rw [d17 16 (by decide)]; exact m3
      · simp only [g_up]; rw [d17 16 (by decide)]; exact m4
      · simp only [g_up]; rw [d17 16 (by decide)]; exact m5
      · simp only [g_up]; rw [d17 16 (by decide)]; exact m6
      · simp [g_up]
      · simp [g_up]
      · intro i hi
        simp only [if_true]
        by_cases z2 : i = j
        · simp [g_up, z2]
        · have := m9 i hi
          rw [← d17 19 (by decide)] at this
          simp [g_up, z2, this]
  · exact bad (by unfold f_BS_checkNumber; rw [if_neg q1, if_neg (show ¬ p1 < 264 from q2)]) (fun G => wi_hi G _ _ _ (pred_lt 263 (by decide) p1 q2))
