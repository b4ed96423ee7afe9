/-! The calls program, input, poke, step: class and reference answer alike and keep the relation. -/
theorem RC_fr {P I : Nat → Int32} {gv rm d : Nat} {h : aH} {G G' : gT} (hr : RC P I gv rm d h G) (e : ∀ a, a < 16 → G' a = G a) : RC P I gv rm d h G' := by
  obtain ⟨nw, od, go, st, co, wr⟩ := h
  obtain ⟨r1, r2, r3, r4, r5, r6, r7, r8, r9, r10, r11⟩ := hr
  have e0 := e 0 (by decide)
  have e1 := e 1 (by decide)
  have e2 := e 2 (by decide)
  have e3 := e 3 (by decide)
  have e4 := e 4 (by decide)
  have e7 := e 7 (by decide)
  refine ⟨by rw [e1]; exact r1, by rw [e2]; exact r2, by rw [e0]; exact r3, by rw [e0]; exact r4, by rw [e7]; exact r5, by rw [e7]; exact r6, by rw [e7]; exact r7, by rw [e7]; exact r8, by rw [e7]; exact r9, fun i hi => ?_, fun t a b => ?_⟩
  · unfold stC; rw [e3, e4]; exact r10 i hi
  · rw [e 8 (by decide), e 9 (by decide), e 10 (by decide), e 11 (by decide), e 12 (by decide), e 13 (by decide), e 14 (by decide), e 15 (by decide)]
    exact r11 t a b
theorem RM_fr {P I : Nat → Int32} {gv rm d : Nat} {h : aH} {G G' : gT} (hr : RM P I gv rm d h G) (e : ∀ a, 17 ≤ a → G' a = G a) (e16 : ∀ b, ¬ b = 0 → G' 16 b = G 16 b) : RM P I gv rm d h G' := by
  obtain ⟨nw, od, go, st, co, wr⟩ := h
  obtain ⟨r1, r2, r3, r4, r5, r6, r7, r8, r9, r10⟩ := hr
  refine ⟨by rw [e 17 (by decide)]; exact r1, by rw [e 18 (by decide)]; exact r2, by rw [e16 4 (by decide)]; exact r3, by rw [e16 2 (by decide)]; exact r4, by rw [e16 1 (by decide)]; exact r5, by rw [e16 11 (by decide)]; exact r6, by rw [e16 12 (by decide)]; exact r7, by rw [e16 13 (by decide)]; exact r8, by rw [e 19 (by decide)]; exact r9, fun t a b => ?_⟩
  rw [e 22 (by decide), e 23 (by decide), e 21 (by decide)]
  exact r10 t a b
/-- class and reference hold one history, of at most T steps -/
def Rl (T : Nat) (G : gT) : Prop := ∃ (P I : Nat → Int32) (gv rm d : Nat) (h : aH), AV gv rm d h ∧ h.1 ≤ T ∧ RC P I gv rm d h G ∧ RM P I gv rm d h G
theorem RM_th {P I : Nat → Int32} {gv rm d : Nat} {h : aH} {G : gT} (hr : RM P I gv rm d h G) (v : Int32) : RM P I gv rm d h (g_up G 16 0 v) :=
  RM_fr hr (fun a ha => by funext b; have : ¬ a = 16 := by omega
                           simp [g_up, this]) (fun b hb => by simp [g_up, hb])
theorem RC_th {P I : Nat → Int32} {gv rm d : Nat} {h : aH} {G : gT} (hr : RC P I gv rm d h G) (v : Int32) : RC P I gv rm d h (g_up G 16 0 v) :=
  RC_fr hr (fun a ha => by funext b; have : ¬ a = 16 := by omega
                           simp [g_up, this])
theorem up_up (G : gT) (v w : Int32) : g_up (g_up G 16 0 v) 16 0 w = g_up G 16 0 w := by
  funext a b
  simp only [g_up]
  split
  · split <;> rfl
  · rfl
theorem fail_e (G : gT) (v c : Int32) : f_Mo_fail (g_up G 16 0 v) c = (0, g_up G 16 0 c) := by unfold f_Mo_fail; rw [up_up]
theorem thr_e (G : gT) (v : Int32) : f_Mo_thrown (g_up G 16 0 v) = v := by simp [f_Mo_thrown, g_up]
theorem Rl_th {T : Nat} {G : gT} (h : Rl T G) (v : Int32) : Rl T (g_up G 16 0 v) := by
  obtain ⟨P, I, gv, rm, d, h, a, b, c, e⟩ := h
  exact ⟨P, I, gv, rm, d, h, a, b, RC_th c v, RM_th e v⟩
theorem wi_1 (G : gT) (x a b : Int32) (h1 : ¬ x < a) (h2 : ¬ b < x) : f_Mo_within G x a b = 1 := by unfold f_Mo_within; rw [if_neg h1, if_neg h2]
theorem wi_lo (G : gT) (x a b : Int32) (h1 : x < a) : f_Mo_within G x a b = 0 := by unfold f_Mo_within; rw [if_pos h1]
theorem wi_hi (G : gT) (x a b : Int32) (h2 : b < x) : f_Mo_within G x a b = 0 := by
  unfold f_Mo_within
  by_cases q : x < a
  · rw [if_pos q]
  · rw [if_neg q, if_pos h2]
theorem ne10 : ¬ (1 : Int32) = 0 := by decide
/-- a number below a bound, or not -/
theorem rng (x : Int32) (n : Nat) (hn : n < 2 ^ 30) : x < 0 ∨ (∃ j, j < n ∧ x = nI j) ∨ (¬ x < 0 ∧ ¬ x < nI n) := by
  by_cases h : x < 0
  · exact Or.inl h
  · obtain ⟨j, hj, rfl⟩ := nI_of h
    by_cases h2 : j < n
    · exact Or.inr (Or.inl ⟨j, h2, rfl⟩)
    · exact Or.inr (Or.inr ⟨h, nI_nlt (by omega) (by omega)⟩)
theorem pred_lt (n : Nat) (hn : n + 1 < 2 ^ 30) (x : Int32) (h : ¬ x < nI (n + 1)) : nI n < x := by
  rw [Int32.lt_iff_toInt_lt] at h ⊢
  rw [nI_toInt (by omega)] at h ⊢
  omega
theorem op_program (T : Nat) (G : gT) (p1 p2 : Int32) (h : Rl T G) : ok_BS_program G p1 p2 ∧ ok_Mo_program (f_BS_program G p1 p2).2.2 p1 p2 ∧ f_Mo_thrown (f_Mo_program (f_BS_program G p1 p2).2.2 p1 p2).2 = kx1 (f_BS_program G p1 p2).1 ∧ ((f_BS_program G p1 p2).1 = 0 → (f_BS_program G p1 p2).2.1 = (f_Mo_program (f_BS_program G p1 p2).2.2 p1 p2).1) ∧ Rl T (f_Mo_program (f_BS_program G p1 p2).2.2 p1 p2).2 := by
  rcases rng p1 64 (by decide) with q | ⟨j, hj, rfl⟩ | ⟨q1, q2⟩
  · have e : f_BS_program G p1 p2 = (2, 0, G) := by unfold f_BS_program; rw [if_pos q]
    rw [e]
    have w := wi_lo (g_up G 16 0 0) p1 0 63 q
    have e2 : f_Mo_program G p1 p2 = (0, g_up G 16 0 1) := by unfold f_Mo_program; rw [if_pos w, fail_e]
    show _ ∧ ok_Mo_program G p1 p2 ∧ f_Mo_thrown (f_Mo_program G p1 p2).2 = _ ∧ _ ∧ Rl T (f_Mo_program G p1 p2).2
    rw [e2]
    exact ⟨⟨fun _ => trivial, fun z => absurd q z⟩, ⟨fun _ => trivial, fun z => absurd w z⟩, thr_e G 1, fun z => absurd (show (2 : Nat) = 0 from z) (by decide), Rl_th h 1⟩
  · have q1 : ¬ nI j < 0 := nI_pos (by omega)
    have q2 : nI j < 64 := nI_lt (b := 64) hj (by decide)
    have q3 : ¬ (63 : Int32) < nI j := nI_nlt (a := 63) (by omega) (by decide)
    have v := vp_in_nI hj (by decide : 64 < 2 ^ 31)
    have cj : (nI j).toNatClampNeg = j := nI_clamp (by omega)
    have e : f_BS_program G (nI j) p2 = (0, G 1 j, g_up G 1 j p2) := by unfold f_BS_program; rw [if_neg q1, if_pos q2, cj]
    rw [e]
    have w : ∀ G, ¬ f_Mo_within G (nI j) 0 63 = 0 := fun G => by rw [wi_1 G _ _ _ q1 q3]; decide
    have e2 : f_Mo_program (g_up G 1 j p2) (nI j) p2 = (G 17 j, g_up (g_up (g_up G 1 j p2) 16 0 0) 17 j p2) := by
      unfold f_Mo_program; rw [if_neg (w _), cj]; simp [g_up]
    show _ ∧ ok_Mo_program (g_up G 1 j p2) (nI j) p2 ∧ f_Mo_thrown (f_Mo_program (g_up G 1 j p2) (nI j) p2).2 = _ ∧ (_ → G 1 j = (f_Mo_program (g_up G 1 j p2) (nI j) p2).1) ∧ Rl T (f_Mo_program (g_up G 1 j p2) (nI j) p2).2
    rw [e2]
    obtain ⟨P, I, gv, rm, d, h, a, b, c, m⟩ := h
    have cP : G 1 j = P j := by obtain ⟨nw, od, go, st, co, wr⟩ := h; exact c.1 j hj
    have mP : G 17 j = P j := by obtain ⟨nw, od, go, st, co, wr⟩ := h; exact m.1 j hj
    refine ⟨⟨fun z => absurd z q1, fun _ => ⟨fun _ => ⟨v, v, trivial⟩, fun _ => trivial⟩⟩, ⟨fun z => absurd z (w _), fun _ => ⟨v, v, trivial⟩⟩, by simp [f_Mo_thrown, g_up, kx1], fun _ => cP.trans mP.symm, (fun k => if k = j then p2 else P k), I, gv, rm, d, h, a, b, ?_, ?_⟩
    · obtain ⟨nw, od, go, st, co, wr⟩ := h
      obtain ⟨r1, r2, r3, r4, r5, r6, r7, r8, r9, r10, r11⟩ := c
      refine ⟨fun k hk => ?_, ?_⟩
      · simp only [g_up]
        by_cases z : k = j
        · simp [z]
        · simp [z, r1 k hk]
      · have := RC_fr (G := g_up G 1 j p2) (G' := g_up (g_up (g_up G 1 j p2) 16 0 0) 17 j p2) (P := fun k => if k = j then p2 else P k) (I := I) (gv := gv) (rm := rm) (d := d) (h := (nw, od, go, st, co, wr)) ⟨fun k hk => by
          simp only [g_up]
          by_cases z : k = j
          · simp [z]
          · simp [z, r1 k hk], r2, r3, r4, r5, r6, r7, r8, r9, r10, r11⟩ (fun a ha => by funext b; simp [g_up, show ¬ a = 16 by omega, show ¬ a = 17 by omega])
        exact this.2
    · obtain ⟨nw, od, go, st, co, wr⟩ := h
      obtain ⟨r1, r2, r3, r4, r5, r6, r7, r8, r9, r10⟩ := m
      refine ⟨fun k hk => ?_, r2, r3, r4, r5, r6, r7, r8, r9, r10⟩
      simp only [g_up]
      by_cases z : k = j
      · simp [z]
      · simp [z, r1 k hk]
  · have q3 : ¬ p1 < 64 := q2
    have q4 : (63 : Int32) < p1 := pred_lt 63 (by decide) p1 q2
    have e : f_BS_program G p1 p2 = (2, 0, G) := by unfold f_BS_program; rw [if_neg q1, if_neg q3]
    rw [e]
    have w := wi_hi (g_up G 16 0 0) p1 0 63 q4
    have e2 : f_Mo_program G p1 p2 = (0, g_up G 16 0 1) := by unfold f_Mo_program; rw [if_pos w, fail_e]
    show _ ∧ ok_Mo_program G p1 p2 ∧ f_Mo_thrown (f_Mo_program G p1 p2).2 = _ ∧ _ ∧ Rl T (f_Mo_program G p1 p2).2
    rw [e2]
    exact ⟨⟨fun z => absurd z q1, fun _ => ⟨fun z => absurd z q3, fun _ => trivial⟩⟩, ⟨fun _ => trivial, fun z => absurd w z⟩, thr_e G 1, fun z => absurd (show (2 : Nat) = 0 from z) (by decide), Rl_th h 1⟩
