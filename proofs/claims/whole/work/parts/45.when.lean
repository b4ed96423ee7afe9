def whF (st : Nat → Nat → Int32) (i : Nat) (v : Int32) (od : Nat) : Nat → Int32
  | 0 => if st od i = v then nI od else -1
  | j + 1 => if st (od + (j + 1)) i = v then nI (od + (j + 1)) else whF st i v od j
theorem wh_c (N : Nat) (x1 : Int32) (st : Nat → Nat → Int32) (co : Nat → Nat) (wr : Nat → Int32) (od nw i : Nat) (G : gT) (v : Int32) (hR : Rws st co wr od nw G) (hF : HF st co wr od nw) (hi : i < 264) (hnw : nw < 2 ^ 29) (h72 : G 7 2 = nI od) : ∀ (n j : Nat), j < n → od + j ≤ nw →
    ok_BS_when_L21 N n G x1 (nI i) v (st (od + j) i) (nI (od + j)) ∧ f_BS_when_L21 N n G x1 (nI i) v (st (od + j) i) (nI (od + j)) = (0, whF st i v od j) := by
  intro n
  induction n with
  | zero => intro j h; omega
  | succ n ih =>
    intro j hj ht
    cases j with
    | zero =>
      have c1 : nI (od + 0) ≤ G 7 2 := by rw [h72]; exact nI_le (by omega) (by omega)
      refine ⟨⟨fun _ => trivial, fun q => absurd c1 q⟩, ?_⟩
      rw [f_BS_when_L21, if_pos c1, h72]
      show _ = (0, if st od i = v then nI od else -1)
      by_cases q : st od i = v
      · rw [if_pos q]; exact if_pos q
      · rw [if_neg q]; exact if_neg q
    | succ j =>
      have c1 : ¬ nI (od + (j + 1)) ≤ G 7 2 := by rw [h72]; exact nI_ge (by omega) (by omega)
      have s1 : nI (od + (j + 1)) - 1 = nI (od + j) := by rw [← Nat.add_assoc, nI_s1]
      have s2 : nI (od + (j + 1)) + (-1) = nI (od + j) := by rw [← Nat.add_assoc, nI_m1]
      obtain ⟨o1, o2⟩ := nb_e st co wr od nw (od + j) i G (st (od + (j + 1)) i) hR hF (by omega) (by omega) hi rfl
      obtain ⟨i1, i2⟩ := ih j (by omega) (by omega)
      refine ⟨⟨fun z => absurd z c1, fun _ => ⟨fun _ => trivial, fun _ => ?_⟩⟩, ?_⟩
      · rw [s1, s2, o2]; exact ⟨o1, i1⟩
      · rw [f_BS_when_L21, if_neg c1, s1, s2, o2, i2]
        show _ = (0, if st (od + (j + 1)) i = v then nI (od + (j + 1)) else whF st i v od j)
        by_cases q : st (od + (j + 1)) i = v
        · rw [if_pos q, if_pos q]
        · rw [if_neg q, if_neg q]
theorem wh_m (x1 : Int32) (st : Nat → Nat → Int32) (co : Nat → Nat) (wr : Nat → Int32) (od nw i : Nat) (G : gT) (v : Int32) (hM : Ms st co wr od nw G) (hi : i < 269) (hnw : nw < 2 ^ 29) (h11 : G 16 11 = nI nw) (h12 : G 16 12 = nI od) (h19 : G 19 i = st nw i) : ∀ (n j : Nat), j + 1 < n → od + j ≤ nw →
    ok_Mo_when_L39 n G x1 (nI i) v (nI (od + j)) ∧ f_Mo_when_L39 n G x1 (nI i) v (nI (od + j)) = (whF st i v od j, G) := by
  intro n
  induction n with
  | zero => intro j h; omega
  | succ n ih =>
    intro j hj ht
    have c1 : ¬ nI (od + j) < G 16 12 := by rw [h12]; exact nI_nlt (by omega) (by omega)
    obtain ⟨s1, s2⟩ := st_at G st co wr od nw hnw h11 hM (od + j) i (by omega) ht hi (fun _ => h19)
    cases j with
    | zero =>
      obtain ⟨n, rfl⟩ : ∃ n', n = n' + 1 := ⟨n - 1, by omega⟩
      have c2 : nI (od + 0) + (-1) < G 16 12 := by rw [h12, ← Int32.sub_eq_add_neg, Int32.lt_iff_toInt_lt, pm_toInt (by omega), nI_toInt (by omega)]; omega
      refine ⟨⟨fun z => absurd z c1, fun _ => ⟨s1, fun _ => trivial, fun _ => ⟨fun _ => trivial, fun z => absurd c2 z⟩⟩⟩, ?_⟩
      rw [f_Mo_when_L39, if_neg c1, s2, f_Mo_when_L39, if_pos c2]
      show (if st od i = v then (nI od, G) else (-1, G)) = ((if st od i = v then nI od else -1), G)
      by_cases q : st od i = v
      · rw [if_pos q, if_pos q]
      · rw [if_neg q, if_neg q]
    | succ j =>
      have t2 : nI (od + (j + 1)) + (-1) = nI (od + j) := by rw [← Nat.add_assoc, nI_m1]
      obtain ⟨i1, i2⟩ := ih j (by omega) (by omega)
      refine ⟨⟨fun z => absurd z c1, fun _ => ⟨s1, fun _ => trivial, fun _ => by rw [t2]; exact i1⟩⟩, ?_⟩
      rw [f_Mo_when_L39, if_neg c1, s2, t2, i2]
      show _ = ((if st (od + (j + 1)) i = v then nI (od + (j + 1)) else whF st i v od j), G)
      by_cases q : st (od + (j + 1)) i = v
      · rw [if_pos q, if_pos q]
      · rw [if_neg q, if_neg q]
theorem op_when (N : Nat) (hNN : 2001 ≤ N) (T : Nat) (hT : T < 2 ^ 29) (G : gT) (p1 p2 p3 : Int32) (h : Rl T G) : ok_BS_when N G p1 p2 p3 ∧ ok_Mo_when N G p1 p2 p3 ∧ f_Mo_thrown (f_Mo_when N G p1 p2 p3).2 = kx2 (f_BS_when N G p1 p2 p3).1 ∧ ((f_BS_when N G p1 p2 p3).1 = 0 → (f_BS_when N G p1 p2 p3).2 = (f_Mo_when N G p1 p2 p3).1) ∧ Rl T (f_Mo_when N G p1 p2 p3).2 := by
  have h0 := h
  obtain ⟨P, I, gv, rm, d, ⟨nw, od, go, st, co, wr⟩, a, b, c, m⟩ := h
  have hlen := av_len a
  have b : nw ≤ T := b
  obtain ⟨h1, h2, h3, h4, h5, h6, h7, h8, h9, h10⟩ := a
  obtain ⟨r1, r2, r3, r4, r5, r6, r7, r8, r9, r10, r11⟩ := c
  obtain ⟨m1, m2, m3, m4, m5, m6, m7, m8, m9, m10⟩ := m
  have ik := iskept_e G p1 0 od nw m6 m7
  rcases kept_c G p1 od nw h1 (by omega) r6 r7 with ⟨tm, t1, t2, rfl, k1, k2⟩ | ⟨k1, k2⟩
  · have kk : ¬ f_Mo_isKept (g_up G 16 0 0) (nI tm) = 0 := by rw [ik, k2]; exact ne10
    have bad : f_BS_checkNumber G p2 = 2 → (∀ G, f_Mo_within G p2 0 263 = 0) → ok_BS_when N G (nI tm) p2 p3 ∧ ok_Mo_when N G (nI tm) p2 p3 ∧ f_Mo_thrown (f_Mo_when N G (nI tm) p2 p3).2 = kx2 (f_BS_when N G (nI tm) p2 p3).1 ∧ ((f_BS_when N G (nI tm) p2 p3).1 = 0 → (f_BS_when N G (nI tm) p2 p3).2 = (f_Mo_when N G (nI tm) p2 p3).1) ∧ Rl T (f_Mo_when N G (nI tm) p2 p3).2 := by
      intro q w
      have q0 : ¬ f_BS_checkNumber G p2 = 0 := by rw [q]; decide
      have e : f_BS_when N G (nI tm) p2 p3 = (2, 0) := by unfold f_BS_when; rw [if_pos k1, if_neg q0, q]
      have e2 : f_Mo_when N G (nI tm) p2 p3 = (0, g_up G 16 0 2) := by unfold f_Mo_when; rw [if_neg kk, if_pos (w _), fail_e]
      rw [e, e2]
      exact ⟨⟨fun _ => ⟨fun z => absurd z q0, trivial⟩, trivial⟩, ⟨fun z => absurd z kk, fun _ => ⟨fun _ => trivial, fun z => absurd (w _) z⟩⟩, thr_e G 2, fun z => absurd (show (2 : Nat) = 0 from z) (by decide), Rl_th h0 2⟩
    rcases rng p2 264 (by decide) with q | ⟨j, hj, rfl⟩ | ⟨q1, q2⟩
    · exact bad (by unfold f_BS_checkNumber; rw [if_pos q]) (fun G => wi_lo G _ _ _ q)
    · clear bad
      have q1 : ¬ nI j < 0 := nI_pos (by omega)
      have q2 : nI j < 264 := nI_lt (b := 264) hj (by decide)
      have q3 : ¬ (263 : Int32) < nI j := nI_nlt (a := 263) (by omega) (by decide)
      have q0 : f_BS_checkNumber G (nI j) = 0 := by unfold f_BS_checkNumber; rw [if_neg q1, if_pos q2]
      have w : ∀ G, ¬ f_Mo_within G (nI j) 0 263 = 0 := fun G => by rw [wi_1 G _ _ _ q1 q3]; exact ne10
      obtain ⟨n1, n2⟩ := num_at N hNN st co wr od nw tm j G r11 h8 t1 t2 hj (by omega) (by omega) r6 (by have := r10 j (by omega); unfold stC at this; rw [if_pos hj] at this; exact this)
      have u := wh_c N (nI tm) st co wr od nw j G p3 r11 h8 hj (by omega) r7 N (tm - od) (by omega) (by omega)
      have v := wh_m (nI tm) st co wr od nw j (g_up G 16 0 0) p3 (fun t x y => m10 t x y) (by omega) (by omega) (by simp [g_up, m6]) (by simp [g_up, m7]) (m9 j (by omega)) N (tm - od) (by omega) (by omega)
      rw [show od + (tm - od) = tm by omega] at u v
      have e : f_BS_when N G (nI tm) (nI j) p3 = (0, whF st j p3 od (tm - od)) := by unfold f_BS_when; rw [if_pos k1, if_pos q0, n2]; exact u.2
      have e2 : f_Mo_when N G (nI tm) (nI j) p3 = (whF st j p3 od (tm - od), g_up G 16 0 0) := by unfold f_Mo_when; rw [if_neg kk, if_neg (w _)]; exact v.2
      rw [e, e2]
      exact ⟨⟨fun _ => ⟨fun _ => ⟨n1, by rw [n2]; exact u.1⟩, trivial⟩, trivial⟩, ⟨fun z => absurd z kk, fun _ => ⟨fun z => absurd z (w _), fun _ => v.1⟩⟩, thr_e G 0, fun _ => rfl, Rl_th h0 0⟩
    · exact bad (by unfold f_BS_checkNumber; rw [if_neg q1, if_neg (show ¬ p2 < 264 from q2)]) (fun G => wi_hi G _ _ _ (pred_lt 263 (by decide) p2 q2))
  · have q0 : ¬ f_BS_checkTime G p1 = 0 := by rw [k1]; decide
    have kk : f_Mo_isKept (g_up G 16 0 0) p1 = 0 := by rw [ik, k2]
    have e : f_BS_when N G p1 p2 p3 = (1, 0) := by unfold f_BS_when; rw [if_neg q0, k1]
    have e2 : f_Mo_when N G p1 p2 p3 = (0, g_up G 16 0 1) := by unfold f_Mo_when; rw [if_pos kk, fail_e]
    rw [e, e2]
    exact ⟨⟨fun z => absurd z q0, trivial⟩, ⟨fun _ => trivial, fun z => absurd kk z⟩, thr_e G 1, fun z => absurd (show (1 : Nat) = 0 from z) (by decide), Rl_th h0 1⟩
theorem op_cost (T : Nat) (hT : T < 2 ^ 29) (G : gT) (p1 : Int32) (h : Rl T G) : ok_BS_cost G p1 ∧ ok_Mo_cost G p1 ∧ f_Mo_thrown (f_Mo_cost G p1).2 = kx1 (f_BS_cost G p1).1 ∧ ((f_BS_cost G p1).1 = 0 → (f_BS_cost G p1).2 = (f_Mo_cost G p1).1) ∧ Rl T (f_Mo_cost G p1).2 := by
  have h0 := h
  obtain ⟨P, I, gv, rm, d, ⟨nw, od, go, st, co, wr⟩, a, b, c, m⟩ := h
  have b : nw ≤ T := b
  obtain ⟨h1, h2, h3, h4, h5, h6, h7, h8, h9, h10⟩ := a
  obtain ⟨r1, r2, r3, r4, r5, r6, r7, r8, r9, r10, r11⟩ := c
  obtain ⟨m1, m2, m3, m4, m5, m6, m7, m8, m9, m10⟩ := m
  have bad : f_BS_cost G p1 = (1, 0) → ok_BS_cost G p1 → f_Mo_within (g_up G 16 0 0) p1 (G 16 12) ((G 16 11) - (1 : Int32)) = 0 → ok_BS_cost G p1 ∧ ok_Mo_cost G p1 ∧ f_Mo_thrown (f_Mo_cost G p1).2 = kx1 (f_BS_cost G p1).1 ∧ ((f_BS_cost G p1).1 = 0 → (f_BS_cost G p1).2 = (f_Mo_cost G p1).1) ∧ Rl T (f_Mo_cost G p1).2 := by
    intro e o w
    have e2 : f_Mo_cost G p1 = (0, g_up G 16 0 1) := by unfold f_Mo_cost; rw [if_pos w, fail_e]
    rw [e, e2]
    exact ⟨o, ⟨fun _ => trivial, fun z => absurd w z⟩, thr_e G 1, fun z => absurd (show (1 : Nat) = 0 from z) (by decide), Rl_th h0 1⟩
  by_cases q : p1 < nI od
  · have q' : p1 < G 7 2 := by rw [r7]; exact q
    exact bad (by unfold f_BS_cost; rw [if_pos q']) ⟨fun _ => trivial, fun z => absurd q' z⟩ (by rw [m7]; exact wi_lo _ _ _ _ q)
  · have q' : ¬ p1 < G 7 2 := by rw [r7]; exact q
    have q0 : ¬ p1 < 0 := fun z => q (by rw [Int32.lt_iff_toInt_lt] at z ⊢; rw [nI_toInt (by omega)]; rw [Int32.toInt_zero] at z; omega)
    obtain ⟨t, ht, rfl⟩ := nI_of q0
    by_cases q2 : t < nw
    · have q3 : nI t < G 7 1 := by rw [r6]; exact nI_lt q2 (by omega)
      have to : od ≤ t := Nat.not_lt.mp fun z => q ((nI_ltI (by omega) (by omega)).mpr z)
      have e : f_BS_cost G (nI t) = (0, nI (co t)) := by unfold f_BS_cost f_Ro_costOf; rw [if_neg q', if_pos q3, c_ro, (r11 t to q2).1]
      have w : ¬ f_Mo_within (g_up G 16 0 0) (nI t) (G 16 12) ((G 16 11) - (1 : Int32)) = 0 := by
        rw [m7, m6, wi_1 _ _ _ _ q (by rw [Int32.lt_iff_toInt_lt, pm_toInt (by omega), nI_toInt (by omega)]; omega)]; exact ne10
      have e2 : f_Mo_cost G (nI t) = (nI (co t), g_up G 16 0 0) := by unfold f_Mo_cost; rw [if_neg w, c_mo _ (by omega), (m10 t to q2).1]
      rw [e, e2]
      exact ⟨⟨fun z => absurd z q', fun _ => ⟨fun _ => ⟨⟨v_ro G t, trivial⟩, trivial⟩, fun z => absurd q3 z⟩⟩, ⟨fun z => absurd z w, fun _ => ⟨v_mo _ (by omega), trivial⟩⟩, thr_e G 0, fun _ => rfl, Rl_th h0 0⟩
    · have q3 : ¬ nI t < G 7 1 := by rw [r6]; exact nI_nlt (by omega) (by omega)
      exact bad (by unfold f_BS_cost; rw [if_neg q', if_neg q3]) ⟨fun z => absurd z q', fun _ => ⟨fun z => absurd z q3, fun _ => trivial⟩⟩ (by rw [m7, m6]; exact wi_hi _ _ _ _ (by rw [Int32.lt_iff_toInt_lt, pm_toInt (by omega), nI_toInt (by omega)]; omega))
