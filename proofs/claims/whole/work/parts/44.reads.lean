/-! look, wrote, when, cost: calls that only read. -/
theorem nb_e (st : Nat → Nat → Int32) (co : Nat → Nat) (wr : Nat → Int32) (od nw t i : Nat) (G : gT) (v : Int32) (hR : Rws st co wr od nw G) (hF : HF st co wr od nw) (h1 : od ≤ t) (h2 : t < nw) (hi : i < 264) (hv : v = st (t + 1) i) :
    ok_Ro_numberBefore G (nI t) (nI i) v ∧ f_Ro_numberBefore G (nI t) (nI i) v = st t i := by
  obtain ⟨r8, r9, r10, -⟩ := hR t h1 h2
  obtain ⟨f1, f2, f3, f4⟩ := hF t h1 h2
  have vs := v_ro G t
  refine ⟨⟨vs, fun _ => ⟨vs, trivial⟩, fun _ => trivial⟩, ?_⟩
  unfold f_Ro_numberBefore
  rw [c_ro, r9]
  by_cases q : wr t = nI i
  · rw [if_pos q]
    have := (r10 (by rw [q]; exact nI_nm1 (by omega))).1
    rw [q, nI_clamp (by omega)] at this
    exact this
  · rw [if_neg q, hv]
    exact f4 i hi q
theorem num_loop (st : Nat → Nat → Int32) (co : Nat → Nat) (wr : Nat → Int32) (od nw tm i : Nat) (G : gT) (hR : Rws st co wr od nw G) (hF : HF st co wr od nw) (ho : od ≤ tm) (hi : i < 264) (hnw : nw < 2 ^ 29) : ∀ (n j : Nat), j < n → tm + j ≤ nw →
    ok_BS_numberAt_L19 n G (nI tm) (nI i) (st (tm + j) i) (nI (tm + j)) ∧ f_BS_numberAt_L19 n G (nI tm) (nI i) (st (tm + j) i) (nI (tm + j)) = st tm i := by
  intro n
  induction n with
  | zero => intro j h; omega
  | succ n ih =>
    intro j hj ht
    cases j with
    | zero =>
      have c1 : nI (tm + 0) ≤ nI tm := nI_le (by omega) (by omega)
      exact ⟨⟨fun _ => trivial, fun q => absurd c1 q⟩, by rw [f_BS_numberAt_L19, if_pos c1]; rfl⟩
    | succ j =>
      have c1 : ¬ nI (tm + (j + 1)) ≤ nI tm := nI_ge (by omega) (by omega)
      have s1 : nI (tm + (j + 1)) - 1 = nI (tm + j) := by rw [← Nat.add_assoc, nI_s1]
      have s2 : nI (tm + (j + 1)) + (-1) = nI (tm + j) := by rw [← Nat.add_assoc, nI_m1]
      obtain ⟨o1, o2⟩ := nb_e st co wr od nw (tm + j) i G (st (tm + (j + 1)) i) hR hF (by omega) (by omega) hi rfl
      obtain ⟨i1, i2⟩ := ih j (by omega) (by omega)
      refine ⟨⟨fun z => absurd z c1, fun _ => ?_⟩, ?_⟩
      · rw [s1, s2, o2]; exact ⟨o1, i1⟩
      · rw [f_BS_numberAt_L19, if_neg c1, s1, s2, o2]; exact i2
theorem num_at (N : Nat) (hNN : 2001 ≤ N) (st : Nat → Nat → Int32) (co : Nat → Nat) (wr : Nat → Int32) (od nw tm i : Nat) (G : gT) (hR : Rws st co wr od nw G) (hF : HF st co wr od nw) (ho : od ≤ tm) (ht : tm ≤ nw) (hi : i < 264) (hnw : nw < 2 ^ 29) (hl : nw - od ≤ 1024) (h71 : G 7 1 = nI nw) (hs : G 4 i = st nw i) :
    ok_BS_numberAt N G (nI tm) (nI i) ∧ f_BS_numberAt N G (nI tm) (nI i) = st tm i := by
  have h := num_loop st co wr od nw tm i G hR hF ho hi hnw N (nw - tm) (by omega) (by omega)
  rw [show tm + (nw - tm) = nw by omega] at h
  unfold ok_BS_numberAt f_BS_numberAt
  rw [nI_clamp (by omega), h71, hs]
  exact ⟨⟨vp_in_nI hi (by decide), h.1⟩, h.2⟩
theorem rest_at (st : Nat → Nat → Int32) (co : Nat → Nat) (wr : Nat → Int32) (od nw tm i : Nat) (G : gT) (hR : Rws st co wr od nw G) (hF : HF st co wr od nw) (ho : od ≤ tm) (ht : tm ≤ nw) (hi : 264 ≤ i) (hi2 : i < 269) (hnw : nw < 2 ^ 29) (h71 : G 7 1 = nI nw) (hs : ∀ i, i < 269 → stC 3 4 G i = st nw i) :
    ok_BS_restAt G (nI tm) (nI i) ∧ f_BS_restAt G (nI tm) (nI i) = st tm i := by
  unfold ok_BS_restAt f_BS_restAt
  rw [h71]
  by_cases z : tm = nw
  · subst z
    refine ⟨⟨fun _ => trivial, fun q => absurd rfl q⟩, ?_⟩
    rw [if_pos rfl]
    have := hs i hi2
    rcases (show i = 264 ∨ i = 265 ∨ i = 266 ∨ i = 267 ∨ i = 268 by omega) with rfl | rfl | rfl | rfl | rfl <;> rw [← this] <;> unfold f_Ma_rest_3 stC <;> rfl
  · have q : ¬ nI tm = nI nw := fun w => z ((nI_eq (by omega) (by omega)).mp w)
    have vs := v_ro G tm
    obtain ⟨r8, r9, r10, r12, r13, r14, r15⟩ := hR tm ho (by omega)
    obtain ⟨f1, -⟩ := hF tm ho (by omega)
    refine ⟨⟨fun w => absurd w q, fun _ => ⟨⟨fun _ => ⟨vs, trivial⟩, fun _ => ⟨fun _ => ⟨vs, trivial⟩, fun _ => ⟨fun _ => ⟨vs, trivial⟩, fun _ => ⟨fun _ => ⟨vs, trivial⟩, fun _ => trivial⟩⟩⟩⟩, trivial⟩⟩, ?_⟩
    rw [if_neg q]
    unfold f_Ro_restBefore
    rw [c_ro, r12, r13, r14, r15]
    rcases (show i = 264 ∨ i = 265 ∨ i = 266 ∨ i = 267 ∨ i = 268 by omega) with rfl | rfl | rfl | rfl | rfl
    · rfl
    · rfl
    · rfl
    · rfl
    · exact f1.symm
theorem iskept_e (G : gT) (p1 v : Int32) (od nw : Nat) (m6 : G 16 11 = nI nw) (m7 : G 16 12 = nI od) : f_Mo_isKept (g_up G 16 0 v) p1 = f_Mo_within G p1 (nI od) (nI nw) := by
  unfold f_Mo_isKept f_Mo_within
  rw [show g_up G 16 0 v 16 12 = G 16 12 from by simp [g_up], show g_up G 16 0 v 16 11 = G 16 11 from by simp [g_up], m6, m7]
theorem op_look (N : Nat) (hNN : 2001 ≤ N) (T : Nat) (hT : T < 2 ^ 29) (G : gT) (p1 p2 : Int32) (h : Rl T G) : ok_BS_look N G p1 p2 ∧ ok_Mo_look G p1 p2 ∧ f_Mo_thrown (f_Mo_look G p1 p2).2 = kx2 (f_BS_look N G p1 p2).1 ∧ ((f_BS_look N G p1 p2).1 = 0 → (f_BS_look N G p1 p2).2 = (f_Mo_look G p1 p2).1) ∧ Rl T (f_Mo_look G p1 p2).2 := by
  have h0 := h
  obtain ⟨P, I, gv, rm, d, ⟨nw, od, go, st, co, wr⟩, a, b, c, m⟩ := h
  have hlen := av_len a
  have b : nw ≤ T := b
  obtain ⟨h1, h2, h3, h4, h5, h6, h7, h8, h9, h10⟩ := a
  obtain ⟨r1, r2, r3, r4, r5, r6, r7, r8, r9, r10, r11⟩ := c
  obtain ⟨m1, m2, m3, m4, m5, m6, m7, m8, m9, m10⟩ := m
  have ik := iskept_e G p1 0 od nw m6 m7
  rcases kept_c G p1 od nw h1 (by omega) r6 r7 with ⟨tm, t1, t2, rfl, k1, k2⟩ | ⟨k1, k2⟩
  · have kk : ¬ f_Mo_isKept (g_up G 16 0 0) (nI tm) = 0 := by rw [ik, k2]; exact ne10
    rcases rng p2 269 (by decide) with q | ⟨i, hi, rfl⟩ | ⟨q1, q2⟩
    · have e : f_BS_look N G (nI tm) p2 = (2, 0) := by unfold f_BS_look; rw [if_pos k1, if_pos q]
      have w := wi_lo (g_up G 16 0 0) p2 0 268 q
      have e2 : f_Mo_look G (nI tm) p2 = (0, g_up G 16 0 2) := by unfold f_Mo_look; rw [if_neg kk, if_pos w, fail_e]
      rw [e, e2]
      exact ⟨⟨fun _ => ⟨fun _ => trivial, fun z => absurd q z⟩, trivial⟩, ⟨fun z => absurd z kk, fun _ => ⟨fun _ => trivial, fun z => absurd w z⟩⟩, thr_e G 2, fun z => absurd (show (2 : Nat) = 0 from z) (by decide), Rl_th h0 2⟩
    · have q1 : ¬ nI i < 0 := nI_pos (by omega)
      have q2 : nI i ≤ 268 := nI_le (b := 268) (by omega) (by decide)
      have w : ¬ f_Mo_within (g_up G 16 0 0) (nI i) 0 268 = 0 := by rw [wi_1 _ _ _ _ q1 (Int32.not_lt.mpr q2)]; exact ne10
      obtain ⟨s1, s2⟩ := st_at (g_up G 16 0 0) st co wr od nw (by omega) (by simp [g_up, m6]) (fun t x y => m10 t x y) tm i t1 t2 hi (fun _ => m9 i hi)
      have e2 : f_Mo_look G (nI tm) (nI i) = (st tm i, g_up G 16 0 0) := by unfold f_Mo_look; rw [if_neg kk, if_neg w, s2]
      have okm : ok_Mo_look G (nI tm) (nI i) := ⟨fun z => absurd z kk, fun _ => ⟨fun z => absurd z w, fun _ => ⟨s1, trivial⟩⟩⟩
      by_cases z : i < 264
      · have q3 : ¬ (264 : Int32) ≤ nI i := nI_ge (b := 264) z (by decide)
        obtain ⟨n1, n2⟩ := num_at N hNN st co wr od nw tm i G r11 h8 t1 t2 z (by omega) (by omega) r6 (by have := r10 i (by omega); unfold stC at this; rw [if_pos z] at this; exact this)
        have e : f_BS_look N G (nI tm) (nI i) = (0, st tm i) := by unfold f_BS_look; rw [if_pos k1, if_neg q1, if_pos q2, if_neg q3, n2]
        rw [e, e2]
        exact ⟨⟨fun _ => ⟨fun z => absurd z q1, fun _ => ⟨fun _ => ⟨fun z => absurd z q3, fun _ => ⟨n1, trivial⟩⟩, fun z => absurd q2 z⟩⟩, trivial⟩, okm, thr_e G 0, fun _ => rfl, Rl_th h0 0⟩
      · have q3 : (264 : Int32) ≤ nI i := nI_le (a := 264) (by omega) (by omega)
        obtain ⟨n1, n2⟩ := rest_at st co wr od nw tm i G r11 h8 t1 t2 (by omega) hi (by omega) r6 r10
        have e : f_BS_look N G (nI tm) (nI i) = (0, st tm i) := by unfold f_BS_look; rw [if_pos k1, if_neg q1, if_pos q2, if_pos q3, n2]
        rw [e, e2]
        exact ⟨⟨fun _ => ⟨fun z => absurd z q1, fun _ => ⟨fun _ => ⟨fun _ => ⟨n1, trivial⟩, fun z => absurd q3 z⟩, fun z => absurd q2 z⟩⟩, trivial⟩, okm, thr_e G 0, fun _ => rfl, Rl_th h0 0⟩
    · have q4 : (268 : Int32) < p2 := pred_lt 268 (by decide) p2 q2
      have q3 : ¬ p2 ≤ 268 := Int32.not_le.mpr q4
      have e : f_BS_look N G (nI tm) p2 = (2, 0) := by unfold f_BS_look; rw [if_pos k1, if_neg q1, if_neg q3]
      have w := wi_hi (g_up G 16 0 0) p2 0 268 q4
      have e2 : f_Mo_look G (nI tm) p2 = (0, g_up G 16 0 2) := by unfold f_Mo_look; rw [if_neg kk, if_pos w, fail_e]
      rw [e, e2]
      exact ⟨⟨fun _ => ⟨fun z => absurd z q1, fun _ => ⟨fun z => absurd z q3, fun _ => trivial⟩⟩, trivial⟩, ⟨fun z => absurd z kk, fun _ => ⟨fun _ => trivial, fun z => absurd w z⟩⟩, thr_e G 2, fun z => absurd (show (2 : Nat) = 0 from z) (by decide), Rl_th h0 2⟩
  · have q0 : ¬ f_BS_checkTime G p1 = 0 := by rw [k1]; decide
    have kk : f_Mo_isKept (g_up G 16 0 0) p1 = 0 := by rw [ik, k2]
    have e : f_BS_look N G p1 p2 = (1, 0) := by unfold f_BS_look; rw [if_neg q0, k1]
    have e2 : f_Mo_look G p1 p2 = (0, g_up G 16 0 1) := by unfold f_Mo_look; rw [if_pos kk, fail_e]
    rw [e, e2]
    exact ⟨⟨fun z => absurd z q0, trivial⟩, ⟨fun _ => trivial, fun z => absurd kk z⟩, thr_e G 1, fun z => absurd (show (1 : Nat) = 0 from z) (by decide), Rl_th h0 1⟩
def wrF (wr : Nat → Int32) (v : Int32) (od : Nat) : Nat → Int32
  | 0 => -1
  | j + 1 => if wr (od + j) = v then nI (od + j + 1) else wrF wr v od j
theorem wr_c (st : Nat → Nat → Int32) (co : Nat → Nat) (wr : Nat → Int32) (od nw : Nat) (G : gT) (v : Int32) (hR : Rws st co wr od nw G) (hnw : nw < 2 ^ 29) (h72 : G 7 2 = nI od) : ∀ (n j : Nat), j < n → od + j ≤ nw →
    ok_BS_wrote_L13 n G v (nI (od + j)) ∧ f_BS_wrote_L13 n G v (nI (od + j)) = (0, wrF wr v od j) := by
  intro n
  induction n with
  | zero => intro j h; omega
  | succ n ih =>
    intro j hj ht
    cases j with
    | zero =>
      have c1 : nI (od + 0) ≤ G 7 2 := by rw [h72]; exact nI_le (by omega) (by omega)
      exact ⟨⟨fun _ => trivial, fun q => absurd c1 q⟩, by rw [f_BS_wrote_L13, if_pos c1]; rfl⟩
    | succ j =>
      have c1 : ¬ nI (od + (j + 1)) ≤ G 7 2 := by rw [h72]; exact nI_ge (by omega) (by omega)
      have s1 : nI (od + (j + 1)) - 1 = nI (od + j) := by rw [← Nat.add_assoc, nI_s1]
      have s2 : nI (od + (j + 1)) + (-1) = nI (od + j) := by rw [← Nat.add_assoc, nI_m1]
      have e9 : f_Ro_writtenBy G (nI (od + j)) = wr (od + j) := by unfold f_Ro_writtenBy; rw [c_ro]; exact (hR (od + j) (by omega) (by omega)).2.1
      obtain ⟨i1, i2⟩ := ih j (by omega) (by omega)
      refine ⟨⟨fun z => absurd z c1, fun _ => ?_⟩, ?_⟩
      · rw [s1, s2]; exact ⟨⟨v_ro G _, trivial⟩, fun _ => trivial, fun _ => i1⟩
      · rw [f_BS_wrote_L13, if_neg c1, s1, s2, e9, i2]
        show _ = (0, if wr (od + j) = v then nI (od + j + 1) else wrF wr v od j)
        by_cases q : wr (od + j) = v
        · rw [if_pos q, if_pos q]; rfl
        · rw [if_neg q, if_neg q]
theorem pm_toInt {n : Nat} (h : n < 2 ^ 30) : (nI n - 1).toInt = (n : Int) - 1 := by
  cases n with
  | zero => decide
  | succ n => rw [nI_s1, nI_toInt (by omega)]; omega
theorem wr_m (st : Nat → Nat → Int32) (co : Nat → Nat) (wr : Nat → Int32) (od nw : Nat) (G : gT) (v : Int32) (hM : Ms st co wr od nw G) (hnw : nw < 2 ^ 29) (h12 : G 16 12 = nI od) : ∀ (n j : Nat), j < n → od + j ≤ nw →
    ok_Mo_wrote_L29 n G v (nI (od + j) - 1) ∧ f_Mo_wrote_L29 n G v (nI (od + j) - 1) = (wrF wr v od j, G) := by
  intro n
  induction n with
  | zero => intro j h; omega
  | succ n ih =>
    intro j hj ht
    cases j with
    | zero =>
      have c1 : nI (od + 0) - 1 < G 16 12 := by rw [h12, Int32.lt_iff_toInt_lt, pm_toInt (by omega), nI_toInt (by omega)]; omega
      exact ⟨⟨fun _ => trivial, fun q => absurd c1 q⟩, by rw [f_Mo_wrote_L29, if_pos c1]; rfl⟩
    | succ j =>
      have s1 : nI (od + (j + 1)) - 1 = nI (od + j) := by rw [← Nat.add_assoc, nI_s1]
      rw [s1]
      have c1 : ¬ nI (od + j) < G 16 12 := by rw [h12]; exact nI_nlt (by omega) (by omega)
      have e9 := (hM (od + j) (by omega) (by omega)).2.1
      have hx := c_mo G (t := od + j) (by omega)
      obtain ⟨i1, i2⟩ := ih j (by omega) (by omega)
      rw [Int32.sub_eq_add_neg] at i1 i2
      refine ⟨⟨fun z => absurd z c1, fun _ => ⟨v_mo G (by omega), fun _ => trivial, fun _ => i1⟩⟩, ?_⟩
      rw [f_Mo_wrote_L29, if_neg c1, hx, e9, nI_1]
      unfold wrF
      by_cases q : wr (od + j) = v
      · rw [if_pos q, if_pos q]
      · rw [if_neg q, if_neg q]; exact i2
theorem op_wrote (N : Nat) (hNN : 2001 ≤ N) (T : Nat) (hT : T < 2 ^ 29) (G : gT) (p1 : Int32) (h : Rl T G) : ok_BS_wrote N G p1 ∧ ok_Mo_wrote N G p1 ∧ f_Mo_thrown (f_Mo_wrote N G p1).2 = kx1 (f_BS_wrote N G p1).1 ∧ ((f_BS_wrote N G p1).1 = 0 → (f_BS_wrote N G p1).2 = (f_Mo_wrote N G p1).1) ∧ Rl T (f_Mo_wrote N G p1).2 := by
  have bad : f_BS_checkNumber G p1 = 2 → (∀ G, f_Mo_within G p1 0 263 = 0) → ok_BS_wrote N G p1 ∧ ok_Mo_wrote N G p1 ∧ f_Mo_thrown (f_Mo_wrote N G p1).2 = kx1 (f_BS_wrote N G p1).1 ∧ ((f_BS_wrote N G p1).1 = 0 → (f_BS_wrote N G p1).2 = (f_Mo_wrote N G p1).1) ∧ Rl T (f_Mo_wrote N G p1).2 := by
    intro q w
    have q0 : ¬ f_BS_checkNumber G p1 = 0 := by rw [q]; decide
    have e : f_BS_wrote N G p1 = (2, 0) := by unfold f_BS_wrote; rw [if_neg q0, q]
    have e2 : f_Mo_wrote N G p1 = (0, g_up G 16 0 1) := by unfold f_Mo_wrote; rw [if_pos (w _), fail_e]
    rw [e, e2]
    exact ⟨⟨fun z => absurd z q0, trivial⟩, ⟨fun _ => trivial, fun z => absurd (w _) z⟩, thr_e G 1, fun z => absurd (show (2 : Nat) = 0 from z) (by decide), Rl_th h 1⟩
  rcases rng p1 264 (by decide) with q | ⟨j, hj, rfl⟩ | ⟨q1, q2⟩
  · exact bad (by unfold f_BS_checkNumber; rw [if_pos q]) (fun G => wi_lo G _ _ _ q)
  · clear bad
    have h0 := h
    obtain ⟨P, I, gv, rm, d, ⟨nw, od, go, st, co, wr⟩, a, b, c, m⟩ := h
    have hlen := av_len a
    have b : nw ≤ T := b
    obtain ⟨h1, h2, h3, h4, h5, h6, h7, h8, h9, h10⟩ := a
    obtain ⟨r1, r2, r3, r4, r5, r6, r7, r8, r9, r10, r11⟩ := c
    obtain ⟨m1, m2, m3, m4, m5, m6, m7, m8, m9, m10⟩ := m
    have q1 : ¬ nI j < 0 := nI_pos (by omega)
    have q2 : nI j < 264 := nI_lt (b := 264) hj (by decide)
    have q3 : ¬ (263 : Int32) < nI j := nI_nlt (a := 263) (by omega) (by decide)
    have q0 : f_BS_checkNumber G (nI j) = 0 := by unfold f_BS_checkNumber; rw [if_neg q1, if_pos q2]
    have w : ∀ G, ¬ f_Mo_within G (nI j) 0 263 = 0 := fun G => by rw [wi_1 G _ _ _ q1 q3]; exact ne10
    have u := wr_c st co wr od nw G (nI j) r11 (by omega) r7 N (nw - od) (by omega) (by omega)
    have v := wr_m st co wr od nw (g_up G 16 0 0) (nI j) (fun t x y => m10 t x y) (by omega) (by simp [g_up, m7]) N (nw - od) (by omega) (by omega)
    rw [show od + (nw - od) = nw by omega] at u v
    have e : f_BS_wrote N G (nI j) = (0, wrF wr (nI j) od (nw - od)) := by unfold f_BS_wrote; rw [if_pos q0, r6]; exact u.2
    have e2 : f_Mo_wrote N G (nI j) = (wrF wr (nI j) od (nw - od), g_up G 16 0 0) := by unfold f_Mo_wrote; rw [if_neg (w _), m6]; exact v.2
    rw [e, e2]
    refine ⟨⟨fun _ => by rw [r6]; exact u.1, trivial⟩, ⟨fun z => absurd z (w _), fun _ => by rw [m6]; exact v.1⟩, thr_e G 0, fun _ => rfl, Rl_th h0 0⟩
  · exact bad (by unfold f_BS_checkNumber; rw [if_neg q1, if_neg (show ¬ p1 < 264 from q2)]) (fun G => wi_hi G _ _ _ (pred_lt 263 (by decide) p1 q2))
