/-! step: as many steps of the history as class and reference do. -/
def Rch (P I : Nat → Int32) (gv rm : Nat) : Nat → aH → Nat → aH → Prop
  | 0, h, j, h' => j = 0 ∧ h' = h
  | m + 1, h, j, h' => (¬ canS P gv (h.2.2.2.1 h.1) ∧ j = 0 ∧ h' = h) ∨ (canS P gv (h.2.2.2.1 h.1) ∧ ∃ j0, j = j0 + 1 ∧ Rch P I gv rm m (hS P I rm h) j0 h')
theorem rch_ex (P I : Nat → Int32) (gv rm : Nat) : ∀ (m : Nat) (h : aH), ∃ j h', Rch P I gv rm m h j h' := by
  intro m
  induction m with
  | zero => intro h; exact ⟨0, h, rfl, rfl⟩
  | succ m ih =>
    intro h
    by_cases q : canS P gv (h.2.2.2.1 h.1)
    · obtain ⟨j, h', e⟩ := ih (hS P I rm h)
      exact ⟨j + 1, h', Or.inr ⟨q, j, rfl, e⟩⟩
    · exact ⟨0, h, Or.inl ⟨q, rfl, rfl⟩⟩
theorem hS_1 (P I : Nat → Int32) (rm : Nat) (h : aH) : (hS P I rm h).1 = h.1 + 1 := by
  obtain ⟨nw, od, go, st, co, wr⟩ := h; rfl
theorem rch_av (P I : Nat → Int32) (gv rm d : Nat) : ∀ (m : Nat) (h : aH) (j : Nat) (h' : aH), AV gv rm d h → Rch P I gv rm m h j h' → AV gv rm d h' ∧ h'.1 ≤ h.1 + m := by
  intro m
  induction m with
  | zero => intro h j h' a r; obtain ⟨-, rfl⟩ := r; exact ⟨a, by omega⟩
  | succ m ih =>
    intro h j h' a r
    rcases r with ⟨-, -, rfl⟩ | ⟨q, j0, -, r⟩
    · exact ⟨a, by omega⟩
    · obtain ⟨x, y⟩ := ih _ j0 h' (av_step P I gv rm d h a q) r
      rw [hS_1] at y
      exact ⟨x, by omega⟩
theorem cls_loop (N : Nat) (hNN : 2000 ≤ N) (P I : Nat → Int32) (gv rm d : Nat) : ∀ (n m x2 : Nat) (h : aH) (G : gT) (j : Nat) (h' : aH), m < n → x2 + m ≤ 2000 → h.1 + m < 2 ^ 29 → AV gv rm d h → RC P I gv rm d h G → Rch P I gv rm m h j h' →
    ok_BS_step_L24 N n G (nI (x2 + m)) (nI x2) ∧ ∃ G', f_BS_step_L24 N n G (nI (x2 + m)) (nI x2) = (0, nI (x2 + j), G') ∧ RC P I gv rm d h' G' ∧ ∀ a, 16 ≤ a → G' a = G a := by
  intro n
  induction n with
  | zero => intro m x2 h G j h' hm; omega
  | succ n ih =>
    intro m x2 h G j h' hm hx hT ha hr r
    cases m with
    | zero =>
      obtain ⟨rfl, rfl⟩ := r
      have c1 : nI (x2 + 0) ≤ nI x2 := nI_le (by omega) (by omega)
      exact ⟨⟨fun _ => trivial, fun q => absurd c1 q⟩, G, by rw [f_BS_step_L24, if_pos c1]; rfl, hr, fun _ _ => rfl⟩
    | succ m =>
      have c1 : ¬ nI (x2 + (m + 1)) ≤ nI x2 := nI_ge (by omega) (by omega)
      rcases r with ⟨q, rfl, rfl⟩ | ⟨q, j0, rfl, r⟩
      · obtain ⟨o1, o2⟩ := cls_stop P I gv rm d h' G ha hr q
        have z : (f_Ma_advance_3 G (G 0 3)).1 = 0 := by rw [o2]
        refine ⟨⟨fun z => absurd z c1, fun _ => ⟨o1, fun _ => trivial, fun z2 => absurd z z2⟩⟩, G, ?_, hr, fun _ _ => rfl⟩
        rw [f_BS_step_L24, if_neg c1, if_pos z, o2]; rfl
      · obtain ⟨o1, o2, o3, o4, o5⟩ := cls_once N hNN P I gv rm d h G (by omega) ha hr q
        have z : ¬ (f_Ma_advance_3 G (G 0 3)).1 = 0 := by rw [o2]; decide
        obtain ⟨i1, G', i2, i3, i4⟩ := ih m (x2 + 1) (hS P I rm h) _ j0 h' (by omega) (by omega) (by rw [hS_1]; omega) (av_step P I gv rm d h ha q) o4 r
        rw [show x2 + 1 + m = x2 + (m + 1) by omega, ← nI_1] at i1 i2
        refine ⟨⟨fun z => absurd z c1, fun _ => ⟨o1, fun z2 => absurd z2 z, fun _ => ⟨o3, i1⟩⟩⟩, G', ?_, i3, fun a ha => (i4 a ha).trans (o5 a ha)⟩
        rw [f_BS_step_L24, if_neg c1, if_neg z, i2, show x2 + 1 + j0 = x2 + (j0 + 1) by omega]
theorem mod_loop (N : Nat) (hNN : 2000 ≤ N) (P I : Nat → Int32) (gv rm d : Nat) : ∀ (n m x2 : Nat) (h : aH) (G : gT) (j : Nat) (h' : aH), m < n → x2 + m ≤ 2000 → h.1 + m < 2 ^ 29 → AV gv rm d h → RM P I gv rm d h G → Rch P I gv rm m h j h' →
    ok_Mo_step_L24 N n G (nI (x2 + m)) (nI x2) ∧ ∃ G', f_Mo_step_L24 N n G (nI (x2 + m)) (nI x2) = (nI (x2 + j), G') ∧ RM P I gv rm d h' G' ∧ (∀ a, a < 16 → G' a = G a) ∧ G' 16 0 = G 16 0 := by
  intro n
  induction n with
  | zero => intro m x2 h G j h' hm; omega
  | succ n ih =>
    intro m x2 h G j h' hm hx hT ha hr r
    cases m with
    | zero =>
      obtain ⟨rfl, rfl⟩ := r
      have c1 : nI (x2 + 0) ≤ nI x2 := nI_le (by omega) (by omega)
      exact ⟨⟨fun _ => trivial, fun q => absurd c1 q⟩, G, by rw [f_Mo_step_L24, if_pos c1]; rfl, hr, fun _ _ => rfl, rfl⟩
    | succ m =>
      have c1 : ¬ nI (x2 + (m + 1)) ≤ nI x2 := nI_ge (by omega) (by omega)
      rcases r with ⟨q, rfl, rfl⟩ | ⟨q, j0, rfl, r⟩
      · obtain ⟨o1, G1, o2, o3, o4, o5⟩ := mod_stop N hNN P I gv rm d h' G (by omega) ha hr q
        have z : (f_Mo_stepOnce N G).1 = 0 := by rw [o2]
        refine ⟨⟨fun z => absurd z c1, fun _ => ⟨o1, fun _ => trivial, fun z2 => absurd z z2⟩⟩, G1, ?_, o3, o4, o5⟩
        rw [f_Mo_step_L24, if_neg c1, if_pos z, o2]; rfl
      · obtain ⟨o1, G1, o2, o3, o4, o5⟩ := mod_once N hNN P I gv rm d h G (by omega) ha hr q
        have z : ¬ (f_Mo_stepOnce N G).1 = 0 := by rw [o2]; exact ne10
        obtain ⟨i1, G', i2, i3, i4, i5⟩ := ih m (x2 + 1) (hS P I rm h) G1 j0 h' (by omega) (by omega) (by rw [hS_1]; omega) (av_step P I gv rm d h ha q) o3 r
        rw [show x2 + 1 + m = x2 + (m + 1) by omega, ← nI_1] at i1 i2
        refine ⟨⟨fun z => absurd z c1, fun _ => ⟨o1, fun z2 => absurd z2 z, fun _ => by rw [o2]; exact i1⟩⟩, G', ?_, i3, fun a ha => (i4 a ha).trans (o4 a ha), i5.trans o5⟩
        rw [f_Mo_step_L24, if_neg c1, if_neg z, o2]
        show f_Mo_step_L24 N n G1 _ _ = _
        rw [i2, show x2 + 1 + j0 = x2 + (j0 + 1) by omega]
theorem op_step (N : Nat) (hNN : 2001 ≤ N) (T : Nat) (hT : T + 2000 < 2 ^ 29) (G : gT) (p1 : Int32) (h : Rl T G) : ok_BS_step N G p1 ∧ ok_Mo_step N (f_BS_step N G p1).2.2 p1 ∧ f_Mo_thrown (f_Mo_step N (f_BS_step N G p1).2.2 p1).2 = kx1 (f_BS_step N G p1).1 ∧ ((f_BS_step N G p1).1 = 0 → (f_BS_step N G p1).2.1 = (f_Mo_step N (f_BS_step N G p1).2.2 p1).1) ∧ Rl (T + 2000) (f_Mo_step N (f_BS_step N G p1).2.2 p1).2 := by
  have mono : ∀ {G}, Rl T G → Rl (T + 2000) G := fun h => by
    obtain ⟨P, I, gv, rm, d, h, a, b, c, m⟩ := h
    exact ⟨P, I, gv, rm, d, h, a, by omega, c, m⟩
  by_cases q1 : p1 < 1
  · have e : f_BS_step N G p1 = (1, 0, G) := by unfold f_BS_step; rw [if_pos q1]
    rw [e]
    have w := wi_lo (g_up G 16 0 0) p1 1 2000 q1
    have e2 : f_Mo_step N G p1 = (0, g_up G 16 0 1) := by unfold f_Mo_step; rw [if_pos w, fail_e]
    show _ ∧ ok_Mo_step N G p1 ∧ f_Mo_thrown (f_Mo_step N G p1).2 = _ ∧ _ ∧ Rl (T + 2000) (f_Mo_step N G p1).2
    rw [e2]
    exact ⟨⟨fun _ => trivial, fun z => absurd q1 z⟩, ⟨fun _ => trivial, fun z => absurd w z⟩, thr_e G 1, fun z => absurd (show (1 : Nat) = 0 from z) (by decide), mono (Rl_th h 1)⟩
  · by_cases q2 : p1 ≤ 2000
    · have q0 : ¬ p1 < 0 := fun z => q1 (Int32.lt_trans z (by decide))
      obtain ⟨k, hk, rfl⟩ := nI_of2 (M := 2000) (n := 2000) (by decide) q0 q2
      obtain ⟨P, I, gv, rm, d, h, a, b, c, m⟩ := h
      obtain ⟨j, h', r⟩ := rch_ex P I gv rm k h
      obtain ⟨o1, G', o2, o3, o4⟩ := cls_loop N (by omega) P I gv rm d N k 0 h G j h' (by omega) (by omega) (by omega) a c r
      have mG' : RM P I gv rm d h G' := RM_fr m (fun a ha => o4 a (by omega)) (fun b _ => by rw [o4 16 (by decide)])
      obtain ⟨u1, G2, u2, u3, u4, u5⟩ := mod_loop N (by omega) P I gv rm d N k 0 h (g_up G' 16 0 0) j h' (by omega) (by omega) (by omega) a (RM_th mG' 0) r
      rw [nI_0, Nat.zero_add] at o1 o2 u1 u2
      rw [Nat.zero_add] at o2 u2
      have q3 : ¬ (2000 : Int32) < nI k := Int32.not_lt.mpr q2
      have w : ¬ f_Mo_within (g_up G' 16 0 0) (nI k) 1 2000 = 0 := by rw [wi_1 _ _ _ _ q1 q3]; decide
      have e : f_BS_step N G (nI k) = (0, nI j, G') := by unfold f_BS_step; rw [if_neg q1, if_pos q2]; exact o2
      have e2 : f_Mo_step N G' (nI k) = (nI j, G2) := by unfold f_Mo_step; rw [if_neg w]; exact u2
      rw [e]
      show _ ∧ ok_Mo_step N G' (nI k) ∧ f_Mo_thrown (f_Mo_step N G' (nI k)).2 = _ ∧ (_ → nI j = (f_Mo_step N G' (nI k)).1) ∧ Rl (T + 2000) (f_Mo_step N G' (nI k)).2
      rw [e2]
      obtain ⟨v1, v2⟩ := rch_av P I gv rm d k h j h' a r
      refine ⟨⟨fun z => absurd z q1, fun _ => ⟨fun _ => o1, fun z => absurd q2 z⟩⟩, ⟨fun z => absurd z w, fun _ => u1⟩, ?_, fun _ => rfl, P, I, gv, rm, d, h', v1, by omega, ?_, u3⟩
      · show G2 16 0 = kx1 0
        rw [u5]; simp [g_up, kx1]
      · exact RC_fr (RC_th o3 0) u4
    · have e : f_BS_step N G p1 = (1, 0, G) := by unfold f_BS_step; rw [if_neg q1, if_neg q2]
      rw [e]
      have w := wi_hi (g_up G 16 0 0) p1 1 2000 (Int32.not_le.mp q2)
      have e2 : f_Mo_step N G p1 = (0, g_up G 16 0 1) := by unfold f_Mo_step; rw [if_pos w, fail_e]
      show _ ∧ ok_Mo_step N G p1 ∧ f_Mo_thrown (f_Mo_step N G p1).2 = _ ∧ _ ∧ Rl (T + 2000) (f_Mo_step N G p1).2
      rw [e2]
      exact ⟨⟨fun z => absurd z q1, fun _ => ⟨fun z => absurd z q2, fun _ => trivial⟩⟩, ⟨fun _ => trivial, fun z => absurd w z⟩, thr_e G 1, fun z => absurd (show (1 : Nat) = 0 from z) (by decide), mono (Rl_th h 1)⟩
