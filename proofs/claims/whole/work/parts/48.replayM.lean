/-! replay, the reference's side, and both. -/
theorem is_same (P I : Nat → Int32) (st : Nat → Nat → Int32) (co : Nat → Nat) (wr : Nat → Int32) (od nw t : Nat) (G : gT) (hM : Ms st co wr od nw G) (h1 : od ≤ t) (h2 : t < nw) (hnw : nw < 2 ^ 29) (h11 : G 16 11 = nI nw) (h19 : ∀ i, i < 269 → G 19 i = st nw i) (h20 : ∀ i, i < 269 → G 20 i = hN P I (st t) i) : ∀ (n i : Nat), 270 - i < n → i ≤ 269 →
    (ok_Mo_isSame_L4 n G (nI (t + 1)) 1 (nI i) ∧ ((f_Mo_isSame_L4 n G (nI (t + 1)) 1 (nI i) = 0 ∧ ¬ ∀ k, i ≤ k → k < 269 → hN P I (st t) k = st (t + 1) k) ∨ (f_Mo_isSame_L4 n G (nI (t + 1)) 1 (nI i) = 1 ∧ ∀ k, i ≤ k → k < 269 → hN P I (st t) k = st (t + 1) k))) := by
  intro n
  induction n with
  | zero => intro i h; omega
  | succ n ih =>
    intro i hn hi
    by_cases z : i = 269
    · subst z
      have c1 : (269 : Int32) ≤ nI 269 := by decide
      exact ⟨⟨fun _ => ⟨Or.inr rfl, trivial⟩, fun q => absurd c1 q⟩, Or.inr ⟨by rw [f_Mo_isSame_L4, if_pos c1], fun k a b => by omega⟩⟩
    · have hlt : i < 269 := by omega
      have c1 : ¬ (269 : Int32) ≤ nI i := nI_ge (a := i) (b := 269) hlt (by decide)
      obtain ⟨s1, s2⟩ := st_at G st co wr od nw hnw h11 hM (t + 1) i (by omega) (by omega) hlt (fun _ => h19 i hlt)
      have cl : (nI i).toNatClampNeg = i := nI_clamp (by omega)
      obtain ⟨i1, i2⟩ := ih (i + 1) (by omega) (by omega)
      obtain ⟨n, rfl⟩ : ∃ n', n = n' + 1 := ⟨n - 1, by omega⟩
      have ok0 : ok_Mo_isSame_L4 (n + 1) G (nI (t + 1)) 0 (nI i + 1) := ⟨fun _ => ⟨Or.inl rfl, trivial⟩, fun _ => ⟨fun _ => ⟨Or.inl rfl, trivial⟩, fun q => absurd rfl q⟩⟩
      have f0 : f_Mo_isSame_L4 (n + 1) G (nI (t + 1)) 0 (nI i + 1) = 0 := by
        rw [f_Mo_isSame_L4]
        split
        · rfl
        · rfl
      refine ⟨⟨fun q => absurd q c1, fun _ => ⟨fun q => absurd q ne10, fun _ => ⟨vp_in_nI hlt (by decide), s1, fun _ => by rw [nI_1]; exact i1, fun _ => ok0⟩⟩⟩, ?_⟩
      rw [f_Mo_isSame_L4, if_neg c1, if_neg ne10, cl, s2, h20 i hlt]
      by_cases q : hN P I (st t) i = st (t + 1) i
      · rw [if_pos q, nI_1]
        rcases i2 with ⟨e, h⟩ | ⟨e, h⟩
        · exact Or.inl ⟨e, fun g => h (fun k a b => g k (by omega) b)⟩
        · refine Or.inr ⟨e, fun k a b => ?_⟩
          rcases Nat.eq_or_lt_of_le a with w | w
          · subst w; exact q
          · exact h k w b
      · rw [if_neg q, f0]
        exact Or.inl ⟨rfl, fun g => q (g i (Nat.le_refl _) hlt)⟩
theorem rp_m (N : Nat) (hNN : 2001 ≤ N) (P I : Nat → Int32) (gv rm d nw od : Nat) (go : Int32) (st : Nat → Nat → Int32) (co : Nat → Nat) (wr : Nat → Int32) (hnw : nw < 2 ^ 29) (ha : AV gv rm d (nw, od, go, st, co, wr)) : ∀ (n j : Nat) (G : gT) (r : Int32), j < n → j ≤ nw - od → RM P I gv rm d (nw, od, go, st, co, wr) G → (∀ i, i < 269 → G 20 i = st (nw - j) i) → Rp P I st (st nw 265) nw j r →
    ok_Mo_replay_L42 N n G (nI (nw - j) + 1) ∧ ∃ G', f_Mo_replay_L42 N n G (nI (nw - j) + 1) = (r, G') ∧ (∀ a, ¬ a = 16 → ¬ a = 20 → G' a = G a) ∧ ∀ b, ¬ b = 14 → G' 16 b = G 16 b := by
  obtain ⟨h1, h2, h3, h4, h5, h6, h7, h8, h9, h10⟩ := ha
  intro n
  induction n with
  | zero => intro j G r h; omega
  | succ n ih =>
    intro j G r hj hjo hm hs hp
    have hm0 := hm
    obtain ⟨m1, m2, m3, m4, m5, m6, m7, m8, m9, m10⟩ := hm
    cases j with
    | zero =>
      have c1 : G 16 11 < nI (nw - 0) + 1 := by rw [m6, nI_1]; exact nI_lt (by omega) (by omega)
      have hp : r = -1 := hp
      subst hp
      exact ⟨⟨fun _ => trivial, fun q => absurd c1 q⟩, G, by rw [f_Mo_replay_L42, if_pos c1], fun _ _ _ => rfl, fun _ _ => rfl⟩
    | succ j =>
      have c1 : ¬ G 16 11 < nI (nw - (j + 1)) + 1 := by rw [m6, nI_1]; exact nI_nlt (by omega) (by omega)
      have g19 : G 19 265 = st nw 265 := m9 265 (by decide)
      obtain ⟨tk, htk, etk⟩ := (h9 nw h1 (Nat.le_refl _)).2
      obtain ⟨hpl, hta⟩ := h9 (nw - (j + 1)) (by omega) (by omega)
      have hT1 : nw - (j + 1) + 1 = nw - j := by omega
      generalize ht : nw - (j + 1) = t at hp hs c1 hpl hta hT1 ⊢
      have to : od ≤ t := by omega
      have tn : t < nw := by omega
      obtain ⟨o1, o2, o3⟩ := mo_20 G (st t) P I (G 19 265) (hw P (st t)) hs m1 m2 hpl (by obtain ⟨k, a, b⟩ := hta; exact ⟨k, by omega, b⟩) ⟨tk, by omega, by rw [g19]; exact etk⟩ rfl
      have hal : ¬ (0 : Int32) < G 20 268 := by rw [hs 268 (by decide), (h8 t to tn).1]; decide
      rw [g19] at o2 o3
      have stop : ∀ G', ok_Mo_replay_L42 N (n + 1) G (nI t + 1) → f_Mo_replay_L42 N (n + 1) G (nI t + 1) = (nI t + 1, G') → (∀ a, ¬ a = 16 → ¬ a = 20 → G' a = G a) → (∀ b, ¬ b = 14 → G' 16 b = G 16 b) → ¬ Gd P I st (st nw 265) t → ok_Mo_replay_L42 N (n + 1) G (nI t + 1) ∧ ∃ G', f_Mo_replay_L42 N (n + 1) G (nI t + 1) = (r, G') ∧ (∀ a, ¬ a = 16 → ¬ a = 20 → G' a = G a) ∧ ∀ b, ¬ b = 14 → G' 16 b = G 16 b := by
        intro G' ok e fr fr2 ng
        rcases hp with ⟨g, -⟩ | ⟨-, rfl⟩
        · exact absurd (ht ▸ g) ng
        · exact ⟨ok, G', by rw [e, nI_1, ht], fr, fr2⟩
      by_cases wt : g_ush (hw P (st t)) 28 = 8 ∧ ¬ st t 265 < st nw 265
      · have e := o3 wt
        have z : (f_Mo_advance_20 G (G 19 265)).1 = 0 := by rw [g19, e]
        refine stop (g_up G 16 14 (-1)) ⟨fun q => absurd q c1, fun _ => ⟨fun q => absurd q hal, fun _ => ⟨o1, fun _ => trivial, fun q => absurd z q⟩⟩⟩ ?_ (fun a x y => by funext b; simp [g_up, x]) (fun b hb => by simp [g_up, hb]) (fun g => g.1 wt)
        rw [f_Mo_replay_L42, if_neg c1, if_neg hal, if_pos z, g19, e]
      · obtain ⟨G', e, p1, p14, pa, pb⟩ := o2 wt
        have z : ¬ (f_Mo_advance_20 G (G 19 265)).1 = 0 := by rw [g19, e]; exact ne10
        have e' : (f_Mo_advance_20 G (G 19 265)).2 = G' := by rw [g19, e]
        have hm' : RM P I gv rm d (nw, od, go, st, co, wr) G' := RM_fr2 hm0 (fun a x y => pa a (by omega) y) (fun b _ x => pb b x)
        obtain ⟨v1, v2⟩ := is_same P I st co wr od nw t G' (fun t x y => by rw [pa 22 (by decide) (by decide), pa 23 (by decide) (by decide), pa 21 (by decide) (by decide)]; exact m10 t x y) to tn hnw (by rw [pb 11 (by decide)]; exact m6) (fun i hi => by rw [pa 19 (by decide) (by decide)]; exact m9 i hi) p1 N 0 (by omega) (by omega)
        rw [nI_0, ← nI_1] at v1 v2
        have v1 : ok_Mo_isSame N G' (nI t + 1) := v1
        have v2 : (f_Mo_isSame N G' (nI t + 1) = 0 ∧ ¬ ∀ k, 0 ≤ k → k < 269 → hN P I (st t) k = st (t + 1) k) ∨ (f_Mo_isSame N G' (nI t + 1) = 1 ∧ ∀ k, 0 ≤ k → k < 269 → hN P I (st t) k = st (t + 1) k) := v2
        rcases v2 with ⟨ve, vh⟩ | ⟨ve, vh⟩
        · refine stop G' ⟨fun q => absurd q c1, fun _ => ⟨fun q => absurd q hal, fun _ => ⟨o1, fun q => absurd q z, fun _ => ?_⟩⟩⟩ ?_ pa pb (fun g => vh (fun i _ hi => g.2 i hi))
          · rw [e']; exact ⟨v1, fun _ => trivial, fun q => absurd ve q⟩
          · rw [f_Mo_replay_L42, if_neg c1, if_neg hal, if_neg z, e', if_pos ve]
        · have vn : ¬ f_Mo_isSame N G' (nI t + 1) = 0 := by rw [ve]; exact ne10
          have good : Gd P I st (st nw 265) t := ⟨wt, fun i hi => vh i (Nat.zero_le _) hi⟩
          rcases hp with ⟨-, hp⟩ | ⟨ng, -⟩
          · obtain ⟨i1, G2, i2, i3, i4⟩ := ih j G' r (by omega) (by omega) hm' (fun i hi => by rw [p1 i hi, ← hT1]; exact good.2 i hi) hp
            rw [← hT1, ← nI_1] at i1 i2
            refine ⟨⟨fun q => absurd q c1, fun _ => ⟨fun q => absurd q hal, fun _ => ⟨o1, fun q => absurd q z, fun _ => ?_⟩⟩⟩, G2, ?_, fun a x y => (i3 a x y).trans (pa a x y), fun b x => (i4 b x).trans (pb b x)⟩
            · rw [e']; exact ⟨v1, fun q => absurd q vn, fun _ => i1⟩
            · rw [f_Mo_replay_L42, if_neg c1, if_neg hal, if_neg z, e', if_neg vn]; exact i2
          · exact absurd (ht ▸ good) ng
theorem rp_copy (N : Nat) (hNN : 2001 ≤ N) (P I : Nat → Int32) (gv rm d nw od : Nat) (go : Int32) (st : Nat → Nat → Int32) (co : Nat → Nat) (wr : Nat → Int32) (hnw : nw < 2 ^ 29) (ha : AV gv rm d (nw, od, go, st, co, wr)) (r : Int32) (hp : Rp P I st (st nw 265) nw (nw - od) r) : ∀ (n i : Nat) (G : gT), 269 - i < n → i ≤ 269 → RM P I gv rm d (nw, od, go, st, co, wr) G → (∀ k, k < i → G 20 k = st od k) →
    ok_Mo_replay_L7 N n G (nI i) ∧ ∃ G', f_Mo_replay_L7 N n G (nI i) = (r, G') ∧ (∀ a, ¬ a = 16 → ¬ a = 20 → G' a = G a) ∧ ∀ b, ¬ b = 14 → G' 16 b = G 16 b := by
  intro n
  have hlen := av_len ha
  induction n with
  | zero => intro i G h; omega
  | succ n ih =>
    intro i G hn hi hm hlo
    have hm0 := hm
    obtain ⟨m1, m2, m3, m4, m5, m6, m7, m8, m9, m10⟩ := hm
    by_cases z : i = 269
    · subst z
      have c1 : (269 : Int32) ≤ nI 269 := by decide
      have ho : od ≤ nw := ha.1
      have hr : rm ≤ 1024 := ha.2.2.1
      obtain ⟨u1, G', u2, u3, u4⟩ := rp_m N hNN P I gv rm d nw od go st co wr hnw ha N (nw - od) G r (by omega) (Nat.le_refl _) hm0 (fun i hi => by rw [show nw - (nw - od) = od by omega]; exact hlo i hi) hp
      rw [show nw - (nw - od) = od by omega, ← m7] at u1 u2
      exact ⟨⟨fun _ => u1, fun q => absurd c1 q⟩, G', by rw [f_Mo_replay_L7, if_pos c1]; exact u2, u3, u4⟩
    · have hlt : i < 269 := by omega
      have c1 : ¬ (269 : Int32) ≤ nI i := nI_ge (a := i) (b := 269) hlt (by decide)
      have ho : od ≤ nw := ha.1
      obtain ⟨s1, s2⟩ := st_at G st co wr od nw hnw m6 m10 od i (Nat.le_refl _) ho hlt (fun _ => m9 i hlt)
      have cl : (nI i).toNatClampNeg = i := nI_clamp (by omega)
      obtain ⟨i1, G', i2, i3, i4⟩ := ih (i + 1) (g_up G 20 i (st od i)) (by omega) (by omega) (RM_fr2 hm0 (fun a x y => by funext b; simp [g_up, y]) (fun b _ _ => by simp [g_up])) (fun k hk => by
        by_cases w : k = i
        · simp [g_up, w]
        · simp [g_up, w, hlo k (by omega)])
      rw [← m7] at s1 s2
      refine ⟨⟨fun w => absurd w c1, fun _ => ⟨s1, vp_in_nI hlt (by decide), by rw [s2, cl, nI_1]; exact i1⟩⟩, G', by rw [f_Mo_replay_L7, if_neg c1, s2, cl, nI_1]; exact i2, fun a x y => (i3 a x y).trans (by funext b; simp [g_up, y]), fun b x => (i4 b x).trans (by simp [g_up])⟩
theorem copy_5 (G : gT) : (∀ i, i < 269 → stC 5 6 (f_Ma_copyFrom_5 G) i = stC 3 4 G i) ∧ ∀ a, ¬ a = 5 → ¬ a = 6 → f_Ma_copyFrom_5 G a = G a := by
  refine ⟨i_cases ?_ ?_ ?_ ?_ ?_ ?_, fun a x y => by funext b; simp [f_Ma_copyFrom_5, g_up, g_cpy, x, y]⟩
  · intro i hi
    simp [stC, hi, f_Ma_copyFrom_5, g_up, g_cpy, va_cpy]
  · simp [stC, f_Ma_copyFrom_5, g_up, g_cpy]
  · simp [stC, f_Ma_copyFrom_5, g_up, g_cpy]
  · simp [stC, f_Ma_copyFrom_5, g_up, g_cpy]
  · simp [stC, f_Ma_copyFrom_5, g_up, g_cpy]
  · simp [stC, f_Ma_copyFrom_5, g_up, g_cpy]
theorem op_replay (N : Nat) (hNN : 2001 ≤ N) (T : Nat) (hT : T < 2 ^ 29) (G : gT) (h : Rl T G) : ok_BS_replay N G ∧ ok_Mo_replay N (f_BS_replay N G).2 ∧ (f_BS_replay N G).1 = (f_Mo_replay N (f_BS_replay N G).2).1 ∧ Rl T (f_Mo_replay N (f_BS_replay N G).2).2 := by
  obtain ⟨P, I, gv, rm, d, ⟨nw, od, go, st, co, wr⟩, a, b, c, m⟩ := h
  have hlen := av_len a
  have b : nw ≤ T := b
  have a0 := a
  have c0 := c
  obtain ⟨h1, h2, h3, h4, h5, h6, h7, h8, h9, h10⟩ := a
  obtain ⟨r1, r2, r3, r4, r5, r6, r7, r8, r9, r10, r11⟩ := c
  obtain ⟨r, hp⟩ := rp_ex P I st (st nw 265) nw (nw - od)
  obtain ⟨y1, y2⟩ := copy_5 G
  generalize hC : f_Ma_copyFrom_5 G = C at y1 y2
  have C7 := y2 7 (by decide) (by decide)
  obtain ⟨u1, u2, u3⟩ := undo_loop_5 st co wr od nw od h8 (Nat.le_refl _) (by omega) N (nw - od) C (by omega) (by omega) (Rws_fr r11 (fun a x y => y2 a (by omega) (by omega))) (fun i hi => by rw [y1 i hi, show od + (nw - od) = nw by omega]; exact r10 i hi)
  rw [show od + (nw - od) = nw by omega] at u1 u2 u3
  have eu : f_Ro_undoDownTo_5 N C (C 7 2) = f_Ro_undoDownTo_5_L5 N C (nI od) (nI nw) := by unfold f_Ro_undoDownTo_5; rw [C7, r6, r7]
  generalize hU : f_Ro_undoDownTo_5_L5 N C (nI od) (nI nw) = U at u2 u3 eu
  have U7 : U 7 2 = nI od := by rw [u3 7 (by decide) (by decide), C7]; exact r7
  have cU : RC P I gv rm d (nw, od, go, st, co, wr) U := RC_fr2 c0 (fun a _ x y => (u3 a x y).trans (y2 a x y))
  obtain ⟨v1, V, v2, v3⟩ := rp_c N hNN P I gv rm d nw od go st co wr (by omega) a0 N (nw - od) U r (by omega) (Nat.le_refl _) cU (fun i hi => by rw [show nw - (nw - od) = od by omega]; exact u2 i hi) hp
  rw [show nw - (nw - od) = od by omega] at v1 v2
  have e : f_BS_replay N G = (r, V) := by unfold f_BS_replay; rw [hC, eu, U7]; exact v2
  have Va : ∀ a, ¬ a = 5 → ¬ a = 6 → V a = G a := fun a x y => (v3 a x y).trans ((u3 a x y).trans (y2 a x y))
  have mV : RM P I gv rm d (nw, od, go, st, co, wr) (g_up V 16 0 0) := RM_th (RM_fr m (fun a ha => Va a (by omega) (by omega)) (fun b _ => by rw [Va 16 (by decide) (by decide)])) 0
  obtain ⟨w1, W, w2, w3, w4⟩ := rp_copy N hNN P I gv rm d nw od go st co wr (by omega) a0 r hp N 0 (g_up V 16 0 0) (by omega) (by omega) mV (fun k hk => by omega)
  rw [nI_0] at w1 w2
  have e2 : f_Mo_replay N V = (r, W) := w2
  rw [e]
  show _ ∧ ok_Mo_replay N V ∧ r = (f_Mo_replay N V).1 ∧ Rl T (f_Mo_replay N V).2
  rw [e2]
  refine ⟨⟨?_, ?_⟩, w1, rfl, P, I, gv, rm, d, (nw, od, go, st, co, wr), a0, b, ?_, ?_⟩
  · rw [hC]; unfold ok_Ro_undoDownTo_5; rw [C7, r6, r7]; exact u1
  · rw [hC, eu, U7]; exact v1
  · exact RC_fr2 c0 (fun a ha x y => by
      rw [show (r, W).2 = W from rfl, w3 a (by omega) (by omega)]
      funext b
      simp [g_up, show ¬ a = 16 by omega, Va a x y])
  · exact RM_fr2 mV (fun a x y => w3 a (by omega) y) (fun b _ x => w4 b x)
