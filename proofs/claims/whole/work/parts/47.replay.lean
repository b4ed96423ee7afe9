/-! replay, the class's side. -/
def Gd (P I : Nat → Int32) (st : Nat → Nat → Int32) (av : Int32) (t : Nat) : Prop := ¬ (g_ush (hw P (st t)) 28 = 8 ∧ ¬ st t 265 < av) ∧ ∀ i, i < 269 → hN P I (st t) i = st (t + 1) i
/-- what replay answers with j steps left -/
def Rp (P I : Nat → Int32) (st : Nat → Nat → Int32) (av : Int32) (nw : Nat) : Nat → Int32 → Prop
  | 0, r => r = -1
  | j + 1, r => (Gd P I st av (nw - (j + 1)) ∧ Rp P I st av nw j r) ∨ (¬ Gd P I st av (nw - (j + 1)) ∧ r = nI (nw - (j + 1) + 1))
theorem rp_ex (P I : Nat → Int32) (st : Nat → Nat → Int32) (av : Int32) (nw : Nat) : ∀ j, ∃ r, Rp P I st av nw j r := by
  intro j
  induction j with
  | zero => exact ⟨-1, rfl⟩
  | succ j ih =>
    by_cases q : Gd P I st av (nw - (j + 1))
    · obtain ⟨r, h⟩ := ih; exact ⟨r, Or.inl ⟨q, h⟩⟩
    · exact ⟨_, Or.inr ⟨q, rfl⟩⟩
theorem RC_fr2 {P I : Nat → Int32} {gv rm d : Nat} {h : aH} {G G' : gT} (hr : RC P I gv rm d h G) (e : ∀ a, a < 16 → ¬ a = 5 → ¬ a = 6 → G' a = G a) : RC P I gv rm d h G' := by
  obtain ⟨nw, od, go, st, co, wr⟩ := h
  obtain ⟨r1, r2, r3, r4, r5, r6, r7, r8, r9, r10, r11⟩ := hr
  have e0 := e 0 (by decide) (by decide) (by decide)
  have e1 := e 1 (by decide) (by decide) (by decide)
  have e2 := e 2 (by decide) (by decide) (by decide)
  have e3 := e 3 (by decide) (by decide) (by decide)
  have e4 := e 4 (by decide) (by decide) (by decide)
  have e7 := e 7 (by decide) (by decide) (by decide)
  refine ⟨by rw [e1]; exact r1, by rw [e2]; exact r2, by rw [e0]; exact r3, by rw [e0]; exact r4, by rw [e7]; exact r5, by rw [e7]; exact r6, by rw [e7]; exact r7, by rw [e7]; exact r8, by rw [e7]; exact r9, fun i hi => ?_, Rws_fr r11 (fun a x y => e a (by omega) (by omega) (by omega))⟩
  unfold stC; rw [e3, e4]; exact r10 i hi
theorem RM_fr2 {P I : Nat → Int32} {gv rm d : Nat} {h : aH} {G G' : gT} (hr : RM P I gv rm d h G) (e : ∀ a, 17 ≤ a → ¬ a = 20 → G' a = G a) (e16 : ∀ b, ¬ b = 0 → ¬ b = 14 → G' 16 b = G 16 b) : RM P I gv rm d h G' := by
  obtain ⟨nw, od, go, st, co, wr⟩ := h
  obtain ⟨r1, r2, r3, r4, r5, r6, r7, r8, r9, r10⟩ := hr
  refine ⟨by rw [e 17 (by decide) (by decide)]; exact r1, by rw [e 18 (by decide) (by decide)]; exact r2, by rw [e16 4 (by decide) (by decide)]; exact r3, by rw [e16 2 (by decide) (by decide)]; exact r4, by rw [e16 1 (by decide) (by decide)]; exact r5, by rw [e16 11 (by decide) (by decide)]; exact r6, by rw [e16 12 (by decide) (by decide)]; exact r7, by rw [e16 13 (by decide) (by decide)]; exact r8, by rw [e 19 (by decide) (by decide)]; exact r9, fun t a b => ?_⟩
  rw [e 22 (by decide) (by decide), e 23 (by decide) (by decide), e 21 (by decide) (by decide)]
  exact r10 t a b
/-- the comparison of the numbers behind a step -/
theorem same_num (P I : Nat → Int32) (st : Nat → Nat → Int32) (co : Nat → Nat) (wr : Nat → Int32) (od nw t : Nat) (G : gT) (hR : Rws st co wr od nw G) (hF : HF st co wr od nw) (h1 : od ≤ t) (h2 : t < nw) (hs : ∀ i, i < 269 → stC 5 6 G i = hN P I (st t) i) (h6 : G 5 6 = hW P (st t)) (h7 : ¬ hW P (st t) = -1 → G 5 7 = st t (hW P (st t)).toNatClampNeg) :
    ok_Ro_sameNumbersBehind_5 G (nI t) ∧ ((f_Ro_sameNumbersBehind_5 G (nI t) = 0 ∧ ¬ ∀ i, i < 264 → hN P I (st t) i = st (t + 1) i) ∨ (f_Ro_sameNumbersBehind_5 G (nI t) = 1 ∧ ∀ i, i < 264 → hN P I (st t) i = st (t + 1) i)) := by
  obtain ⟨r8, r9, r10, -⟩ := hR t h1 h2
  obtain ⟨f1, f2, f3, f4⟩ := hF t h1 h2
  have hn : ∀ i, i < 264 → G 6 i = hN P I (st t) i := fun i hi => by
    have := hs i (by omega); unfold stC at this; rw [if_pos hi] at this; exact this
  have hw1 : hW P (st t) = -1 ∨ ∃ j, j < 264 ∧ hW P (st t) = nI j := xWr_in _ _ _
  have vs := v_ro G t
  have okcn : ok_Ma_changedNumber_5 G := ⟨fun _ => trivial, fun q => ⟨by
    rw [h6]
    rcases hw1 with z | ⟨j, hj, z⟩
    · exact absurd (h6.trans z) q
    · rw [z]; exact vp_in_nI hj (by decide), trivial⟩⟩
  refine ⟨⟨vs, ⟨okcn, trivial⟩, fun _ => trivial, fun _ => ⟨fun _ => trivial, fun q => ⟨?_, vs, trivial⟩⟩⟩, ?_⟩
  · rw [c_ro, r9] at q ⊢
    rcases f3 with z | ⟨j, hj, z⟩
    · exact absurd z q
    · rw [z]; exact vp_in_nI hj (by decide)
  · -- whether a number changed
    have cn : (f_Ma_changedNumber_5 G = 0 ∧ ∀ i, i < 264 → hW P (st t) = nI i → hN P I (st t) i = st t i) ∨ (f_Ma_changedNumber_5 G = 1 ∧ ∃ i, i < 264 ∧ hW P (st t) = nI i ∧ ¬ hN P I (st t) i = st t i) := by
      unfold f_Ma_changedNumber_5
      rw [h6]
      rcases hw1 with z | ⟨j, hj, z⟩
      · rw [if_pos z]
        exact Or.inl ⟨rfl, fun i hi e => absurd (e.symm.trans z) (nI_nm1 (by omega))⟩
      · have n1 : ¬ hW P (st t) = -1 := by rw [z]; exact nI_nm1 (by omega)
        have cj : (nI j).toNatClampNeg = j := nI_clamp (by omega)
        have h7' := h7 n1
        rw [z, cj] at h7'
        rw [if_neg n1, z, cj, hn j hj, h7']
        by_cases q : hN P I (st t) j = st t j
        · rw [if_pos q]
          refine Or.inl ⟨rfl, fun i hi e => ?_⟩
          have := (nI_eq (by omega) (by omega)).mp e
          subst this; exact q
        · rw [if_neg q]
          exact Or.inr ⟨rfl, j, hj, rfl, q⟩
    unfold f_Ro_sameNumbersBehind_5 f_Ma_changedNothingBut_5
    rw [c_ro, r9, h6]
    have n01 : ¬ (1 : Int32) = 0 := by decide
    -- the last comparison, when nothing else has changed
    have fin : (∀ i, i < 264 → ¬ wr t = nI i → hN P I (st t) i = st t i) → (((if wr t = -1 then (1 : Int32) else if G 6 (wr t).toNatClampNeg = G 11 (t % 1024) then 1 else 0) = 0 ∧ ¬ ∀ i, i < 264 → hN P I (st t) i = st (t + 1) i) ∨ ((if wr t = -1 then (1 : Int32) else if G 6 (wr t).toNatClampNeg = G 11 (t % 1024) then 1 else 0) = 1 ∧ ∀ i, i < 264 → hN P I (st t) i = st (t + 1) i)) := by
      intro hA
      rcases f3 with z | ⟨j, hj, z⟩
      · rw [if_pos z]
        refine Or.inr ⟨rfl, fun i hi => ?_⟩
        have ne : ¬ wr t = nI i := fun e => nI_nm1 (show i < 2 ^ 31 by omega) (e.symm.trans z)
        rw [hA i hi ne, f4 i hi ne]
      · have n1 : ¬ wr t = -1 := by rw [z]; exact nI_nm1 (by omega)
        have cj : (nI j).toNatClampNeg = j := nI_clamp (by omega)
        have h11 := (r10 n1).2
        rw [z, cj] at h11
        rw [if_neg n1, z, cj, hn j hj, h11]
        by_cases q : hN P I (st t) j = st (t + 1) j
        · rw [if_pos q]
          refine Or.inr ⟨rfl, fun i hi => ?_⟩
          by_cases e : i = j
          · rw [e]; exact q
          · have ne : ¬ wr t = nI i := fun e2 => e ((nI_eq (by omega) (by omega)).mp (z.symm.trans e2)).symm
            rw [hA i hi ne, f4 i hi ne]
        · rw [if_neg q]
          exact Or.inl ⟨rfl, fun h => q (h j hj)⟩
    rcases cn with ⟨e, h⟩ | ⟨e, i0, hi0, hw0, hne⟩
    · rw [e, if_pos rfl, if_neg n01]
      refine fin (fun i hi ne => ?_)
      by_cases q : hW P (st t) = nI i
      · exact h i hi q
      · exact hN_same P I (st t) i hi q
    · rw [e, if_neg n01]
      by_cases q : hW P (st t) = wr t
      · rw [if_pos q, if_neg n01]
        exact fin (fun i hi ne => hN_same P I (st t) i hi (fun e2 => ne (q.symm.trans e2)))
      · rw [if_neg q, if_pos rfl]
        refine Or.inl ⟨rfl, fun h => hne ?_⟩
        rw [h i0 hi0]
        exact f4 i0 hi0 (fun e2 => q (hw0.trans e2.symm))
theorem same_rest (P I : Nat → Int32) (st : Nat → Nat → Int32) (co : Nat → Nat) (wr : Nat → Int32) (od nw t : Nat) (G : gT) (hR : Rws st co wr od nw G) (hF : HF st co wr od nw) (h1 : od ≤ t) (h2 : t < nw) (hnw : nw < 2 ^ 29) (h71 : G 7 1 = nI nw) (h3 : ∀ i, i < 269 → stC 3 4 G i = st nw i) (hs : ∀ i, i < 269 → stC 5 6 G i = hN P I (st t) i) : ∀ (n i : Nat), 269 - i < n → 264 ≤ i → i ≤ 269 →
    ok_BS_sameRestAt_L4 n G (nI (t + 1)) (nI i) ∧ ((f_BS_sameRestAt_L4 n G (nI (t + 1)) (nI i) = 0 ∧ ¬ ∀ k, i ≤ k → k < 269 → hN P I (st t) k = st (t + 1) k) ∨ (f_BS_sameRestAt_L4 n G (nI (t + 1)) (nI i) = 1 ∧ ∀ k, i ≤ k → k < 269 → hN P I (st t) k = st (t + 1) k)) := by
  intro n
  induction n with
  | zero => intro i h; omega
  | succ n ih =>
    intro i hn hi hi2
    by_cases z : i = 269
    · subst z
      have c1 : (268 : Int32) < nI 269 := by decide
      refine ⟨⟨fun _ => trivial, fun q => absurd c1 q⟩, Or.inr ⟨by rw [f_BS_sameRestAt_L4, if_pos c1], fun k a b => by omega⟩⟩
    · have hlt : i < 269 := by omega
      have c1 : ¬ (268 : Int32) < nI i := nI_nlt (a := 268) (by omega) (by decide)
      obtain ⟨o1, o2⟩ := rest_at st co wr od nw (t + 1) i G hR hF (by omega) (by omega) hi hlt hnw h71 h3
      have e5 : f_Ma_rest_5 G (nI i) = hN P I (st t) i := by
        have := hs i hlt
        rcases (show i = 264 ∨ i = 265 ∨ i = 266 ∨ i = 267 ∨ i = 268 by omega) with rfl | rfl | rfl | rfl | rfl <;> rw [← this] <;> unfold f_Ma_rest_5 stC <;> rfl
      obtain ⟨i1, i2⟩ := ih (i + 1) (by omega) (by omega) (by omega)
      refine ⟨⟨fun q => absurd q c1, fun _ => ⟨o1, fun _ => by rw [nI_1]; exact i1, fun _ => trivial⟩⟩, ?_⟩
      rw [f_BS_sameRestAt_L4, if_neg c1, e5, o2, nI_1]
      by_cases q : hN P I (st t) i = st (t + 1) i
      · rw [if_pos q]
        rcases i2 with ⟨e, h⟩ | ⟨e, h⟩
        · exact Or.inl ⟨e, fun g => h (fun k a b => g k (by omega) b)⟩
        · refine Or.inr ⟨e, fun k a b => ?_⟩
          rcases Nat.eq_or_lt_of_le a with w | w
          · subst w; exact q
          · exact h k w b
      · rw [if_neg q]
        exact Or.inl ⟨rfl, fun g => q (g i (Nat.le_refl _) hlt)⟩
theorem rp_c (N : Nat) (hNN : 2001 ≤ N) (P I : Nat → Int32) (gv rm d nw od : Nat) (go : Int32) (st : Nat → Nat → Int32) (co : Nat → Nat) (wr : Nat → Int32) (hnw : nw < 2 ^ 29) (ha : AV gv rm d (nw, od, go, st, co, wr)) : ∀ (n j : Nat) (G : gT) (r : Int32), j < n → j ≤ nw - od → RC P I gv rm d (nw, od, go, st, co, wr) G → (∀ i, i < 269 → stC 5 6 G i = st (nw - j) i) → Rp P I st (st nw 265) nw j r →
    ok_BS_replay_L37 N n G (nI (nw - j)) ∧ ∃ G', f_BS_replay_L37 N n G (nI (nw - j)) = (r, G') ∧ ∀ a, ¬ a = 5 → ¬ a = 6 → G' a = G a := by
  obtain ⟨h1, h2, h3, h4, h5, h6, h7, h8, h9, h10⟩ := ha
  intro n
  induction n with
  | zero => intro j G r h; omega
  | succ n ih =>
    intro j G r hj hjo hc hs hp
    have hc0 := hc
    obtain ⟨r1, r2, r3, r4, r5, r6, r7, r8, r9, r10, r11⟩ := hc
    cases j with
    | zero =>
      have c1 : G 7 1 ≤ nI (nw - 0) := by rw [r6]; exact nI_le (by omega) (by omega)
      have hp : r = -1 := hp
      subst hp
      exact ⟨⟨fun _ => trivial, fun q => absurd c1 q⟩, G, by rw [f_BS_replay_L37, if_pos c1], fun _ _ _ => rfl⟩
    | succ j =>
      have c1 : ¬ G 7 1 ≤ nI (nw - (j + 1)) := by rw [r6]; exact nI_ge (by omega) (by omega)
      have g32 : G 3 2 = st nw 265 := r10 265 (by decide)
      obtain ⟨tk, htk, etk⟩ := (h9 nw h1 (Nat.le_refl _)).2
      obtain ⟨hpl, hta⟩ := h9 (nw - (j + 1)) (by omega) (by omega)
      have hT1 : nw - (j + 1) + 1 = nw - j := by omega
      generalize ht : nw - (j + 1) = t at hp hs c1 hpl hta hT1 ⊢
      have to : od ≤ t := by omega
      have tn : t < nw := by omega
      obtain ⟨o1, o2, o3⟩ := ad_5 G (st t) P I (G 3 2) (hw P (st t)) hs r1 r2 hpl (by obtain ⟨k, a, b⟩ := hta; exact ⟨k, by omega, b⟩) ⟨tk, by omega, by rw [g32]; exact etk⟩ rfl
      have hal := (h8 t to tn).1
      rw [g32] at o2 o3
      have stop : ∀ G', ok_BS_replay_L37 N (n + 1) G (nI t) → f_BS_replay_L37 N (n + 1) G (nI t) = (nI t + 1, G') → (∀ a, ¬ a = 5 → ¬ a = 6 → G' a = G a) → ¬ Gd P I st (st nw 265) t → ok_BS_replay_L37 N (n + 1) G (nI t) ∧ ∃ G', f_BS_replay_L37 N (n + 1) G (nI t) = (r, G') ∧ ∀ a, ¬ a = 5 → ¬ a = 6 → G' a = G a := by
        intro G' ok e fr ng
        rcases hp with ⟨g, -⟩ | ⟨-, rfl⟩
        · exact absurd (ht ▸ g) ng
        · exact ⟨ok, G', by rw [e, nI_1, ht], fr⟩
      by_cases wt : g_ush (hw P (st t)) 28 = 8 ∧ ¬ st t 265 < st nw 265
      · have e := o3 (Or.inr wt)
        have z : (f_Ma_advance_5 G (G 3 2)).1 = 0 := by rw [g32, e]
        refine stop G ⟨fun q => absurd q c1, fun _ => ⟨o1, fun _ => trivial, fun q => absurd z q⟩⟩ ?_ (fun _ _ _ => rfl) (fun g => g.1 wt)
        rw [f_BS_replay_L37, if_neg c1, if_pos z, g32, e]
      · obtain ⟨G', e, p1, p6, p7, p8, p9, p10, p11, pa⟩ := o2 hal wt
        have z : ¬ (f_Ma_advance_5 G (G 3 2)).1 = 0 := by rw [g32, e]; exact ne10
        have e' : (f_Ma_advance_5 G (G 3 2)).2 = G' := by rw [g32, e]
        have hc' : RC P I gv rm d (nw, od, go, st, co, wr) G' := RC_fr2 hc0 (fun a _ x y => pa a x y)
        obtain ⟨u1, u2⟩ := same_num P I st co wr od nw t G' (Rws_fr r11 (fun a x y => pa a (by omega) (by omega))) h8 to tn p1 p6 p7
        obtain ⟨v1, v2⟩ := same_rest P I st co wr od nw t G' (Rws_fr r11 (fun a x y => pa a (by omega) (by omega))) h8 to tn hnw (by rw [pa 7 (by decide) (by decide)]; exact r6) (fun i hi => by unfold stC; rw [pa 3 (by decide) (by decide), pa 4 (by decide) (by decide)]; exact r10 i hi) p1 N 264 (by omega) (by omega) (by omega)
        have v1 : ok_BS_sameRestAt N G' (nI (t + 1)) := v1
        have v2 : (f_BS_sameRestAt N G' (nI (t + 1)) = 0 ∧ ¬ ∀ k, 264 ≤ k → k < 269 → hN P I (st t) k = st (t + 1) k) ∨ (f_BS_sameRestAt N G' (nI (t + 1)) = 1 ∧ ∀ k, 264 ≤ k → k < 269 → hN P I (st t) k = st (t + 1) k) := v2
        rw [← nI_1] at v1 v2
        rcases u2 with ⟨ue, uh⟩ | ⟨ue, uh⟩
        · refine stop G' ⟨fun q => absurd q c1, fun _ => ⟨o1, fun q => absurd q z, fun _ => ?_⟩⟩ ?_ pa (fun g => uh (fun i hi => g.2 i (by omega)))
          · rw [e']; exact ⟨u1, fun _ => trivial, fun q => absurd ue q⟩
          · rw [f_BS_replay_L37, if_neg c1, if_neg z, e', if_pos ue]
        · have un : ¬ f_Ro_sameNumbersBehind_5 G' (nI t) = 0 := by rw [ue]; exact ne10
          rcases v2 with ⟨ve, vh⟩ | ⟨ve, vh⟩
          · refine stop G' ⟨fun q => absurd q c1, fun _ => ⟨o1, fun q => absurd q z, fun _ => ?_⟩⟩ ?_ pa (fun g => vh (fun i _ hi => g.2 i hi))
            · rw [e']; exact ⟨u1, fun q => absurd q un, fun _ => ⟨v1, fun _ => trivial, fun q => absurd ve q⟩⟩
            · rw [f_BS_replay_L37, if_neg c1, if_neg z, e', if_neg un, if_pos ve]
          · have vn : ¬ f_BS_sameRestAt N G' (nI t + 1) = 0 := by rw [ve]; exact ne10
            have good : Gd P I st (st nw 265) t := ⟨wt, fun i hi => by
              by_cases q : i < 264
              · exact uh i q
              · exact vh i (by omega) hi⟩
            rcases hp with ⟨-, hp⟩ | ⟨ng, -⟩
            · obtain ⟨i1, G2, i2, i3⟩ := ih j G' r (by omega) (by omega) hc' (fun i hi => by rw [p1 i hi, ← hT1]; exact good.2 i hi) hp
              rw [← hT1, ← nI_1] at i1 i2
              refine ⟨⟨fun q => absurd q c1, fun _ => ⟨o1, fun q => absurd q z, fun _ => ?_⟩⟩, G2, ?_, fun a x y => (i3 a x y).trans (pa a x y)⟩
              · rw [e']; exact ⟨u1, fun q => absurd q un, fun _ => ⟨v1, fun q => absurd q vn, fun _ => i1⟩⟩
              · rw [f_BS_replay_L37, if_neg c1, if_neg z, e', if_neg un, if_neg vn]; exact i2
            · exact absurd (ht ▸ good) ng
