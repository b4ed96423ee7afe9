/-! What class and reference hold of one history, and how a step changes it. -/
abbrev aH : Type := Nat × Nat × Int32 × (Nat → Nat → Int32) × (Nat → Nat) × (Nat → Int32)
def Rws (st : Nat → Nat → Int32) (co : Nat → Nat) (wr : Nat → Int32) (od nw : Nat) (G : gT) : Prop :=
  ∀ t, od ≤ t → t < nw → G 8 (t % 1024) = nI (co t) ∧ G 9 (t % 1024) = wr t ∧ (¬ wr t = -1 → G 10 (t % 1024) = st t (wr t).toNatClampNeg ∧ G 11 (t % 1024) = st (t + 1) (wr t).toNatClampNeg) ∧ G 12 (t % 1024) = st t 264 ∧ G 13 (t % 1024) = st t 265 ∧ G 14 (t % 1024) = st t 266 ∧ G 15 (t % 1024) = st t 267
def RC (P I : Nat → Int32) (gv rm d : Nat) : aH → gT → Prop
  | (nw, od, go, st, co, wr), G => (∀ j, j < 64 → G 1 j = P j) ∧ (∀ j, j < 200 → G 2 j = I j) ∧ G 0 3 = nI gv ∧ G 0 0 = nI d ∧ G 7 0 = nI rm ∧ G 7 1 = nI nw ∧ G 7 2 = nI od ∧ G 7 3 = nI (sumc co od (nw - od)) ∧ G 7 4 = go ∧ (∀ i, i < 269 → stC 3 4 G i = st nw i) ∧ Rws st co wr od nw G
def Ms (st : Nat → Nat → Int32) (co : Nat → Nat) (wr : Nat → Int32) (od nw : Nat) (G : gT) : Prop :=
  ∀ t, od ≤ t → t < nw → G 22 (t % 1025) = nI (co t) ∧ G 23 (t % 1025) = wr t ∧ ∀ i, i < 269 → G 21 (269 * (t % 1025) + i) = st t i
def RM (P I : Nat → Int32) (gv rm d : Nat) : aH → gT → Prop
  | (nw, od, go, st, co, wr), G => (∀ j, j < 64 → G 17 j = P j) ∧ (∀ j, j < 200 → G 18 j = I j) ∧ G 16 4 = nI gv ∧ G 16 2 = nI d ∧ G 16 1 = nI rm ∧ G 16 11 = nI nw ∧ G 16 12 = nI od ∧ G 16 13 = go ∧ (∀ i, i < 269 → G 19 i = st nw i) ∧ Ms st co wr od nw G
def AV (gv rm d : Nat) : aH → Prop
  | (nw, od, go, st, co, wr) => od ≤ nw ∧ 4 ≤ rm ∧ rm ≤ 1024 ∧ 1 ≤ d ∧ d ≤ 64 ∧ gv ≤ 200 ∧ sumc co od (nw - od) ≤ rm ∧ (∀ t, od ≤ t → t < nw → st t 268 = 0 ∧ 1 ≤ co t ∧ (wr t = -1 ∨ ∃ j, j < 264 ∧ wr t = nI j) ∧ ∀ i, i < 264 → ¬ wr t = nI i → st (t + 1) i = st t i) ∧ (∀ t, od ≤ t → t ≤ nw → (∃ k, k < 64 ∧ st t 264 = nI k) ∧ ∃ k, k ≤ gv ∧ st t 265 = nI k) ∧ (st nw 268 = 0 ∨ st nw 268 = 1 ∨ st nw 268 = 2)
def hw (P x : Nat → Int32) : Int32 := P (x 264).toNatClampNeg
def hN (P I x : Nat → Int32) : Nat → Int32 := xN (g_ush (hw P x) 28) (hw P x) I x
def hW (P x : Nat → Int32) : Int32 := xWr (g_ush (hw P x) 28) (hw P x) x
def hC (P I x : Nat → Int32) : Nat := xC (g_ush (hw P x) 28) (hw P x) I x
def hk (P I : Nat → Int32) (rm nw od : Nat) (st : Nat → Nat → Int32) (co : Nat → Nat) : Nat := dk rm (hC P I (st nw)) co nw (nw - od)
def hS (P I : Nat → Int32) (rm : Nat) : aH → aH
  | (nw, od, go, st, co, wr) => (nw + 1, nw - hk P I rm nw od st co, go + nI (nw - od - hk P I rm nw od st co), (fun t => if t = nw + 1 then hN P I (st nw) else st t), (fun t => if t = nw then hC P I (st nw) else co t), (fun t => if t = nw then hW P (st nw) else wr t))
/-- it runs and need not wait -/
def canS (P : Nat → Int32) (gv : Nat) (x : Nat → Int32) : Prop := x 268 = 0 ∧ ¬ (g_ush (hw P x) 28 = 8 ∧ ¬ x 265 < nI gv)
theorem av_len {gv rm d nw od : Nat} {go : Int32} {st : Nat → Nat → Int32} {co : Nat → Nat} {wr : Nat → Int32} (h : AV gv rm d (nw, od, go, st, co, wr)) : nw - od ≤ rm := by
  obtain ⟨h1, h2, h3, h4, h5, h6, h7, h8, -⟩ := h
  have := sumc_ge co od (nw - od) (fun t a b => (h8 t a (by omega)).2.1)
  omega
theorem hC_le (P I x : Nat → Int32) : hC P I x ≤ 3 := xC_le _ _ _
theorem hC_ge (P I x : Nat → Int32) : 1 ≤ hC P I x := xC_ge _ _ _ _
theorem hN_same (P I x : Nat → Int32) (i : Nat) (hi : i < 264) (h : ¬ hW P x = nI i) : hN P I x i = x i := by
  unfold hN xN
  rw [if_pos hi]
  apply if_neg
  intro q
  rcases xWr_in (hw P x) x (g_ush (hw P x) 28) with e | ⟨j, hj, e⟩
  · exact q.1 e
  · have := q.2
    rw [e, nI_clamp (by omega)] at this
    subst this
    exact h e
theorem hN_264 (P I x : Nat → Int32) (h : ∃ k, k < 64 ∧ x 264 = nI k) : ∃ k, k < 64 ∧ hN P I x 264 = nI k := by
  unfold hN xN
  simp only [Nat.lt_irrefl, if_false, if_true]
  split
  · exact h
  · split
    · exact m63_in _
    · exact m63_in _
theorem hN_265 (P I x : Nat → Int32) (gv : Nat) (hg : gv ≤ 200) (h : ∃ k, k ≤ gv ∧ x 265 = nI k) (hc : canS P gv x) : ∃ k, k ≤ gv ∧ hN P I x 265 = nI k := by
  unfold hN
  rw [xN265]
  obtain ⟨k, hk, e⟩ := h
  split
  · rename_i q
    have hlt : x 265 < nI gv := Classical.byContradiction fun z => hc.2 ⟨q, z⟩
    rw [e] at hlt
    have := (nI_ltI (by omega) (by omega)).mp hlt
    exact ⟨k + 1, by omega, by rw [e, nI_1]⟩
  · exact ⟨k, hk, e⟩
theorem hN_268 (P I x : Nat → Int32) (h : x 268 = 0) : hN P I x 268 = 0 ∨ hN P I x 268 = 1 ∨ hN P I x 268 = 2 := by
  unfold hN xN
  simp only [show ¬ 268 < 264 by decide, show ¬ 268 = 264 by decide, show ¬ 268 = 265 by decide, show ¬ 268 = 266 by decide, show ¬ 268 = 267 by decide, if_false]
  split
  · exact Or.inr (Or.inl rfl)
  · split
    · exact Or.inr (Or.inr rfl)
    · exact Or.inl h
theorem sum_new (co : Nat → Nat) (c nw k : Nat) (hk : k ≤ nw) : sumc (fun t => if t = nw then c else co t) (nw - k) (nw + 1 - (nw - k)) = sumc co (nw - k) k + c := by
  rw [show nw + 1 - (nw - k) = k + 1 by omega]
  show sumc _ (nw - k) k + (if nw - k + k = nw then c else co (nw - k + k)) = _
  rw [if_pos (by omega), sumc_congr co _ (nw - k) k (fun t a b => if_neg (by omega))]
theorem av_step (P I : Nat → Int32) (gv rm d : Nat) (h : aH) (ha : AV gv rm d h) (hc : canS P gv (h.2.2.2.1 h.1)) : AV gv rm d (hS P I rm h) := by
  obtain ⟨nw, od, go, st, co, wr⟩ := h
  have hlen := av_len ha
  obtain ⟨h1, h2, h3, h4, h5, h6, h7, h8, h9, h10⟩ := ha
  have hc : canS P gv (st nw) := hc
  have hkl : hk P I rm nw od st co ≤ nw - od := dk_le _ _ _ _ _
  have hf := dk_fit rm (hC P I (st nw)) co nw (nw - od) (by have := hC_le P I (st nw); omega)
  have hf : sumc co (nw - hk P I rm nw od st co) (hk P I rm nw od st co) + hC P I (st nw) ≤ rm := hf
  refine ⟨by omega, h2, h3, h4, h5, h6, ?_, ?_, ?_, ?_⟩
  · rw [sum_new co _ nw _ (by omega)]; exact hf
  · intro t a b
    by_cases e : t = nw
    · subst e
      simp only [if_true, show ¬ t = t + 1 by omega, if_false]
      refine ⟨hc.1, hC_ge _ _ _, ?_, fun i hi hne => hN_same P I (st t) i hi hne⟩
      exact xWr_in _ _ _
    · have := h8 t (by omega) (by omega)
      simp only [e, if_false, show ¬ t = nw + 1 by omega, show ¬ t + 1 = nw + 1 by omega]
      exact this
  · intro t a b
    by_cases e : t = nw + 1
    · simp only [e, if_true]
      have := h9 nw h1 (Nat.le_refl _)
      exact ⟨hN_264 P I _ this.1, hN_265 P I _ gv h6 this.2 hc⟩
    · simp only [e, if_false]
      exact h9 t (by omega) (by omega)
  · simp only [if_true]
    exact hN_268 P I _ hc.1
/-- one step of the class -/
theorem cls_once (N : Nat) (hNN : 2000 ≤ N) (P I : Nat → Int32) (gv rm d : Nat) (h : aH) (G : gT) (hT : h.1 < 2 ^ 29) (ha : AV gv rm d h) (hr : RC P I gv rm d h G) (hc : canS P gv (h.2.2.2.1 h.1)) :
    ok_Ma_advance_3 G (G 0 3) ∧ (f_Ma_advance_3 G (G 0 3)).1 = 1 ∧ ok_Ro_keep_3 N (f_Ma_advance_3 G (G 0 3)).2 ∧ RC P I gv rm d (hS P I rm h) (f_Ro_keep_3 N (f_Ma_advance_3 G (G 0 3)).2) ∧ ∀ a, 16 ≤ a → f_Ro_keep_3 N (f_Ma_advance_3 G (G 0 3)).2 a = G a := by
  obtain ⟨nw, od, go, st, co, wr⟩ := h
  have hc : canS P gv (st nw) := hc
  have hT : nw < 2 ^ 29 := hT
  have hlen := av_len ha
  obtain ⟨h1, h2, h3, h4, h5, h6, h7, h8, h9, h10⟩ := ha
  obtain ⟨r1, r2, r3, r4, r5, r6, r7, r8, r9, r10, r11⟩ := hr
  obtain ⟨hp, ht⟩ := h9 nw h1 (Nat.le_refl _)
  obtain ⟨o1, o2, -⟩ := ad_3 G (st nw) P I (G 0 3) (hw P (st nw)) r10 r1 r2 hp (by obtain ⟨k, a, b⟩ := ht; exact ⟨k, by omega, b⟩) ⟨gv, h6, r3⟩ rfl
  obtain ⟨G', e, p1, p6, p7, p8, p9, p10, p11, pa⟩ := o2 hc.1 (by rw [r3]; exact hc.2)
  rw [e]
  have p6' : G' 3 6 = hW P (st nw) := p6
  have p7' : ¬ hW P (st nw) = -1 → G' 3 7 = st nw (hW P (st nw)).toNatClampNeg := p7
  obtain ⟨q1, q2⟩ := cost_3 G' _ _ I (st nw) p1 p6 p7 p8 p9 p10
  have g7 := pa 7 (by decide) (by decide)
  have g8 := pa 8 (by decide) (by decide)
  have hd : nw - (nw - od) = od := by omega
  have hwr : G' 3 6 = -1 ∨ vp_in (G' 3 6) 264 := by
    rw [p6]
    rcases xWr_in (hw P (st nw)) (st nw) (g_ush (hw P (st nw)) 28) with z | ⟨j, hj, z⟩
    · exact Or.inl z
    · exact Or.inr (by rw [z]; exact vp_in_nI hj (by decide))
  obtain ⟨k1, k2⟩ := keep_loop rm (hC P I (st nw)) nw co h3 (by have := hC_le P I (st nw); omega) (by omega) N (nw - od) G' (by omega) (by omega) (by rw [g7]; exact r5) (by rw [g7]; exact r6) (by rw [g7, hd]; exact r7) (by rw [g7, hd]; exact r8) (by rw [hd]; omega) (fun t a b => by rw [g8]; exact (r11 t (by omega) b).1) hwr
  have ek : f_Ro_keep_3 N G' = f_Ro_keep_3_L5 N G' (nI (hC P I (st nw))) := by unfold f_Ro_keep_3; rw [q2]; rfl
  refine ⟨o1, rfl, ⟨q1, by rw [q2]; exact k1⟩, ?_, ?_⟩
  · show RC P I gv rm d (hS P I rm (nw, od, go, st, co, wr)) (f_Ro_keep_3 N G')
    rw [ek]
    unfold hS
    dsimp only
    obtain ⟨m0, m1, m2, m3, m4, m8, m9, m10, m11, m12, m13, m14, m15, ma⟩ := k2
    have hkk : dk rm (hC P I (st nw)) co nw (nw - od) = hk P I rm nw od st co := rfl
    rw [hkk] at m2 m3 m4
    have hkl : hk P I rm nw od st co ≤ nw - od := dk_le _ _ _ _ _
    have hf := dk_fit rm (hC P I (st nw)) co nw (nw - od) (by have := hC_le P I (st nw); omega)
    rw [hkk] at hf
    have hg := sumc_ge co (nw - hk P I rm nw od st co) (hk P I rm nw od st co) (fun t a b => (h8 t (by omega) (by omega)).2.1)
    have hc1 := hC_ge P I (st nw)
    generalize f_Ro_keep_3_L5 N G' (nI (hC P I (st nw))) = G2 at m0 m1 m2 m3 m4 m8 m9 m10 m11 m12 m13 m14 m15 ma ⊢
    generalize hk P I rm nw od st co = kk at m2 m3 m4 hkl hf hg ⊢
    refine ⟨fun j hj => by rw [ma 1 (by decide), pa 1 (by decide) (by decide)]; exact r1 j hj, fun j hj => by rw [ma 2 (by decide), pa 2 (by decide) (by decide)]; exact r2 j hj, by rw [ma 0 (by decide), pa 0 (by decide) (by decide)]; exact r3, by rw [ma 0 (by decide), pa 0 (by decide) (by decide)]; exact r4, by rw [m0, g7]; exact r5, m1, m2, ?_, by rw [m4, g7, r9], ?_, ?_⟩
    · rw [m3]
      exact congrArg nI (sum_new co _ nw kk (by omega)).symm
    · intro i hi
      have e1 : stC 3 4 G2 i = stC 3 4 G' i := by unfold stC; rw [ma 3 (by decide), ma 4 (by decide)]
      rw [e1, p1 i hi]
      simp only [if_true]; rfl
    · intro t a b
      by_cases e : t = nw
      · subst e
        rw [m8, m9, m10, m11, m12, m13, m14, m15]
        simp only [if_true, show ¬ t = t + 1 by omega, if_false]
        refine ⟨trivial, p6', fun hn => ⟨(p7' hn), ?_⟩, p8, p9, p10, p11⟩
        rw [p6', if_neg hn]
        have hcl := xWr_c (hw P (st t)) (st t) (g_ush (hw P (st t)) 28)
        have := p1 _ (show (hW P (st t)).toNatClampNeg < 269 by unfold hW; omega)
        unfold stC at this
        rw [if_pos (show (hW P (st t)).toNatClampNeg < 264 from hcl)] at this
        exact this
      · have hs : ¬ t % 1024 = nw % 1024 := by omega
        have old := r11 t (by omega) (by omega)
        rw [m8, m9, m10, m11, m12, m13, m14, m15]
        simp only [hs, if_false, e, show ¬ t = nw + 1 by omega, show ¬ t + 1 = nw + 1 by omega]
        rw [pa 8 (by decide) (by decide), pa 9 (by decide) (by decide), pa 10 (by decide) (by decide), pa 11 (by decide) (by decide), pa 12 (by decide) (by decide), pa 13 (by decide) (by decide), pa 14 (by decide) (by decide), pa 15 (by decide) (by decide)]
        exact old
  · intro a ha
    show f_Ro_keep_3 N G' a = G a
    rw [ek]
    rw [k2.2.2.2.2.2.2.2.2.2.2.2.2.2 a (by omega)]
    exact pa a (by omega) (by omega)
theorem cls_stop (P I : Nat → Int32) (gv rm d : Nat) (h : aH) (G : gT) (ha : AV gv rm d h) (hr : RC P I gv rm d h G) (hc : ¬ canS P gv (h.2.2.2.1 h.1)) :
    ok_Ma_advance_3 G (G 0 3) ∧ f_Ma_advance_3 G (G 0 3) = (0, G) := by
  obtain ⟨nw, od, go, st, co, wr⟩ := h
  have hc : ¬ canS P gv (st nw) := hc
  obtain ⟨h1, h2, h3, h4, h5, h6, h7, h8, h9, h10⟩ := ha
  obtain ⟨r1, r2, r3, r4, r5, r6, r7, r8, r9, r10, r11⟩ := hr
  obtain ⟨hp, ht⟩ := h9 nw h1 (Nat.le_refl _)
  obtain ⟨o1, -, o3⟩ := ad_3 G (st nw) P I (G 0 3) (hw P (st nw)) r10 r1 r2 hp (by obtain ⟨k, a, b⟩ := ht; exact ⟨k, by omega, b⟩) ⟨gv, h6, r3⟩ rfl
  refine ⟨o1, o3 ?_⟩
  rw [r3]
  by_cases z : st nw 268 = 0
  · exact Or.inr (Classical.byContradiction fun q => hc ⟨z, q⟩)
  · exact Or.inl z
