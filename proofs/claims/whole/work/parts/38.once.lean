/-! One step of the reference. -/
def mZ (B : gT) : gT := (g_up (g_up (g_up B 22 ((f_Mo_slot B (B 16 11)).toNatClampNeg) (f_Mo_costOf B)) 23 ((f_Mo_slot (g_up B 22 ((f_Mo_slot B (B 16 11)).toNatClampNeg) (f_Mo_costOf B)) (B 16 11)).toNatClampNeg) (B 16 14)) 16 11 ((B 16 11) + (1 : Int32)))
theorem once_u (N : Nat) (G : gT) : f_Mo_stepOnce N G = if (G 19 268) ≤ 0 then (if ((f_Mo_advance_19 (f_Mo_save N G) ((f_Mo_save N G) 16 4)).1) = 0 then (0, (f_Mo_advance_19 (f_Mo_save N G) ((f_Mo_save N G) 16 4)).2) else f_Mo_stepOnce_L81 N N (mZ (f_Mo_advance_19 (f_Mo_save N G) ((f_Mo_save N G) 16 4)).2) (f_Mo_allCosts N (mZ (f_Mo_advance_19 (f_Mo_save N G) ((f_Mo_save N G) 16 4)).2))) else (0, G) := rfl
theorem once_ok (N : Nat) (G : gT) (h : (G 19 268) ≤ 0 → ok_Mo_save N G ∧ ok_Mo_advance_19 (f_Mo_save N G) ((f_Mo_save N G) 16 4) ∧ (¬ ((f_Mo_advance_19 (f_Mo_save N G) ((f_Mo_save N G) 16 4)).1) = 0 → ok_Mo_costOf (f_Mo_advance_19 (f_Mo_save N G) ((f_Mo_save N G) 16 4)).2 ∧ vp_in (f_Mo_slot (f_Mo_advance_19 (f_Mo_save N G) ((f_Mo_save N G) 16 4)).2 ((f_Mo_advance_19 (f_Mo_save N G) ((f_Mo_save N G) 16 4)).2 16 11)) 1025 ∧ ok_Mo_allCosts N (mZ (f_Mo_advance_19 (f_Mo_save N G) ((f_Mo_save N G) 16 4)).2) ∧ ok_Mo_stepOnce_L81 N N (mZ (f_Mo_advance_19 (f_Mo_save N G) ((f_Mo_save N G) 16 4)).2) (f_Mo_allCosts N (mZ (f_Mo_advance_19 (f_Mo_save N G) ((f_Mo_save N G) 16 4)).2)))) : ok_Mo_stepOnce N G :=
  ⟨fun q => ⟨(h q).1, (h q).2.1, fun _ => trivial, fun z => ⟨((h q).2.2 z).1, ((h q).2.2 z).2.1, ((h q).2.2 z).2.1, ((h q).2.2 z).2.2.1, ((h q).2.2 z).2.2.2⟩⟩, fun _ => trivial⟩
theorem save_p (N : Nat) (hNN : 2000 ≤ N) (G : gT) (nw : Nat) (hnw : nw < 2 ^ 30) (h11 : G 16 11 = nI nw) :
    ok_Mo_save N G ∧ (∀ a, ¬ a = 21 → f_Mo_save N G a = G a) ∧ (∀ k, k < 269 → f_Mo_save N G 21 (269 * (nw % 1025) + k) = G 19 k) ∧ (∀ q, (q < 269 * (nw % 1025) ∨ 269 * (nw % 1025) + 269 ≤ q) → f_Mo_save N G 21 q = G 21 q) := by
  obtain ⟨a, b, c, d⟩ := save_loop nw hnw N 0 G (by omega) (by omega) h11
  rw [nI_0] at a b c d
  exact ⟨a, b, fun k hk => c k (Nat.zero_le _) hk, fun q hq => d q (by omega)⟩
theorem mod_once (N : Nat) (hNN : 2000 ≤ N) (P I : Nat → Int32) (gv rm d : Nat) (h : aH) (G : gT) (hT : h.1 < 2 ^ 29) (ha : AV gv rm d h) (hr : RM P I gv rm d h G) (hc : canS P gv (h.2.2.2.1 h.1)) :
    ok_Mo_stepOnce N G ∧ ∃ G1, f_Mo_stepOnce N G = (1, G1) ∧ RM P I gv rm d (hS P I rm h) G1 ∧ (∀ a, a < 16 → G1 a = G a) ∧ G1 16 0 = G 16 0 := by
  obtain ⟨nw, od, go, st, co, wr⟩ := h
  have hc : canS P gv (st nw) := hc
  have hT : nw < 2 ^ 29 := hT
  have hlen := av_len ha
  obtain ⟨h1, h2, h3, h4, h5, h6, h7, h8, h9, h10⟩ := ha
  obtain ⟨r1, r2, r3, r4, r5, r6, r7, r8, r9, r10⟩ := hr
  obtain ⟨hp, ht⟩ := h9 nw h1 (Nat.le_refl _)
  obtain ⟨s1, s2, s3, s4⟩ := save_p N hNN G nw (by omega) r6
  have hz : G 19 268 ≤ 0 := by rw [r9 268 (by decide), hc.1]; decide
  have e4 : f_Mo_save N G 16 4 = nI gv := by rw [s2 16 (by decide)]; exact r3
  obtain ⟨o1, o2, -⟩ := mo_19 (f_Mo_save N G) (st nw) P I (f_Mo_save N G 16 4) (hw P (st nw)) (fun i hi => by rw [s2 19 (by decide)]; exact r9 i hi) (fun j hj => by rw [s2 17 (by decide)]; exact r1 j hj) (fun j hj => by rw [s2 18 (by decide)]; exact r2 j hj) hp (by obtain ⟨k, a, b⟩ := ht; exact ⟨k, by omega, b⟩) ⟨gv, h6, e4⟩ rfl
  obtain ⟨G', e, p1, p14, pa, pb⟩ := o2 (by rw [e4]; exact hc.2)
  have p14 : G' 16 14 = hW P (st nw) := p14
  have q16 : ∀ b, ¬ b = 14 → G' 16 b = G 16 b := fun b hb => by rw [pb b hb, s2 16 (by decide)]
  have q11 : G' 16 11 = nI nw := by rw [q16 11 (by decide)]; exact r6
  have q21 : ∀ i, i < 269 → G' 21 (269 * (nw % 1025) + i) = st nw i := fun i hi => by rw [pa 21 (by decide) (by decide), s3 i hi]; exact r9 i hi
  obtain ⟨k1, k2⟩ := cost_m G' _ _ I (st nw) nw (by omega) q11 p1 p14 q21
  have k2 : f_Mo_costOf G' = nI (hC P I (st nw)) := k2
  have hcm := c_mo G' (t := nw) (by omega)
  have hcm2 : ∀ G2, (f_Mo_slot G2 (G' 16 11)).toNatClampNeg = nw % 1025 := fun G2 => by rw [q11]; exact c_mo G2 (by omega)
  have z22 : ∀ s, mZ G' 22 s = if s = nw % 1025 then nI (hC P I (st nw)) else G 22 s := fun s => by
    unfold mZ
    rw [hcm2, hcm2, k2]
    have : G' 22 s = G 22 s := by rw [pa 22 (by decide) (by decide), s2 22 (by decide)]
    simp [g_up, this]
  have z23 : ∀ s, mZ G' 23 s = if s = nw % 1025 then hW P (st nw) else G 23 s := fun s => by
    unfold mZ
    rw [hcm2, hcm2, k2]
    have : G' 23 s = G 23 s := by rw [pa 23 (by decide) (by decide), s2 23 (by decide)]
    simp [g_up, this, p14]
  have z11 : mZ G' 16 11 = nI (nw + 1) := by unfold mZ; simp [g_up, q11, nI_1]
  have z16 : ∀ b, ¬ b = 11 → mZ G' 16 b = G' 16 b := fun b hb => by unfold mZ; simp [g_up, hb]
  have za : ∀ a, ¬ a = 16 → ¬ a = 22 → ¬ a = 23 → mZ G' a = G' a := fun a x1 x2 x3 => by funext b; unfold mZ; simp [g_up, x1, x2, x3]
  have hd : nw - (nw - od) = od := by omega
  have hcc := hC_le P I (st nw)
  obtain ⟨t1, t2⟩ := all_costs N hNN (mZ G') (nw + 1) od (fun t => if t = nw then hC P I (st nw) else co t) (by omega) z11 (by rw [z16 12 (by decide), q16 12 (by decide)]; exact r7) (by omega) (by omega) (fun u a b => by
    rw [z22]
    by_cases q : u = nw
    · subst q; simp
    · rw [if_neg (show ¬ u % 1025 = nw % 1025 by omega), if_neg q]; exact (r10 u a (by omega)).1)
  have t3 : sumc (fun t => if t = nw then hC P I (st nw) else co t) od (nw + 1 - od) = sumc co od (nw - od) + hC P I (st nw) := by
    have := sum_new co (hC P I (st nw)) nw (nw - od) (by omega)
    rw [hd] at this
    exact this
  rw [t3] at t2
  obtain ⟨d1, G1, d2, d3, d4, d5, d6⟩ := drop_loop N rm (hC P I (st nw)) nw co h3 (by omega) (by omega) N (nw - od) (mZ G') (by omega) (by omega) (by rw [z16 1 (by decide), q16 1 (by decide)]; exact r5) (by rw [z16 12 (by decide), q16 12 (by decide), hd]; exact r7) (by rw [hd]; omega) (fun t a b => by
    rw [z22, if_neg (show ¬ t % 1025 = nw % 1025 by omega)]; exact (r10 t (by omega) b).1)
  rw [hd] at d1 d2
  have ne : ¬ (1 : Int32) = 0 := by decide
  refine ⟨once_ok N G (fun _ => ⟨s1, o1, fun _ => ?_⟩), G1, ?_, ?_, ?_, ?_⟩
  · rw [e]
    exact ⟨k1, by show vp_in (f_Mo_slot G' (G' 16 11)) 1025; rw [q11]; exact v_mo G' (by omega), t1, by show ok_Mo_stepOnce_L81 N N (mZ G') (f_Mo_allCosts N (mZ G')); rw [t2]; exact d1⟩
  · rw [once_u, if_pos hz, e]
    show (if (1 : Int32) = 0 then _ else f_Mo_stepOnce_L81 N N (mZ G') (f_Mo_allCosts N (mZ G'))) = _
    rw [if_neg ne, t2]
    exact d2
  · unfold hS
    dsimp only
    have hkk : dk rm (hC P I (st nw)) co nw (nw - od) = hk P I rm nw od st co := rfl
    rw [hkk] at d3 d4
    have hkl : hk P I rm nw od st co ≤ nw - od := dk_le _ _ _ _ _
    generalize hk P I rm nw od st co = kk at d3 d4 hkl ⊢
    refine ⟨fun j hj => ?_, fun j hj => ?_, ?_, ?_, ?_, ?_, d3, ?_, ?_, ?_⟩
    · rw [d5 17 (by decide), za 17 (by decide) (by decide) (by decide), pa 17 (by decide) (by decide), s2 17 (by decide)]; exact r1 j hj
    · rw [d5 18 (by decide), za 18 (by decide) (by decide) (by decide), pa 18 (by decide) (by decide), s2 18 (by decide)]; exact r2 j hj
    · rw [d6 4 (by decide) (by decide), z16 4 (by decide), q16 4 (by decide)]; exact r3
    · rw [d6 2 (by decide) (by decide), z16 2 (by decide), q16 2 (by decide)]; exact r4
    · rw [d6 1 (by decide) (by decide), z16 1 (by decide), q16 1 (by decide)]; exact r5
    · rw [d6 11 (by decide) (by decide)]; exact z11
    · rw [d4, z16 13 (by decide), q16 13 (by decide), r8]
    · intro i hi
      rw [d5 19 (by decide), za 19 (by decide) (by decide) (by decide), p1 i hi]
      simp only [if_true]; rfl
    · intro t a b
      rw [d5 22 (by decide), d5 23 (by decide), d5 21 (by decide), z22, z23, za 21 (by decide) (by decide) (by decide)]
      by_cases q : t = nw
      · subst q
        simp only [if_true, show ¬ t = t + 1 by omega, if_false]
        exact ⟨trivial, trivial, q21⟩
      · have hs : ¬ t % 1025 = nw % 1025 := by omega
        simp only [hs, if_false, q, show ¬ t = nw + 1 by omega]
        have old := r10 t (by omega) (by omega)
        refine ⟨old.1, old.2.1, fun i hi => ?_⟩
        rw [pa 21 (by decide) (by decide), s4 _ (by omega)]
        exact old.2.2 i hi
  · intro a ha
    rw [d5 a (by omega), za a (by omega) (by omega) (by omega), pa a (by omega) (by omega), s2 a (by omega)]
  · rw [d6 0 (by decide) (by decide), z16 0 (by decide), q16 0 (by decide)]
theorem mod_stop (N : Nat) (hNN : 2000 ≤ N) (P I : Nat → Int32) (gv rm d : Nat) (h : aH) (G : gT) (hT : h.1 < 2 ^ 29) (ha : AV gv rm d h) (hr : RM P I gv rm d h G) (hc : ¬ canS P gv (h.2.2.2.1 h.1)) :
    ok_Mo_stepOnce N G ∧ ∃ G1, f_Mo_stepOnce N G = (0, G1) ∧ RM P I gv rm d h G1 ∧ (∀ a, a < 16 → G1 a = G a) ∧ G1 16 0 = G 16 0 := by
  obtain ⟨nw, od, go, st, co, wr⟩ := h
  have hc : ¬ canS P gv (st nw) := hc
  have hT : nw < 2 ^ 29 := hT
  have hlen := av_len ha
  obtain ⟨h1, h2, h3, h4, h5, h6, h7, h8, h9, h10⟩ := ha
  have hr0 := hr
  obtain ⟨r1, r2, r3, r4, r5, r6, r7, r8, r9, r10⟩ := hr
  obtain ⟨hp, ht⟩ := h9 nw h1 (Nat.le_refl _)
  have g268 := r9 268 (by decide)
  by_cases z : st nw 268 = 0
  · obtain ⟨s1, s2, s3, s4⟩ := save_p N hNN G nw (by omega) r6
    have hz : G 19 268 ≤ 0 := by rw [g268, z]; decide
    have e4 : f_Mo_save N G 16 4 = nI gv := by rw [s2 16 (by decide)]; exact r3
    obtain ⟨o1, -, o3⟩ := mo_19 (f_Mo_save N G) (st nw) P I (f_Mo_save N G 16 4) (hw P (st nw)) (fun i hi => by rw [s2 19 (by decide)]; exact r9 i hi) (fun j hj => by rw [s2 17 (by decide)]; exact r1 j hj) (fun j hj => by rw [s2 18 (by decide)]; exact r2 j hj) hp (by obtain ⟨k, a, b⟩ := ht; exact ⟨k, by omega, b⟩) ⟨gv, h6, e4⟩ rfl
    have e := o3 (by rw [e4]; exact Classical.byContradiction fun q => hc ⟨z, q⟩)
    have ga : ∀ a, ¬ a = 16 → g_up (f_Mo_save N G) 16 14 (-1) a = f_Mo_save N G a := fun a ha => by funext b; simp [g_up, ha]
    have gb : ∀ b, ¬ b = 14 → g_up (f_Mo_save N G) 16 14 (-1) 16 b = G 16 b := fun b hb => by
      have := congrFun (s2 16 (by decide)) b
      simp [g_up, hb, this]
    refine ⟨once_ok N G (fun _ => ⟨s1, o1, fun q => absurd (by rw [e]) q⟩), g_up (f_Mo_save N G) 16 14 (-1), ?_, ?_, fun a ha => by rw [ga a (by omega), s2 a (by omega)], gb 0 (by decide)⟩
    · rw [once_u, if_pos hz, e]; rfl
    · refine ⟨fun j hj => by rw [ga 17 (by decide), s2 17 (by decide)]; exact r1 j hj, fun j hj => by rw [ga 18 (by decide), s2 18 (by decide)]; exact r2 j hj, (gb 4 (by decide)).trans r3, (gb 2 (by decide)).trans r4, (gb 1 (by decide)).trans r5, (gb 11 (by decide)).trans r6, (gb 12 (by decide)).trans r7, (gb 13 (by decide)).trans r8, fun i hi => by rw [ga 19 (by decide), s2 19 (by decide)]; exact r9 i hi, fun t a b => ?_⟩
      have old := r10 t a b
      have hs : ¬ t % 1025 = nw % 1025 := by omega
      rw [ga 22 (by decide), ga 23 (by decide), ga 21 (by decide), s2 22 (by decide), s2 23 (by decide)]
      exact ⟨old.1, old.2.1, fun i hi => by rw [s4 _ (by omega)]; exact old.2.2 i hi⟩
  · have hz : ¬ G 19 268 ≤ 0 := by
      rw [g268]
      rcases h10 with q | q | q
      · exact absurd q z
      · rw [q]; decide
      · rw [q]; decide
    exact ⟨once_ok N G (fun q => absurd q hz), G, by rw [once_u, if_neg hz], hr0, fun _ _ => rfl, rfl⟩
