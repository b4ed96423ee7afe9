/-! History: kept rows, their costs; what class (RC) and reference (RM) hold of it. -/
def sumc (co : Nat → Nat) (a : Nat) : Nat → Nat
  | 0 => 0
  | n + 1 => sumc co a n + co (a + n)
theorem sumc_front (co : Nat → Nat) (a n : Nat) : sumc co a (n + 1) = co a + sumc co (a + 1) n := by
  induction n with
  | zero => simp [sumc]
  | succ n ih =>
    have e : sumc co a (n + 1 + 1) = sumc co a (n + 1) + co (a + (n + 1)) := rfl
    have e2 : sumc co (a + 1) (n + 1) = sumc co (a + 1) n + co (a + 1 + n) := rfl
    rw [e, ih, e2, show a + (n + 1) = a + 1 + n by omega, Nat.add_assoc]
theorem sumc_ge (co : Nat → Nat) (a n : Nat) (h : ∀ t, a ≤ t → t < a + n → 1 ≤ co t) : n ≤ sumc co a n := by
  induction n with
  | zero => exact Nat.zero_le _
  | succ n ih =>
    have h1 := ih (fun t h1 h2 => h t h1 (by omega))
    have h2 := h (a + n) (by omega) (by omega)
    show n + 1 ≤ sumc co a n + co (a + n)
    omega
theorem sumc_congr (co co' : Nat → Nat) (a n : Nat) (h : ∀ t, a ≤ t → t < a + n → co' t = co t) : sumc co' a n = sumc co a n := by
  induction n with
  | zero => rfl
  | succ n ih =>
    show sumc co' a n + co' (a + n) = sumc co a n + co (a + n)
    rw [ih (fun t h1 h2 => h t h1 (by omega)), h (a + n) (by omega) (by omega)]
/-- how many of the latest j rows stay when one of cost c comes -/
def dk (rm c : Nat) (co : Nat → Nat) (nw : Nat) : Nat → Nat
  | 0 => 0
  | j + 1 => if sumc co (nw - (j + 1)) (j + 1) + c ≤ rm then j + 1 else dk rm c co nw j
theorem dk_le (rm c : Nat) (co : Nat → Nat) (nw j : Nat) : dk rm c co nw j ≤ j := by
  induction j with
  | zero => exact Nat.le_refl _
  | succ j ih => unfold dk; split <;> omega
theorem dk_fit (rm c : Nat) (co : Nat → Nat) (nw j : Nat) (h : c ≤ rm) : sumc co (nw - dk rm c co nw j) (dk rm c co nw j) + c ≤ rm := by
  induction j with
  | zero => show 0 + c ≤ rm; omega
  | succ j ih =>
    unfold dk
    split
    · rename_i q; exact q
    · exact ih
/-- the cost of a step's row -/
def xC (k w : Int32) (I x : Nat → Int32) : Nat := 1 + (if ¬ xWr k w x = -1 ∧ ¬ xN k w I x (xWr k w x).toNatClampNeg = x (xWr k w x).toNatClampNeg then 1 else 0) + (if xN k w I x 264 = (x 264 + 1) &&& 63 then 0 else 1) + (if k = 8 then 1 else 0) + (if k = 9 then 1 else 0)
theorem xC_ge (k w : Int32) (I x : Nat → Int32) : 1 ≤ xC k w I x := by unfold xC; omega
theorem xC_le (w : Int32) (I x : Nat → Int32) : xC (g_ush w 28) w I x ≤ 3 := by
  by_cases h8 : g_ush w 28 = 8
  · have e : xN (g_ush w 28) w I x 264 = (x 264 + 1) &&& 63 := by rw [h8]; simp (decide := true) [xN]
    unfold xC
    rw [if_pos e, if_pos h8, if_neg (show ¬ g_ush w 28 = 9 by rw [h8]; decide)]
    split <;> omega
  · by_cases h9 : g_ush w 28 = 9
    · have e : xN (g_ush w 28) w I x 264 = (x 264 + 1) &&& 63 := by rw [h9]; simp (decide := true) [xN]
      unfold xC
      rw [if_pos e, if_neg h8, if_pos h9]
      split <;> omega
    · unfold xC
      rw [if_neg h8, if_neg h9]
      split <;> split <;> omega
theorem xWr_in (w : Int32) (x : Nat → Int32) (k : Int32) : xWr k w x = -1 ∨ ∃ j, j < 264 ∧ xWr k w x = nI j := by
  unfold xWr
  split
  · exact Or.inl rfl
  · split
    · obtain ⟨j, h, -, e⟩ := xM_in w x; exact Or.inr ⟨j, h, e⟩
    · obtain ⟨j, h, e⟩ := xR_in w 24; exact Or.inr ⟨j, by omega, e⟩
theorem xWr_c (w : Int32) (x : Nat → Int32) (k : Int32) : (xWr k w x).toNatClampNeg < 264 := by
  rcases xWr_in w x k with h | ⟨j, hj, e⟩
  · rw [h]; decide
  · rw [e, nI_clamp (by omega)]; exact hj
theorem i_ne (v : Int32) : ¬ v + 1 = v := fun h => by
  have : v + 1 - v = v - v := by rw [h]
  rw [Int32.add_comm, Int32.add_sub_cancel, Int32.sub_self] at this
  exact absurd this (by decide)
theorem xN265 (k w : Int32) (I x : Nat → Int32) : xN k w I x 265 = if k = 8 then x 265 + 1 else x 265 := by simp [xN]
theorem xN266 (k w : Int32) (I x : Nat → Int32) : xN k w I x 266 = if k = 9 then x 266 + 1 else x 266 := by simp [xN]
/-- the class's count of the latest step's cost -/
theorem cost_3 (G : gT) (k w : Int32) (I x : Nat → Int32) (hs : ∀ i, i < 269 → stC 3 4 G i = xN k w I x i) (h6 : G 3 6 = xWr k w x) (h7 : ¬ xWr k w x = -1 → G 3 7 = x (xWr k w x).toNatClampNeg) (h8 : G 3 8 = x 264) (h9 : G 3 9 = x 265) (h10 : G 3 10 = x 266) :
    ok_Ma_costOfLatest_3 G ∧ f_Ma_costOfLatest_3 G = nI (xC k w I x) := by
  have g1 : G 3 1 = xN k w I x 264 := hs 264 (by decide)
  have g2 : G 3 2 = xN k w I x 265 := hs 265 (by decide)
  have g3 : G 3 3 = xN k w I x 266 := hs 266 (by decide)
  have hc := xWr_c w x k
  have g4 : G 4 (xWr k w x).toNatClampNeg = xN k w I x (xWr k w x).toNatClampNeg := by
    have := hs _ (show (xWr k w x).toNatClampNeg < 269 by omega)
    unfold stC at this; rw [if_pos hc] at this; exact this
  have hn : f_Ma_changedNumber_3 G = if ¬ xWr k w x = -1 ∧ ¬ xN k w I x (xWr k w x).toNatClampNeg = x (xWr k w x).toNatClampNeg then 1 else 0 := by
    unfold f_Ma_changedNumber_3
    rw [h6]
    by_cases q : xWr k w x = -1
    · rw [if_pos q, if_neg (fun z => z.1 q)]
    · rw [if_neg q, g4, h7 q]
      by_cases q2 : xN k w I x (xWr k w x).toNatClampNeg = x (xWr k w x).toNatClampNeg
      · rw [if_pos q2, if_neg (fun z => z.2 q2)]
      · rw [if_neg q2, if_pos ⟨q, q2⟩]
  refine ⟨⟨⟨fun _ => trivial, fun q => ⟨?_, trivial⟩⟩, trivial⟩, ?_⟩
  · rw [h6]
    rcases xWr_in w x k with h | ⟨j, hj, e⟩
    · exact absurd (h6.trans h) q
    · rw [e]; exact vp_in_nI hj (by decide)
  · unfold f_Ma_costOfLatest_3 xC
    rw [hn, g1, g2, g3, h8, h9, h10, xN265, xN266]
    rcases Classical.em (¬ xWr k w x = -1 ∧ ¬ xN k w I x (xWr k w x).toNatClampNeg = x (xWr k w x).toNatClampNeg) with a | a
    · rcases Classical.em (xN k w I x 264 = (x 264 + 1) &&& 63) with b | b
      · rcases Classical.em (k = 8) with c | c
        · rcases Classical.em (k = 9) with d | d
          · rw [c] at d; exact absurd d (by decide)
          · simp only [eq_true a, eq_true b, eq_true c, eq_false d, if_true, if_false, i_ne]; decide
        · rcases Classical.em (k = 9) with d | d
          · simp only [eq_true a, eq_true b, eq_false c, eq_true d, if_true, if_false, i_ne]; decide
          · simp only [eq_true a, eq_true b, eq_false c, eq_false d, if_true, if_false, i_ne]; decide
      · rcases Classical.em (k = 8) with c | c
        · rcases Classical.em (k = 9) with d | d
          · rw [c] at d; exact absurd d (by decide)
          · simp only [eq_true a, eq_false b, eq_true c, eq_false d, if_true, if_false, i_ne]; decide
        · rcases Classical.em (k = 9) with d | d
          · simp only [eq_true a, eq_false b, eq_false c, eq_true d, if_true, if_false, i_ne]; decide
          · simp only [eq_true a, eq_false b, eq_false c, eq_false d, if_true, if_false, i_ne]; decide
    · rcases Classical.em (xN k w I x 264 = (x 264 + 1) &&& 63) with b | b
      · rcases Classical.em (k = 8) with c | c
        · rcases Classical.em (k = 9) with d | d
          · rw [c] at d; exact absurd d (by decide)
          · simp only [eq_false a, eq_true b, eq_true c, eq_false d, if_true, if_false, i_ne]; decide
        · rcases Classical.em (k = 9) with d | d
          · simp only [eq_false a, eq_true b, eq_false c, eq_true d, if_true, if_false, i_ne]; decide
          · simp only [eq_false a, eq_true b, eq_false c, eq_false d, if_true, if_false, i_ne]; decide
      · rcases Classical.em (k = 8) with c | c
        · rcases Classical.em (k = 9) with d | d
          · rw [c] at d; exact absurd d (by decide)
          · simp only [eq_false a, eq_false b, eq_true c, eq_false d, if_true, if_false, i_ne]; decide
        · rcases Classical.em (k = 9) with d | d
          · simp only [eq_false a, eq_false b, eq_false c, eq_true d, if_true, if_false, i_ne]; decide
          · simp only [eq_false a, eq_false b, eq_false c, eq_false d, if_true, if_false, i_ne]; decide
/-- what stands behind the loop of 'keep' -/
def kE (G : gT) (x2 : Int32) : gT := (if (G 3 6) = (-1) then (g_up (g_up (g_up (g_up (g_up (g_up (g_up (g_up (g_up (g_up G 8 ((f_Ro_slot G (G 7 1)).toNatClampNeg) x2) 9 ((f_Ro_slot G (G 7 1)).toNatClampNeg) (G 3 6)) 10 ((f_Ro_slot G (G 7 1)).toNatClampNeg) (G 3 7)) 11 ((f_Ro_slot G (G 7 1)).toNatClampNeg) 0) 12 ((f_Ro_slot G (G 7 1)).toNatClampNeg) (G 3 8)) 13 ((f_Ro_slot G (G 7 1)).toNatClampNeg) (G 3 9)) 14 ((f_Ro_slot G (G 7 1)).toNatClampNeg) (G 3 10)) 15 ((f_Ro_slot G (G 7 1)).toNatClampNeg) (G 3 11)) 7 3 ((G 7 3) + x2)) 7 1 ((G 7 1) + (1 : Int32))) else (g_up (g_up (g_up (g_up (g_up (g_up (g_up (g_up (g_up (g_up G 8 ((f_Ro_slot G (G 7 1)).toNatClampNeg) x2) 9 ((f_Ro_slot G (G 7 1)).toNatClampNeg) (G 3 6)) 10 ((f_Ro_slot G (G 7 1)).toNatClampNeg) (G 3 7)) 11 ((f_Ro_slot G (G 7 1)).toNatClampNeg) (G 4 ((G 3 6).toNatClampNeg))) 12 ((f_Ro_slot G (G 7 1)).toNatClampNeg) (G 3 8)) 13 ((f_Ro_slot G (G 7 1)).toNatClampNeg) (G 3 9)) 14 ((f_Ro_slot G (G 7 1)).toNatClampNeg) (G 3 10)) 15 ((f_Ro_slot G (G 7 1)).toNatClampNeg) (G 3 11)) 7 3 ((G 7 3) + x2)) 7 1 ((G 7 1) + (1 : Int32))))
/-- one turn of the loop of 'keep': the oldest row goes -/
def kD (G : gT) : gT := (g_up (g_up (g_up G 7 3 ((G 7 3) - (G 8 ((f_Ro_slot G (G 7 2)).toNatClampNeg)))) 7 2 ((G 7 2) + (1 : Int32))) 7 4 ((G 7 4) + (1 : Int32)))
theorem keep_u (n : Nat) (G : gT) (x2 : Int32) : f_Ro_keep_3_L5 (n + 1) G x2 = if (G 7 1) ≤ (G 7 2) then kE G x2 else if ((G 7 3) + x2) ≤ (G 7 0) then kE G x2 else f_Ro_keep_3_L5 n (kD G) x2 := rfl
def KP (G G1 : gT) (nw od sp c : Nat) (gn : Int32) : Prop :=
  G1 7 0 = G 7 0 ∧ G1 7 1 = nI (nw + 1) ∧ G1 7 2 = nI od ∧ G1 7 3 = nI (sp + c) ∧ G1 7 4 = gn ∧
  (∀ s, G1 8 s = if s = nw % 1024 then nI c else G 8 s) ∧ (∀ s, G1 9 s = if s = nw % 1024 then G 3 6 else G 9 s) ∧ (∀ s, G1 10 s = if s = nw % 1024 then G 3 7 else G 10 s) ∧ (∀ s, G1 11 s = if s = nw % 1024 then (if G 3 6 = -1 then 0 else G 4 (G 3 6).toNatClampNeg) else G 11 s) ∧
  (∀ s, G1 12 s = if s = nw % 1024 then G 3 8 else G 12 s) ∧ (∀ s, G1 13 s = if s = nw % 1024 then G 3 9 else G 13 s) ∧ (∀ s, G1 14 s = if s = nw % 1024 then G 3 10 else G 14 s) ∧ (∀ s, G1 15 s = if s = nw % 1024 then G 3 11 else G 15 s) ∧ ∀ a, a < 7 ∨ 15 < a → G1 a = G a
theorem kE_p (G : gT) (nw od sp c : Nat) (h1 : G 7 1 = nI nw) (h2 : G 7 2 = nI od) (h3 : G 7 3 = nI sp) : KP G (kE G (nI c)) nw od sp c (G 7 4) := by
  have hs : (f_Ro_slot G (G 7 1)).toNatClampNeg = nw % 1024 := by
    rw [h1, sl_ro, nI_clamp (by have := Nat.mod_lt nw (show 0 < 1024 by decide); omega)]
  unfold kE
  rw [hs]
  by_cases hq : G 3 6 = -1
  · rw [if_pos hq]
    refine ⟨by simp [g_up], by simp [g_up, h1, nI_1], by simp [g_up, h2], by simp [g_up, h3, nI_add], by simp [g_up], by simp [g_up], by simp [g_up], by simp [g_up], by simp [g_up, hq], by simp [g_up], by simp [g_up], by simp [g_up], by simp [g_up], ?_⟩
    intro a ha
    funext b
    have z : ∀ c, 7 ≤ c → c ≤ 15 → ¬ a = c := fun c _ _ => by omega
    simp [g_up, z 7, z 8, z 9, z 10, z 11, z 12, z 13, z 14, z 15]
  · rw [if_neg hq]
    refine ⟨by simp [g_up], by simp [g_up, h1, nI_1], by simp [g_up, h2], by simp [g_up, h3, nI_add], by simp [g_up], by simp [g_up], by simp [g_up], by simp [g_up], by simp [g_up, hq], by simp [g_up], by simp [g_up], by simp [g_up], by simp [g_up], ?_⟩
    intro a ha
    funext b
    have z : ∀ c, 7 ≤ c → c ≤ 15 → ¬ a = c := fun c _ _ => by omega
    simp [g_up, z 7, z 8, z 9, z 10, z 11, z 12, z 13, z 14, z 15]
theorem v_ro (G : gT) (t : Nat) : vp_in (f_Ro_slot G (nI t)) 1024 := by
  rw [sl_ro]; exact vp_in_nI (Nat.mod_lt _ (by decide)) (by decide)
theorem c_ro (G : gT) (t : Nat) : (f_Ro_slot G (nI t)).toNatClampNeg = t % 1024 := by
  rw [sl_ro, nI_clamp (by have := Nat.mod_lt t (show 0 < 1024 by decide); omega)]
theorem v_mo (G : gT) {t : Nat} (h : t < 2 ^ 31) : vp_in (f_Mo_slot G (nI t)) 1025 := by
  rw [sl_mo G h]; exact vp_in_nI (Nat.mod_lt _ (by decide)) (by decide)
theorem c_mo (G : gT) {t : Nat} (h : t < 2 ^ 31) : (f_Mo_slot G (nI t)).toNatClampNeg = t % 1025 := by
  rw [sl_mo G h, nI_clamp (by have := Nat.mod_lt t (show 0 < 1025 by decide); omega)]
theorem keep_loop (rm c nw : Nat) (co : Nat → Nat) (hrm : rm ≤ 1024) (hc : c ≤ 5) (hnw : nw < 2 ^ 30) : ∀ (n j : Nat) (G : gT), j < n → j ≤ nw → G 7 0 = nI rm → G 7 1 = nI nw → G 7 2 = nI (nw - j) → G 7 3 = nI (sumc co (nw - j) j) → sumc co (nw - j) j ≤ 1024 → (∀ t, nw - j ≤ t → t < nw → G 8 (t % 1024) = nI (co t)) → (G 3 6 = -1 ∨ vp_in (G 3 6) 264) →
    ok_Ro_keep_3_L5 n G (nI c) ∧ KP G (f_Ro_keep_3_L5 n G (nI c)) nw (nw - dk rm c co nw j) (sumc co (nw - dk rm c co nw j) (dk rm c co nw j)) c (G 7 4 + nI (j - dk rm c co nw j)) := by
  intro n
  induction n with
  | zero => intro j G h; omega
  | succ n ih =>
    intro j G hj hjn h0 h1 h2 h3 hs h8 h6
    have vs : vp_in (f_Ro_slot G (G 7 1)) 1024 := by rw [h1]; exact v_ro G nw
    have okE : (vp_in (f_Ro_slot G (G 7 1)) 1024 ∧ (vp_in (f_Ro_slot G (G 7 1)) 1024 ∧ (vp_in (f_Ro_slot G (G 7 1)) 1024 ∧ (((G 3 6) = (-1) → (vp_in (f_Ro_slot G (G 7 1)) 1024 ∧ (vp_in (f_Ro_slot G (G 7 1)) 1024 ∧ (vp_in (f_Ro_slot G (G 7 1)) 1024 ∧ (vp_in (f_Ro_slot G (G 7 1)) 1024 ∧ (vp_in (f_Ro_slot G (G 7 1)) 1024 ∧ True)))))) ∧ (¬ (G 3 6) = (-1) → (vp_in (G 3 6) 264 ∧ (vp_in (f_Ro_slot G (G 7 1)) 1024 ∧ (vp_in (f_Ro_slot G (G 7 1)) 1024 ∧ (vp_in (f_Ro_slot G (G 7 1)) 1024 ∧ (vp_in (f_Ro_slot G (G 7 1)) 1024 ∧ (vp_in (f_Ro_slot G (G 7 1)) 1024 ∧ True))))))))))) :=
      ⟨vs, vs, vs, fun _ => ⟨vs, vs, vs, vs, vs, trivial⟩, fun q => ⟨h6.elim (fun z => absurd z q) id, vs, vs, vs, vs, vs, trivial⟩⟩
    cases j with
    | zero =>
      have c1 : G 7 1 ≤ G 7 2 := by rw [h1, h2]; exact nI_le (by omega) (by omega)
      refine ⟨⟨fun _ => okE, fun q => absurd c1 q⟩, ?_⟩
      rw [keep_u, if_pos c1]
      have := kE_p G nw (nw - 0) (sumc co (nw - 0) 0) c h1 h2 h3
      show KP G _ nw (nw - 0) (sumc co (nw - 0) 0) c (G 7 4 + nI 0)
      rw [nI_0, Int32.add_zero]; exact this
    | succ j =>
      have c1 : ¬ G 7 1 ≤ G 7 2 := by rw [h1, h2]; exact nI_ge (by omega) (by omega)
      by_cases hf : sumc co (nw - (j + 1)) (j + 1) + c ≤ rm
      · have c2 : (G 7 3) + nI c ≤ (G 7 0) := by rw [h3, h0, nI_add]; exact nI_le hf (by omega)
        refine ⟨⟨fun q => absurd q c1, fun _ => ⟨fun _ => okE, fun q => absurd c2 q⟩⟩, ?_⟩
        rw [keep_u, if_neg c1, if_pos c2]
        have e : dk rm c co nw (j + 1) = j + 1 := by unfold dk; rw [if_pos hf]
        rw [e, Nat.sub_self, nI_0, Int32.add_zero]
        exact kE_p G nw (nw - (j + 1)) (sumc co (nw - (j + 1)) (j + 1)) c h1 h2 h3
      · have c2 : ¬ (G 7 3) + nI c ≤ (G 7 0) := by rw [h3, h0, nI_add]; exact nI_ge (by omega) (by omega)
        have e : dk rm c co nw (j + 1) = dk rm c co nw j := by rw [dk, if_neg hf]
        have hcl : (f_Ro_slot G (G 7 2)).toNatClampNeg = (nw - (j + 1)) % 1024 := by rw [h2]; exact c_ro G _
        have hfr := sumc_front co (nw - (j + 1)) j
        rw [show nw - (j + 1) + 1 = nw - j by omega] at hfr
        have h8' := h8 (nw - (j + 1)) (by omega) (by omega)
        have d3 : kD G 7 3 = nI (sumc co (nw - j) j) := by
          have : kD G 7 3 = G 7 3 - G 8 (f_Ro_slot G (G 7 2)).toNatClampNeg := by simp [kD, g_up]
          rw [this, hcl, h8', h3, hfr, nI_sub (by omega), Nat.add_sub_cancel_left]
        have d2 : kD G 7 2 = nI (nw - j) := by
          have : kD G 7 2 = G 7 2 + 1 := by simp [kD, g_up]
          rw [this, h2, nI_1, show nw - (j + 1) + 1 = nw - j by omega]
        have d4 : kD G 7 4 = G 7 4 + 1 := by simp [kD, g_up]
        have dr : ∀ a, ¬ a = 7 → kD G a = G a := fun a ha => by funext b; simp [kD, g_up, ha]
        have d0 : kD G 7 0 = G 7 0 := by simp [kD, g_up]
        have d1 : kD G 7 1 = G 7 1 := by simp [kD, g_up]
        obtain ⟨i1, i2⟩ := ih j (kD G) (by omega) (by omega) (d0.trans h0) (d1.trans h1) d2 d3 (by omega) (fun t a b => by rw [dr 8 (by decide)]; exact h8 t (by omega) b) (by rw [dr 3 (by decide)]; exact h6)
        refine ⟨⟨fun q => absurd q c1, fun _ => ⟨fun q => absurd q c2, fun _ => ⟨by rw [h2]; exact v_ro G _, i1⟩⟩⟩, ?_⟩
        rw [keep_u, if_neg c1, if_neg c2, e]
        have hdk := dk_le rm c co nw j
        have e4 : G 7 4 + nI (j + 1 - dk rm c co nw j) = kD G 7 4 + nI (j - dk rm c co nw j) := by
          rw [d4, show j + 1 - dk rm c co nw j = (j - dk rm c co nw j) + 1 by omega, ← nI_1, Int32.add_assoc, Int32.add_comm 1]
        rw [e4]
        obtain ⟨k0, k1, k2, k3, k4, k8, k9, k10, k11, k12, k13, k14, k15, ka⟩ := i2
        rw [dr 3 (by decide)] at k9 k10 k11 k12 k13 k14 k15
        rw [dr 4 (by decide)] at k11
        rw [dr 8 (by decide)] at k8
        rw [dr 9 (by decide)] at k9
        rw [dr 10 (by decide)] at k10
        rw [dr 11 (by decide)] at k11
        rw [dr 12 (by decide)] at k12
        rw [dr 13 (by decide)] at k13
        rw [dr 14 (by decide)] at k14
        rw [dr 15 (by decide)] at k15
        exact ⟨k0.trans d0, k1, k2, k3, k4, k8, k9, k10, k11, k12, k13, k14, k15, fun a ha => (ka a ha).trans (dr a (by omega))⟩
