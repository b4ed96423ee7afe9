/-! The reference's loops: saving, counting costs, dropping. -/
theorem ix_mo (G : gT) {t i : Nat} (ht : t < 2 ^ 31) (hi : i < 269) : (((269 : Int32) * (f_Mo_slot G (nI t))) + nI i) = nI (269 * (t % 1025) + i) := by
  rw [sl_mo G ht, show (269 : Int32) = nI 269 from rfl, nI_mul, nI_add]
theorem ix_c (G : gT) {t i : Nat} (ht : t < 2 ^ 31) (hi : i < 269) : (((269 : Int32) * (f_Mo_slot G (nI t))) + nI i).toNatClampNeg = 269 * (t % 1025) + i := by
  rw [ix_mo G ht hi, nI_clamp (by have := Nat.mod_lt t (show 0 < 1025 by decide); omega)]
theorem ix_v (G : gT) {t i : Nat} (ht : t < 2 ^ 31) (hi : i < 269) : vp_in (((269 : Int32) * (f_Mo_slot G (nI t))) + nI i) 275725 := by
  rw [ix_mo G ht hi]; exact vp_in_nI (by have := Nat.mod_lt t (show 0 < 1025 by decide); omega) (by decide)
theorem save_loop (nw : Nat) (hnw : nw < 2 ^ 30) : ∀ (n i : Nat) (G : gT), i ≤ 269 → 269 - i < n → G 16 11 = nI nw →
    ok_Mo_save_L2 n G (nI i) ∧ (∀ a, ¬ a = 21 → f_Mo_save_L2 n G (nI i) a = G a) ∧ (∀ k, i ≤ k → k < 269 → f_Mo_save_L2 n G (nI i) 21 (269 * (nw % 1025) + k) = G 19 k) ∧ (∀ q, (q < 269 * (nw % 1025) + i ∨ 269 * (nw % 1025) + 269 ≤ q) → f_Mo_save_L2 n G (nI i) 21 q = G 21 q) := by
  intro n
  induction n with
  | zero => intro i G h1 h2; omega
  | succ n ih =>
    intro i G hi hn h11
    by_cases hc : i = 269
    · subst hc
      have c1 : (269 : Int32) ≤ nI 269 := by decide
      refine ⟨⟨fun _ => trivial, fun q => absurd c1 q⟩, ?_⟩
      have e : f_Mo_save_L2 (n + 1) G (nI 269) = G := by unfold f_Mo_save_L2; rw [if_pos c1]
      rw [e]
      exact ⟨fun _ _ => rfl, fun k a b => by omega, fun _ _ => rfl⟩
    · have hlt : i < 269 := by omega
      have c1 : ¬ (269 : Int32) ≤ nI i := nI_ge (a := i) (b := 269) hlt (by decide)
      have hx := ix_c G (t := nw) (i := i) (by omega) hlt
      have e : f_Mo_save_L2 (n + 1) G (nI i) = f_Mo_save_L2 n (g_up G 21 (269 * (nw % 1025) + i) (G 19 i)) (nI (i + 1)) := by
        rw [f_Mo_save_L2, if_neg c1, h11, hx, nI_clamp (by omega), nI_1]
      obtain ⟨i1, i2, i3, i4⟩ := ih (i + 1) (g_up G 21 (269 * (nw % 1025) + i) (G 19 i)) (by omega) (by omega) (by simp [g_up, h11])
      refine ⟨⟨fun q => absurd q c1, fun _ => ⟨vp_in_nI hlt (by decide), by rw [h11]; exact ix_v G (by omega) hlt, ?_⟩⟩, ?_⟩
      · rw [h11, hx, nI_clamp (by omega), nI_1]; exact i1
      · rw [e]
        refine ⟨fun a ha => (i2 a ha).trans (by funext b; simp [g_up, ha]), fun k a b => ?_, fun q hq => ?_⟩
        · rcases Nat.eq_or_lt_of_le a with h | h
          · subst h
            rw [i4 _ (Or.inl (by omega))]
            simp [g_up]
          · rw [i3 k h b]; simp [g_up]
        · rw [i4 q (by omega)]
          have : ¬ q = 269 * (nw % 1025) + i := by omega
          simp [g_up, this]
theorem all_loop (G : gT) (nw : Nat) (co : Nat → Nat) (hnw : nw < 2 ^ 30) (h11 : G 16 11 = nI nw) : ∀ (n j t s : Nat), j < n → t + j = nw → (∀ u, t ≤ u → u < nw → G 22 (u % 1025) = nI (co u)) →
    ok_Mo_allCosts_L7 n G (nI s) (nI t) ∧ f_Mo_allCosts_L7 n G (nI s) (nI t) = nI (s + sumc co t j) := by
  intro n
  induction n with
  | zero => intro j t s h; omega
  | succ n ih =>
    intro j t s hj ht hc
    cases j with
    | zero =>
      have c1 : G 16 11 ≤ nI t := by rw [h11]; exact nI_le (by omega) (by omega)
      refine ⟨⟨fun _ => trivial, fun q => absurd c1 q⟩, ?_⟩
      rw [f_Mo_allCosts_L7, if_pos c1]; rfl
    | succ j =>
      have c1 : ¬ G 16 11 ≤ nI t := by rw [h11]; exact nI_ge (by omega) (by omega)
      have hx := c_mo G (t := t) (by omega)
      have hv := hc t (by omega) (by omega)
      obtain ⟨i1, i2⟩ := ih j (t + 1) (s + co t) (by omega) (by omega) (fun u a b => hc u (by omega) b)
      refine ⟨⟨fun q => absurd q c1, fun _ => ⟨v_mo G (by omega), ?_⟩⟩, ?_⟩
      · rw [hx, hv, nI_add, nI_1]; exact i1
      · rw [f_Mo_allCosts_L7, if_neg c1, hx, hv, nI_add, nI_1, i2, sumc_front, Nat.add_assoc]
theorem all_costs (N : Nat) (hN : 2000 ≤ N) (G : gT) (nw od : Nat) (co : Nat → Nat) (hnw : nw < 2 ^ 30) (h11 : G 16 11 = nI nw) (h12 : G 16 12 = nI od) (ho : od ≤ nw) (hd : nw - od ≤ 1025) (hc : ∀ u, od ≤ u → u < nw → G 22 (u % 1025) = nI (co u)) :
    ok_Mo_allCosts N G ∧ f_Mo_allCosts N G = nI (sumc co od (nw - od)) := by
  have h := all_loop G nw co hnw h11 N (nw - od) od 0 (by omega) (by omega) hc
  unfold ok_Mo_allCosts f_Mo_allCosts
  rw [h12, ← nI_0]
  rw [Nat.zero_add] at h
  exact h
theorem drop_loop (N rm c nw : Nat) (co : Nat → Nat) (hrm : rm ≤ 1024) (hc : c ≤ rm) (hnw : nw < 2 ^ 30) : ∀ (n j : Nat) (G : gT), j < n → j ≤ nw → G 16 1 = nI rm → G 16 12 = nI (nw - j) → sumc co (nw - j) j ≤ 2000 → (∀ t, nw - j ≤ t → t < nw → G 22 (t % 1025) = nI (co t)) →
    ok_Mo_stepOnce_L81 N n G (nI (sumc co (nw - j) j + c)) ∧ ∃ G1, f_Mo_stepOnce_L81 N n G (nI (sumc co (nw - j) j + c)) = (1, G1) ∧ G1 16 12 = nI (nw - dk rm c co nw j) ∧ G1 16 13 = G 16 13 + nI (j - dk rm c co nw j) ∧ (∀ a, ¬ a = 16 → G1 a = G a) ∧ ∀ b, ¬ b = 12 → ¬ b = 13 → G1 16 b = G 16 b := by
  intro n
  induction n with
  | zero => intro j G h; omega
  | succ n ih =>
    intro j G hj hjn h1 h12 hs h22
    by_cases hf : sumc co (nw - j) j + c ≤ rm
    · have c1 : nI (sumc co (nw - j) j + c) ≤ G 16 1 := by rw [h1]; exact nI_le hf (by omega)
      have e : dk rm c co nw j = j := by
        cases j with
        | zero => rfl
        | succ j => rw [dk, if_pos hf]
      refine ⟨⟨fun _ => trivial, fun q => absurd c1 q⟩, G, ?_, ?_, ?_, fun _ _ => rfl, fun _ _ _ => rfl⟩
      · rw [f_Mo_stepOnce_L81, if_pos c1]
      · rw [e]; exact h12
      · rw [e, Nat.sub_self, nI_0, Int32.add_zero]
    · have c1 : ¬ nI (sumc co (nw - j) j + c) ≤ G 16 1 := by rw [h1]; exact nI_ge (by omega) (by omega)
      cases j with
      | zero => exact absurd (show sumc co (nw - 0) 0 + c ≤ rm by show 0 + c ≤ rm; omega) hf
      | succ j =>
        have hfr := sumc_front co (nw - (j + 1)) j
        rw [show nw - (j + 1) + 1 = nw - j by omega] at hfr
        have hx := c_mo G (t := nw - (j + 1)) (by omega)
        have hv := h22 (nw - (j + 1)) (by omega) (by omega)
        have e : dk rm c co nw (j + 1) = dk rm c co nw j := by rw [dk, if_neg hf]
        have e2 : nI (sumc co (nw - (j + 1)) (j + 1) + c) - nI (co (nw - (j + 1))) = nI (sumc co (nw - j) j + c) := by
          rw [nI_sub (by omega)]; congr 1; omega
        have e3 : G 16 12 + 1 = nI (nw - j) := by rw [h12, nI_1, show nw - (j + 1) + 1 = nw - j by omega]
        obtain ⟨i1, G1, i2, i3, i4, i5, i6⟩ := ih j (g_up (g_up G 16 12 (G 16 12 + 1)) 16 13 (G 16 13 + 1)) (by omega) (by omega) (by simp [g_up, h1]) (by simp [g_up, e3]) (by omega) (fun t a b => by simp only [g_up]; exact h22 t (by omega) b)
        have hdk := dk_le rm c co nw j
        refine ⟨⟨fun q => absurd q c1, fun _ => ⟨by rw [h12]; exact v_mo G (by omega), ?_⟩⟩, G1, ?_, ?_, ?_, ?_, ?_⟩
        · have := i1
          rw [← e2, ← hv, ← hx, ← h12] at this
          exact this
        · rw [f_Mo_stepOnce_L81, if_neg c1, ← i2, ← e2, ← hv, ← hx, ← h12]
        · rw [e]; exact i3
        · rw [e, i4]
          have : g_up (g_up G 16 12 (G 16 12 + 1)) 16 13 (G 16 13 + 1) 16 13 = G 16 13 + 1 := by simp [g_up]
          rw [this, show j + 1 - dk rm c co nw j = (j - dk rm c co nw j) + 1 by omega, ← nI_1, Int32.add_assoc, Int32.add_comm 1]
        · intro a ha
          rw [i5 a ha]; funext b; simp [g_up, ha]
        · intro b h1 h2
          rw [i6 b h1 h2]; simp [g_up, h1, h2]
theorem d265 (k w : Int32) (I x : Nat → Int32) : xN k w I x 265 - x 265 = nI (if k = 8 then 1 else 0) := by
  rw [xN265]
  split
  · rw [Int32.add_comm, Int32.add_sub_cancel]; rfl
  · rw [Int32.sub_self]; rfl
theorem d266 (k w : Int32) (I x : Nat → Int32) : xN k w I x 266 - x 266 = nI (if k = 9 then 1 else 0) := by
  rw [xN266]
  split
  · rw [Int32.add_comm, Int32.add_sub_cancel]; rfl
  · rw [Int32.sub_self]; rfl
theorem cost_m (G : gT) (k w : Int32) (I x : Nat → Int32) (nw : Nat) (hnw : nw < 2 ^ 30) (h11 : G 16 11 = nI nw) (hs : ∀ i, i < 269 → G 19 i = xN k w I x i) (h14 : G 16 14 = xWr k w x) (h21 : ∀ i, i < 269 → G 21 (269 * (nw % 1025) + i) = x i) :
    ok_Mo_costOf G ∧ f_Mo_costOf G = nI (xC k w I x) := by
  have c4 := ix_c G (t := nw) (i := 264) (by omega) (by decide)
  have c5 := ix_c G (t := nw) (i := 265) (by omega) (by decide)
  have c6 := ix_c G (t := nw) (i := 266) (by omega) (by decide)
  have v4 := ix_v G (t := nw) (i := 264) (by omega) (by decide)
  have v5 := ix_v G (t := nw) (i := 265) (by omega) (by decide)
  have v6 := ix_v G (t := nw) (i := 266) (by omega) (by decide)
  rw [show nI 264 = (264 : Int32) from rfl] at c4 v4
  rw [show nI 265 = (265 : Int32) from rfl] at c5 v5
  rw [show nI 266 = (266 : Int32) from rfl] at c6 v6
  have s4 := h21 264 (by decide)
  have s5 := h21 265 (by decide)
  have s6 := h21 266 (by decide)
  have g4 := hs 264 (by decide)
  have g5 := hs 265 (by decide)
  have g6 := hs 266 (by decide)
  have t0 : ∀ a b : Nat, ((((1 : Int32) + nI a) + nI b) + nI (if k = 8 then 1 else 0)) + nI (if k = 9 then 1 else 0) = nI (1 + a + b + (if k = 8 then 1 else 0) + (if k = 9 then 1 else 0)) := fun a b => by
    rw [show (1 : Int32) = nI 1 from rfl, nI_add, nI_add, nI_add, nI_add]
  rcases xWr_in w x k with hw | ⟨j, hj, hw⟩
  · have z : G 16 14 < 0 := by rw [h14, hw]; decide
    refine ⟨?_, ?_⟩
    · unfold ok_Mo_costOf
      rw [h11]
      exact ⟨fun _ => ⟨v4, fun _ => ⟨v5, v6, trivial⟩, fun _ => ⟨v5, v6, trivial⟩⟩, fun q => absurd z q⟩
    · unfold f_Mo_costOf xC
      rw [if_pos z, h11, c4, c5, c6, s4, s5, s6, g4, g5, g6, d265, d266, if_neg (show ¬ (¬ xWr k w x = -1 ∧ ¬ xN k w I x (xWr k w x).toNatClampNeg = x (xWr k w x).toNatClampNeg) from fun q => q.1 hw)]
      split
      · exact t0 0 0
      · exact t0 0 1
  · have z : ¬ G 16 14 < 0 := by rw [h14, hw]; exact nI_pos (by omega)
    have cw := ix_c G (t := nw) (i := j) (by omega) (by omega)
    have vw := ix_v G (t := nw) (i := j) (by omega) (by omega)
    have sw := h21 j (by omega)
    have gw := hs j (by omega)
    have n1 : ¬ xWr k w x = -1 := by rw [hw]; exact nI_nm1 (by omega)
    refine ⟨?_, ?_⟩
    · unfold ok_Mo_costOf
      rw [h11, h14, hw]
      exact ⟨fun q => absurd q (nI_pos (by omega)), fun _ => ⟨vp_in_nI (by omega) (by decide), vw, fun _ => ⟨v4, fun _ => ⟨v5, v6, trivial⟩, fun _ => ⟨v5, v6, trivial⟩⟩, fun _ => ⟨v4, fun _ => ⟨v5, v6, trivial⟩, fun _ => ⟨v5, v6, trivial⟩⟩⟩⟩
    · unfold f_Mo_costOf xC
      rw [if_neg z, h11, h14, hw, cw, c4, c5, c6, s4, s5, s6, g4, g5, g6, d265, d266, nI_clamp (by omega), sw, gw]
      rcases Classical.em (xN k w I x j = x j) with q | q
      · rw [if_pos q, if_neg (show ¬ (¬ nI j = -1 ∧ ¬ xN k w I x j = x j) from fun z => z.2 q)]
        split
        · exact t0 0 0
        · exact t0 0 1
      · rw [if_neg q, if_pos (show ¬ nI j = -1 ∧ ¬ xN k w I x j = x j from ⟨nI_nm1 (by omega), q⟩)]
        split
        · exact t0 1 0
        · exact t0 1 1
