/-! Undoing rows, forgetting them; the call back. -/
def HF (st : Nat → Nat → Int32) (co : Nat → Nat) (wr : Nat → Int32) (od nw : Nat) : Prop := ∀ t, od ≤ t → t < nw → st t 268 = 0 ∧ 1 ≤ co t ∧ (wr t = -1 ∨ ∃ j, j < 264 ∧ wr t = nI j) ∧ ∀ i, i < 264 → ¬ wr t = nI i → st (t + 1) i = st t i
theorem Rws_fr {st : Nat → Nat → Int32} {co : Nat → Nat} {wr : Nat → Int32} {od nw : Nat} {G G' : gT} (h : Rws st co wr od nw G) (e : ∀ a, 8 ≤ a → a ≤ 15 → G' a = G a) : Rws st co wr od nw G' := fun t a b => by
  rw [e 8 (by decide) (by decide), e 9 (by decide) (by decide), e 10 (by decide) (by decide), e 11 (by decide) (by decide), e 12 (by decide) (by decide), e 13 (by decide) (by decide), e 14 (by decide) (by decide), e 15 (by decide) (by decide)]
  exact h t a b
theorem sumc_mono (co : Nat → Nat) (a m n : Nat) (h : m ≤ n) : sumc co a m ≤ sumc co a n := by
  induction n with
  | zero => have : m = 0 := by omega
            subst this; exact Nat.le_refl _
  | succ n ih =>
    rcases Nat.lt_or_ge m (n + 1) with q | q
    · have := ih (by omega)
      show _ ≤ sumc co a n + co (a + n)
      omega
    · have : m = n + 1 := by omega
      subst this; exact Nat.le_refl _

theorem undo_3 (st : Nat → Nat → Int32) (co : Nat → Nat) (wr : Nat → Int32) (od nw t : Nat) (G : gT) (hR : Rws st co wr od nw G) (hF : HF st co wr od nw) (h1 : od ≤ t) (h2 : t < nw) (hs : ∀ i, i < 264 → G 4 i = st (t + 1) i) :
    ok_Ro_undo_3 G (nI (t % 1024)) ∧ (∀ i, i < 269 → stC 3 4 (f_Ro_undo_3 G (nI (t % 1024))) i = st t i) ∧ ∀ a, ¬ a = 3 → ¬ a = 4 → f_Ro_undo_3 G (nI (t % 1024)) a = G a := by
  obtain ⟨r8, r9, r10, r12, r13, r14, r15⟩ := hR t h1 h2
  obtain ⟨f1, f2, f3, f4⟩ := hF t h1 h2
  have hm := Nat.mod_lt t (show 0 < 1024 by decide)
  have v := vp_in_nI hm (by decide : 1024 < 2 ^ 31)
  have c := nI_clamp (show t % 1024 < 2 ^ 31 by omega)
  unfold ok_Ro_undo_3 f_Ro_undo_3
  rw [c]
  rcases f3 with f3 | ⟨j, hj, f3⟩
  · have q : G 9 (t % 1024) = -1 := r9.trans f3
    rw [if_pos q]
    refine ⟨⟨v, fun _ => ⟨v, v, v, v, trivial⟩, fun z => absurd q z⟩, i_cases ?_ ?_ ?_ ?_ ?_ ?_, fun a x y => by funext b; simp [g_up, x]⟩
    · intro i hi
      have e := f4 i hi (by rw [f3]; exact fun z => nI_nm1 (by omega) z.symm)
      simp [stC, hi, g_up, hs i hi, e]
    · simp [stC, g_up, r12]
    · simp [stC, g_up, r13]
    · simp [stC, g_up, r14]
    · simp [stC, g_up, r15]
    · simp [stC, g_up, f1]
  · have n1 : ¬ wr t = -1 := by rw [f3]; exact nI_nm1 (by omega)
    have q : ¬ G 9 (t % 1024) = -1 := by rw [r9]; exact n1
    have cj : (nI j).toNatClampNeg = j := nI_clamp (by omega)
    have r10' := (r10 n1).1
    rw [f3, cj] at r10'
    rw [if_neg q, r9, f3, cj]
    refine ⟨⟨v, fun z => absurd z (nI_nm1 (by omega)), fun _ => ⟨v, v, vp_in_nI hj (by decide), v, v, v, v, trivial⟩⟩, i_cases ?_ ?_ ?_ ?_ ?_ ?_, fun a x y => by funext b; simp [g_up, x, y]⟩
    · intro i hi
      by_cases z : i = j
      · simp [stC, hi, g_up, z, hj, r10']
      · have e := f4 i hi (by rw [f3]; intro w; exact z ((nI_eq (by omega) (by omega)).mp w).symm)
        simp [stC, hi, g_up, z, hs i hi, e]
    · simp [stC, g_up, r12]
    · simp [stC, g_up, r13]
    · simp [stC, g_up, r14]
    · simp [stC, g_up, r15]
    · simp [stC, g_up, f1]
theorem undo_loop_3 (st : Nat → Nat → Int32) (co : Nat → Nat) (wr : Nat → Int32) (od nw tm : Nat) (hF : HF st co wr od nw) (ho : od ≤ tm) (hnw : nw < 2 ^ 29) : ∀ (n j : Nat) (G : gT), j < n → tm + j ≤ nw → Rws st co wr od nw G → (∀ i, i < 269 → stC 3 4 G i = st (tm + j) i) →
    ok_Ro_undoDownTo_3_L5 n G (nI tm) (nI (tm + j)) ∧ (∀ i, i < 269 → stC 3 4 (f_Ro_undoDownTo_3_L5 n G (nI tm) (nI (tm + j))) i = st tm i) ∧ ∀ a, ¬ a = 3 → ¬ a = 4 → f_Ro_undoDownTo_3_L5 n G (nI tm) (nI (tm + j)) a = G a := by
  intro n
  induction n with
  | zero => intro j G h; omega
  | succ n ih =>
    intro j G hj ht hR hs
    cases j with
    | zero =>
      have c1 : nI (tm + 0) ≤ nI tm := nI_le (by omega) (by omega)
      have e : f_Ro_undoDownTo_3_L5 (n + 1) G (nI tm) (nI (tm + 0)) = G := by rw [f_Ro_undoDownTo_3_L5, if_pos c1]
      rw [e]
      exact ⟨⟨fun _ => trivial, fun q => absurd c1 q⟩, hs, fun _ _ _ => rfl⟩
    | succ j =>
      have c1 : ¬ nI (tm + (j + 1)) ≤ nI tm := nI_ge (by omega) (by omega)
      have s1 : f_Ro_slot G (nI (tm + (j + 1)) - 1) = nI ((tm + j) % 1024) := by rw [← Nat.add_assoc, nI_s1, sl_ro]
      have s2 : nI (tm + (j + 1)) + (-1) = nI (tm + j) := by rw [← Nat.add_assoc, nI_m1]
      obtain ⟨o1, o2, o3⟩ := undo_3 st co wr od nw (tm + j) G hR hF (by omega) (by omega) (fun i hi => by
        have := hs i (by omega)
        unfold stC at this; rw [if_pos hi] at this; exact this)
      obtain ⟨i1, i2, i3⟩ := ih j (f_Ro_undo_3 G (nI ((tm + j) % 1024))) (by omega) (by omega) (Rws_fr hR (fun a x y => o3 a (by omega) (by omega))) o2
      have e : f_Ro_undoDownTo_3_L5 (n + 1) G (nI tm) (nI (tm + (j + 1))) = f_Ro_undoDownTo_3_L5 n (f_Ro_undo_3 G (nI ((tm + j) % 1024))) (nI tm) (nI (tm + j)) := by
        rw [f_Ro_undoDownTo_3_L5, if_neg c1, s1, s2]
      rw [e]
      refine ⟨⟨fun z => absurd z c1, fun _ => ?_⟩, i2, fun a x y => (i3 a x y).trans (o3 a x y)⟩
      rw [s1, s2]
      exact ⟨o1, i1⟩

theorem undo_5 (st : Nat → Nat → Int32) (co : Nat → Nat) (wr : Nat → Int32) (od nw t : Nat) (G : gT) (hR : Rws st co wr od nw G) (hF : HF st co wr od nw) (h1 : od ≤ t) (h2 : t < nw) (hs : ∀ i, i < 264 → G 6 i = st (t + 1) i) :
    ok_Ro_undo_5 G (nI (t % 1024)) ∧ (∀ i, i < 269 → stC 5 6 (f_Ro_undo_5 G (nI (t % 1024))) i = st t i) ∧ ∀ a, ¬ a = 5 → ¬ a = 6 → f_Ro_undo_5 G (nI (t % 1024)) a = G a := by
  obtain ⟨r8, r9, r10, r12, r13, r14, r15⟩ := hR t h1 h2
  obtain ⟨f1, f2, f3, f4⟩ := hF t h1 h2
  have hm := Nat.mod_lt t (show 0 < 1024 by decide)
  have v := vp_in_nI hm (by decide : 1024 < 2 ^ 31)
  have c := nI_clamp (show t % 1024 < 2 ^ 31 by omega)
  unfold ok_Ro_undo_5 f_Ro_undo_5
  rw [c]
  rcases f3 with f3 | ⟨j, hj, f3⟩
  · have q : G 9 (t % 1024) = -1 := r9.trans f3
    rw [if_pos q]
    refine ⟨⟨v, fun _ => ⟨v, v, v, v, trivial⟩, fun z => absurd q z⟩, i_cases ?_ ?_ ?_ ?_ ?_ ?_, fun a x y => by funext b; simp [g_up, x]⟩
    · intro i hi
      have e := f4 i hi (by rw [f3]; exact fun z => nI_nm1 (by omega) z.symm)
      simp [stC, hi, g_up, hs i hi, e]
    · simp [stC, g_up, r12]
    · simp [stC, g_up, r13]
    · simp [stC, g_up, r14]
    · simp [stC, g_up, r15]
    · simp [stC, g_up, f1]
  · have n1 : ¬ wr t = -1 := by rw [f3]; exact nI_nm1 (by omega)
    have q : ¬ G 9 (t % 1024) = -1 := by rw [r9]; exact n1
    have cj : (nI j).toNatClampNeg = j := nI_clamp (by omega)
    have r10' := (r10 n1).1
    rw [f3, cj] at r10'
    rw [if_neg q, r9, f3, cj]
    refine ⟨⟨v, fun z => absurd z (nI_nm1 (by omega)), fun _ => ⟨v, v, vp_in_nI hj (by decide), v, v, v, v, trivial⟩⟩, i_cases ?_ ?_ ?_ ?_ ?_ ?_, fun a x y => by funext b; simp [g_up, x, y]⟩
    · intro i hi
      by_cases z : i = j
      · simp [stC, hi, g_up, z, hj, r10']
      · have e := f4 i hi (by rw [f3]; intro w; exact z ((nI_eq (by omega) (by omega)).mp w).symm)
        simp [stC, hi, g_up, z, hs i hi, e]
    · simp [stC, g_up, r12]
    · simp [stC, g_up, r13]
    · simp [stC, g_up, r14]
    · simp [stC, g_up, r15]
    · simp [stC, g_up, f1]
theorem undo_loop_5 (st : Nat → Nat → Int32) (co : Nat → Nat) (wr : Nat → Int32) (od nw tm : Nat) (hF : HF st co wr od nw) (ho : od ≤ tm) (hnw : nw < 2 ^ 29) : ∀ (n j : Nat) (G : gT), j < n → tm + j ≤ nw → Rws st co wr od nw G → (∀ i, i < 269 → stC 5 6 G i = st (tm + j) i) →
    ok_Ro_undoDownTo_5_L5 n G (nI tm) (nI (tm + j)) ∧ (∀ i, i < 269 → stC 5 6 (f_Ro_undoDownTo_5_L5 n G (nI tm) (nI (tm + j))) i = st tm i) ∧ ∀ a, ¬ a = 5 → ¬ a = 6 → f_Ro_undoDownTo_5_L5 n G (nI tm) (nI (tm + j)) a = G a := by
  intro n
  induction n with
  | zero => intro j G h; omega
  | succ n ih =>
    intro j G hj ht hR hs
    cases j with
    | zero =>
      have c1 : nI (tm + 0) ≤ nI tm := nI_le (by omega) (by omega)
      have e : f_Ro_undoDownTo_5_L5 (n + 1) G (nI tm) (nI (tm + 0)) = G := by rw [f_Ro_undoDownTo_5_L5, if_pos c1]
      rw [e]
      exact ⟨⟨fun _ => trivial, fun q => absurd c1 q⟩, hs, fun _ _ _ => rfl⟩
    | succ j =>
      have c1 : ¬ nI (tm + (j + 1)) ≤ nI tm := nI_ge (by omega) (by omega)
      have s1 : f_Ro_slot G (nI (tm + (j + 1)) - 1) = nI ((tm + j) % 1024) := by rw [← Nat.add_assoc, nI_s1, sl_ro]
      have s2 : nI (tm + (j + 1)) + (-1) = nI (tm + j) := by rw [← Nat.add_assoc, nI_m1]
      obtain ⟨o1, o2, o3⟩ := undo_5 st co wr od nw (tm + j) G hR hF (by omega) (by omega) (fun i hi => by
        have := hs i (by omega)
        unfold stC at this; rw [if_pos hi] at this; exact this)
      obtain ⟨i1, i2, i3⟩ := ih j (f_Ro_undo_5 G (nI ((tm + j) % 1024))) (by omega) (by omega) (Rws_fr hR (fun a x y => o3 a (by omega) (by omega))) o2
      have e : f_Ro_undoDownTo_5_L5 (n + 1) G (nI tm) (nI (tm + (j + 1))) = f_Ro_undoDownTo_5_L5 n (f_Ro_undo_5 G (nI ((tm + j) % 1024))) (nI tm) (nI (tm + j)) := by
        rw [f_Ro_undoDownTo_5_L5, if_neg c1, s1, s2]
      rw [e]
      refine ⟨⟨fun z => absurd z c1, fun _ => ?_⟩, i2, fun a x y => (i3 a x y).trans (o3 a x y)⟩
      rw [s1, s2]
      exact ⟨o1, i1⟩
