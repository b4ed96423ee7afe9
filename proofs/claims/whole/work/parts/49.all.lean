/-! The law's loop: every call agrees. -/
theorem Rl_mono {T T' : Nat} {G : gT} (h : Rl T G) (hT : T ≤ T') : Rl T' G := by
  obtain ⟨P, I, gv, rm, d, h, a, b, c, m⟩ := h
  exact ⟨P, I, gv, rm, d, h, a, Nat.le_trans b hT, c, m⟩
theorem kx1_0 {c : Nat} (h : kx1 c = 0) : c = 0 := by
  unfold kx1 at h
  split at h
  · assumption
  · exact absurd h (by decide)
theorem kx2_0 {c : Nat} (h : kx2 c = 0) : c = 0 := by
  unfold kx2 at h
  split at h
  · assumption
  · split at h
    · exact absurd h (by decide)
    · exact absurd h (by decide)
theorem lg_self (x : Int64) : lg_cmp x x = 0 := by
  unfold lg_cmp
  rw [if_neg (Int64.lt_irrefl), if_pos rfl]
theorem lg_ok (c : Nat) (v m : Int32) (O : Int64) (hc : c = 0) (h : c = 0 → v = m) : lg_cmp (if c = 0 then v.toInt64 else O) m.toInt64 = 0 := by
  rw [if_pos hc, h hc]; exact lg_self _
set_option maxHeartbeats 4000000 in
set_option maxRecDepth 100000 in
theorem law_all (N : Nat) (hNN : 2001 ≤ N) (xs : Nat → Int32) (L : Nat) (hL : L ≤ 2050) : ∀ (n j : Nat) (G : gT) (O : Int64), j ≤ 512 → 513 ≤ j + n → Rl (2000 * j) G → ok_law N xs L n G O (nI (2 + 4 * j)) := by
  intro n
  induction n with
  | zero => intro j G O h1 h2; omega
  | succ n ih =>
    intro j G O hj hn hR
    by_cases hs : (Int32.ofNat L) - (4 : Int32) < nI (2 + 4 * j)
    · exact ⟨fun _ => trivial, fun q => absurd hs q⟩
    · have hlt : 2 + 4 * j + 4 ≤ L := by
        rw [Int32.lt_iff_toInt_lt, nI_toInt (by omega)] at hs
        have e : (Int32.ofNat L - (4 : Int32)).toInt = (L : Int) - 4 := by
          rw [Int32.toInt_sub, show (Int32.ofNat L).toInt = (L : Int) from nI_toInt (n := L) (by omega), show (4 : Int32).toInt = 4 from by decide]
          exact Int.bmod_eq_of_le (by omega) (by omega)
        rw [e] at hs
        omega
      have v0 : vp_in (nI (2 + 4 * j)) L := vp_in_nI (by omega) (by omega)
      have v1 : vp_in (nI (2 + 4 * j) + (1 : Int32)) L := by rw [nI_1]; exact vp_in_nI (by omega) (by omega)
      have v2 : vp_in (nI (2 + 4 * j) + (2 : Int32)) L := by rw [show nI (2 + 4 * j) + (2 : Int32) = nI (2 + 4 * j + 2) from nI_add _ 2]; exact vp_in_nI (by omega) (by omega)
      have v3 : vp_in (nI (2 + 4 * j) + (3 : Int32)) L := by rw [show nI (2 + 4 * j) + (3 : Int32) = nI (2 + 4 * j + 3) from nI_add _ 3]; exact vp_in_nI (by omega) (by omega)
      have go : ∀ G' O', Rl (2000 * j + 2000) G' → ok_law N xs L n G' O' (nI (2 + 4 * j) + 4) := fun G' O' h => by
        have := ih (j + 1) G' O' (by omega) (by omega) (by rw [show 2000 * (j + 1) = 2000 * j + 2000 by omega]; exact h)
        rw [show nI (2 + 4 * j) + (4 : Int32) = nI (2 + 4 * (j + 1)) from (nI_add _ 4).trans (congrArg nI (by omega))]
        exact this
      have hT : 2000 * j + 2000 < 2 ^ 29 := by omega
      have hT' : 2000 * j < 2 ^ 29 := by omega
      generalize nI (2 + 4 * j) = x4 at v0 v1 v2 v3 go hs
      refine ⟨fun q => absurd q hs, fun _ => ⟨v0, ?_⟩⟩
      refine ⟨fun _ => ?_, fun _ => ?_⟩
      · have o := op_program (2000 * j) G (xs (x4 + (1 : Int32)).toNatClampNeg) (xs (x4 + (2 : Int32)).toNatClampNeg) hR
        exact ⟨v1, v2, o.1, v1, v2, o.2.1, fun _ => ⟨fun kz => ⟨fun _ => go _ _ (Rl_mono o.2.2.2.2 (by omega)), fun nz => nz (lg_ok _ _ _ _ (kx1_0 kz) o.2.2.2.1)⟩, fun _ => go _ _ (Rl_mono o.2.2.2.2 (by omega))⟩, fun nt => nt o.2.2.1⟩
      refine ⟨fun _ => ?_, fun _ => ?_⟩
      · have o := op_input (2000 * j) G (xs (x4 + (1 : Int32)).toNatClampNeg) hR
        exact ⟨v1, o.1, v1, o.2.1, fun _ => ⟨fun kz => ⟨fun _ => go _ _ (Rl_mono o.2.2.2.2 (by omega)), fun nz => nz (lg_ok _ _ _ _ (kx1_0 kz) o.2.2.2.1)⟩, fun _ => go _ _ (Rl_mono o.2.2.2.2 (by omega))⟩, fun nt => nt o.2.2.1⟩
      refine ⟨fun _ => ?_, fun _ => ?_⟩
      · have o := op_poke (2000 * j) G (xs (x4 + (1 : Int32)).toNatClampNeg) (xs (x4 + (2 : Int32)).toNatClampNeg) hR
        exact ⟨v1, v2, o.1, v1, v2, o.2.1, fun _ => ⟨fun kz => ⟨fun _ => go _ _ (Rl_mono o.2.2.2.2 (by omega)), fun nz => nz (lg_ok _ _ _ _ (kx1_0 kz) o.2.2.2.1)⟩, fun _ => go _ _ (Rl_mono o.2.2.2.2 (by omega))⟩, fun nt => nt o.2.2.1⟩
      refine ⟨fun _ => ?_, fun _ => ?_⟩
      · have o := op_step N hNN (2000 * j) hT G (xs (x4 + (1 : Int32)).toNatClampNeg) hR
        exact ⟨v1, o.1, v1, o.2.1, fun _ => ⟨fun kz => ⟨fun _ => go _ _ o.2.2.2.2, fun nz => nz (lg_ok _ _ _ _ (kx1_0 kz) o.2.2.2.1)⟩, fun _ => go _ _ o.2.2.2.2⟩, fun nt => nt o.2.2.1⟩
      refine ⟨fun _ => ?_, fun _ => ?_⟩
      · have o := op_back N hNN (2000 * j) hT' G (xs (x4 + (1 : Int32)).toNatClampNeg) hR
        exact ⟨v1, o.1, v1, o.2.1, fun _ => ⟨fun kz => ⟨fun _ => go _ _ (Rl_mono o.2.2.2.2 (by omega)), fun nz => nz (lg_ok _ _ _ _ (kx1_0 kz) o.2.2.2.1)⟩, fun _ => go _ _ (Rl_mono o.2.2.2.2 (by omega))⟩, fun nt => nt o.2.2.1⟩
      refine ⟨fun _ => ?_, fun _ => ?_⟩
      · have o := op_look N hNN (2000 * j) hT' G (xs (x4 + (1 : Int32)).toNatClampNeg) (xs (x4 + (2 : Int32)).toNatClampNeg) hR
        exact ⟨v1, v2, o.1, v1, v2, o.2.1, fun _ => ⟨fun kz => ⟨fun _ => go _ _ (Rl_mono o.2.2.2.2 (by omega)), fun nz => nz (lg_ok _ _ _ _ (kx2_0 kz) o.2.2.2.1)⟩, fun _ => go _ _ (Rl_mono o.2.2.2.2 (by omega))⟩, fun nt => nt o.2.2.1⟩
      refine ⟨fun _ => ?_, fun _ => ?_⟩
      · have o := op_wrote N hNN (2000 * j) hT' G (xs (x4 + (1 : Int32)).toNatClampNeg) hR
        exact ⟨v1, o.1, v1, o.2.1, fun _ => ⟨fun kz => ⟨fun _ => go _ _ (Rl_mono o.2.2.2.2 (by omega)), fun nz => nz (lg_ok _ _ _ _ (kx1_0 kz) o.2.2.2.1)⟩, fun _ => go _ _ (Rl_mono o.2.2.2.2 (by omega))⟩, fun nt => nt o.2.2.1⟩
      refine ⟨fun _ => ?_, fun _ => ?_⟩
      · have o := op_when N hNN (2000 * j) hT' G (xs (x4 + (1 : Int32)).toNatClampNeg) (xs (x4 + (2 : Int32)).toNatClampNeg) (xs (x4 + (3 : Int32)).toNatClampNeg) hR
        exact ⟨v1, v2, v3, o.1, v1, v2, v3, o.2.1, fun _ => ⟨fun kz => ⟨fun _ => go _ _ (Rl_mono o.2.2.2.2 (by omega)), fun nz => nz (lg_ok _ _ _ _ (kx2_0 kz) o.2.2.2.1)⟩, fun _ => go _ _ (Rl_mono o.2.2.2.2 (by omega))⟩, fun nt => nt o.2.2.1⟩
      refine ⟨fun _ => ?_, fun _ => ?_⟩
      · have o := op_replay N hNN (2000 * j) hT' G hR
        exact ⟨o.1, o.2.1, fun _ => go _ _ (Rl_mono o.2.2.2 (by omega)), fun nt => nt o.2.2.1⟩
      refine ⟨fun _ => ?_, fun _ => ?_⟩
      · have o := op_cost (2000 * j) hT' G (xs (x4 + (1 : Int32)).toNatClampNeg) hR
        exact ⟨v1, o.1, v1, o.2.1, fun _ => ⟨fun kz => ⟨fun _ => go _ _ (Rl_mono o.2.2.2.2 (by omega)), fun nz => nz (lg_ok _ _ _ _ (kx1_0 kz) o.2.2.2.1)⟩, fun _ => go _ _ (Rl_mono o.2.2.2.2 (by omega))⟩, fun nt => nt o.2.2.1⟩
      refine ⟨fun _ => ?_, fun _ => ?_⟩
      · have o := op_count N hNN (2000 * j) hT' G (xs (x4 + (1 : Int32)).toNatClampNeg) hR
        exact ⟨v1, o.1, v1, o.2.1, fun _ => go _ _ (Rl_mono o.2.2.2 (by omega)), fun nt => nt o.2.2.1⟩
      exact go _ _ (Rl_mono hR (by omega))
theorem start_rel (p1 p2 : Int32) : Rl 0 (G00 p1 p2) := by
  have e1 := fm_eq (fun _ _ => 0) p1 1021 (by decide) (by decide)
  have e2 := fm_eq (fun _ _ => 0) p2 64 (by decide) (by decide)
  have e3 := mo_eq (fun _ _ => 0) p1 1021 (by decide) (by decide)
  have e4 := and63_eq p2
  have b1 := Int.emod_lt_of_pos p1.toInt (show (0 : Int) < 1021 by decide)
  have b2 := Int.emod_lt_of_pos p2.toInt (show (0 : Int) < 64 by decide)
  have b3 := Int.emod_nonneg p1.toInt (show (1021 : Int) ≠ 0 by decide)
  have b4 := Int.emod_nonneg p2.toInt (show (64 : Int) ≠ 0 by decide)
  have f1 : (4 : Int32) + f_Mt_floorMod (fun _ _ => 0) p1 1021 = nI (4 + (p1.toInt % 1021).toNat) := by
    rw [← nI_add]; exact congrArg (fun z => (4 : Int32) + z) e1
  have f2 : (1 : Int32) + f_Mt_floorMod (fun _ _ => 0) p2 64 = nI (1 + (p2.toInt % 64).toNat) := by
    rw [← nI_add]; exact congrArg (fun z => (1 : Int32) + z) e2
  have f3 : (4 : Int32) + f_Mo_modulo (fun _ _ => 0) p1 1021 = nI (4 + (p1.toInt % 1021).toNat) := by
    rw [← nI_add]; exact congrArg (fun z => (4 : Int32) + z) e3
  have f4 : (1 : Int32) + (p2 &&& 63) = nI (1 + (p2.toInt % 64).toNat) := by
    rw [← nI_add]; exact congrArg (fun z => (1 : Int32) + z) e4
  have z0 : (0 : Int32) = nI 0 := rfl
  refine ⟨fun _ => 0, fun _ => 0, 0, 4 + (p1.toInt % 1021).toNat, 1 + (p2.toInt % 64).toNat, (0, 0, 0, fun _ _ => 0, fun _ => 0, fun _ => 0), ?_, Nat.le_refl _, ?_, ?_⟩
  · refine ⟨Nat.le_refl _, by omega, by omega, by omega, by omega, by omega, Nat.zero_le _, fun t a b => by omega, fun t a b => ⟨⟨0, by decide, rfl⟩, ⟨0, by decide, rfl⟩⟩, Or.inl rfl⟩
  · refine ⟨fun j hj => ?_, fun j hj => ?_, ?_, ?_, ?_, ?_, ?_, ?_, ?_, ?_, fun t a b => by omega⟩
    · simp [G00, G0c, g_up]
    · simp [G00, G0c, g_up]
    · simp [G00, G0c, g_up, z0]
    · rw [← f2]; simp [G00, G0c, g_up]
    · rw [← f1]; simp [G00, G0c, g_up]
    · simp [G00, G0c, g_up, z0]
    · simp [G00, G0c, g_up, z0]
    · simp [G00, G0c, g_up, z0, sumc]
    · simp [G00, G0c, g_up]
    · exact i_cases (fun i hi => by simp [stC, hi, G00, G0c, g_up]) (by simp [stC, G00, G0c, g_up]) (by simp [stC, G00, G0c, g_up]) (by simp [stC, G00, G0c, g_up]) (by simp [stC, G00, G0c, g_up]) (by simp [stC, G00, G0c, g_up])
  · refine ⟨fun j hj => ?_, fun j hj => ?_, ?_, ?_, ?_, ?_, ?_, ?_, ?_, fun t a b => by omega⟩
    · simp [G00, G0m, g_up]
    · simp [G00, G0m, g_up]
    · simp [G00, G0m, g_up, z0]
    · rw [← f4]; simp [G00, G0m, g_up]
    · rw [← f3]; simp [G00, G0m, g_up]
    · simp [G00, G0m, g_up, z0]
    · simp [G00, G0m, g_up, z0]
    · simp [G00, G0m, g_up]
    · intro i hi
      simp [G00, G0m, g_up]
theorem pure_all (xs : Nat → Int32) (L : Nat) (hL : L ≤ 2050) : ok_law 3000 xs L 520 (G00 (if 0 < L then xs 0 else 0) (if 1 < L then xs 1 else 0)) 0 2 :=
  law_all 3000 (by decide) xs L hL 520 0 _ 0 (by decide) (by decide) (start_rel _ _)
