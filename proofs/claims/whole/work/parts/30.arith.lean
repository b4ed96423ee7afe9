/-! Numbers of 32 bits: slots, masks, kinds, rests (bt .. wb_of32 stand in the kit's BITS to paste) -/
def bt (x : Int32) (i : Nat) : Bool := x.toBitVec.getLsbD i
theorem b_ext {x y : Int32} (h : ∀ i, i < 32 → bt x i = bt y i) : x = y := Int32.toBitVec_inj.mp (BitVec.eq_of_getLsbD_eq (fun i hi => h i hi))
theorem b_or (x y : Int32) (i : Nat) : bt (x ||| y) i = (bt x i || bt y i) := by unfold bt; rw [Int32.toBitVec_or, BitVec.getLsbD_or]
theorem b_and (x y : Int32) (i : Nat) : bt (x &&& y) i = (bt x i && bt y i) := by unfold bt; rw [Int32.toBitVec_and, BitVec.getLsbD_and]
theorem b_xor (x y : Int32) (i : Nat) : bt (x ^^^ y) i = (bt x i ^^ bt y i) := by unfold bt; rw [Int32.toBitVec_xor, BitVec.getLsbD_xor]
theorem b_big {x : Int32} {i : Nat} (h : 32 ≤ i) : bt x i = false := BitVec.getLsbD_of_ge _ _ h
theorem b_255 (i : Nat) : bt 255 i = decide (i < 8) := by
  rcases Nat.lt_or_ge i 32 with h | h
  · exact (by decide +kernel : ∀ i, i < 32 → bt 255 i = decide (i < 8)) i h
  · rw [b_big h, decide_eq_false (by omega)]
theorem b_65535 (i : Nat) : bt 65535 i = decide (i < 16) := by
  rcases Nat.lt_or_ge i 32 with h | h
  · exact (by decide +kernel : ∀ i, i < 32 → bt 65535 i = decide (i < 16)) i h
  · rw [b_big h, decide_eq_false (by omega)]
theorem b_m1 : ∀ i, i < 32 → bt (-1) i = true := by decide +kernel
theorem b_0 (i : Nat) : bt 0 i = false := BitVec.getLsbD_zero
theorem s_l : ∀ n, n < 32 → ((nI n &&& 31).toBitVec.smod 32).toNat = n := by decide +kernel
theorem s_u : ∀ n, n < 32 → (((nI n).toUInt32 &&& Int32.toUInt32 31).toBitVec % 32).toNat = n := by decide +kernel
theorem b_shl (n : Nat) (hn : n < 32) (x : Int32) {i : Nat} (hi : i < 32) : bt (x <<< (nI n &&& 31)) i = (decide (n ≤ i) && bt x (i - n)) := by
  unfold bt
  rw [Int32.toBitVec_shiftLeft]
  show (x.toBitVec <<< ((nI n &&& 31).toBitVec.smod 32).toNat).getLsbD i = _
  rw [s_l n hn, BitVec.getLsbD_shiftLeft]
  rcases Nat.lt_or_ge i n with h | h
  · simp [h, Nat.not_le.mpr h]
  · simp [hi, h, Nat.not_lt.mpr h]
theorem b_ushr (n : Nat) (hn : n < 32) (x : Int32) (i : Nat) : bt ((x.toUInt32 >>> ((nI n).toUInt32 &&& Int32.toUInt32 31)).toInt32) i = bt x (n + i) := by
  show (x.toUInt32 >>> ((nI n).toUInt32 &&& Int32.toUInt32 31)).toBitVec.getLsbD i = x.toUInt32.toBitVec.getLsbD (n + i)
  rw [UInt32.toBitVec_shiftRight]
  show (x.toUInt32.toBitVec >>> (((nI n).toUInt32 &&& Int32.toUInt32 31).toBitVec % 32).toNat).getLsbD i = _
  rw [s_u n hn, BitVec.getLsbD_ushiftRight]
theorem b_sshr (n : Nat) (hn : n < 32) (x : Int32) {i : Nat} (hi : i < 32) : bt (x >>> (nI n &&& 31)) i = if n + i < 32 then bt x (n + i) else bt x 31 := by
  unfold bt
  rw [Int32.toBitVec_shiftRight]
  show (x.toBitVec.sshiftRight ((nI n &&& 31).toBitVec.smod 32).toNat).getLsbD i = _
  rw [s_l n hn, BitVec.getLsbD_sshiftRight, BitVec.msb_eq_getLsbD_last]
  simp [hi]
theorem nx_and (a b : Nat) : nI a &&& nI b = nI (a &&& b) := by
  apply Int32.toBitVec_inj.1
  show BitVec.ofNat 32 a &&& BitVec.ofNat 32 b = BitVec.ofNat 32 (a &&& b)
  apply BitVec.eq_of_getLsbD_eq
  intro i hi
  simp [hi]
theorem wb_of32 (x : Int32) : ∃ n, n < 2 ^ 32 ∧ x = nI n := ⟨x.toBitVec.toNat, x.toBitVec.isLt, Int32.toBitVec_inj.mp (by show _ = BitVec.ofNat 32 _; simp)⟩
theorem nI_mul (a b : Nat) : nI a * nI b = nI (a * b) := (Int32.ofNat_mul a b).symm
theorem nI_sub {a b : Nat} (h : b ≤ a) : nI a - nI b = nI (a - b) := by
  have e : nI a = nI (a - b) + nI b := by rw [nI_add, Nat.sub_add_cancel h]
  rw [e, Int32.add_sub_cancel]
theorem nI_m1 (t : Nat) : nI (t + 1) + (-1) = nI t := by
  rw [← nI_1, ← Int32.sub_eq_add_neg, Int32.add_sub_cancel]
theorem nI_s1 (t : Nat) : nI (t + 1) - 1 = nI t := nI_pred t
theorem and_mask (n k : Nat) (v : Int32) (hv : v = nI (2 ^ k - 1)) : nI n &&& v = nI (n % 2 ^ k) := by
  rw [hv, nx_and, Nat.and_two_pow_sub_one_eq_mod]
theorem mask_in (v : Int32) (k : Nat) (m : Int32) (hm : m = nI (2 ^ k - 1)) : ∃ j, j < 2 ^ k ∧ v &&& m = nI j := by
  obtain ⟨n, -, rfl⟩ := wb_of32 v
  exact ⟨n % 2 ^ k, Nat.mod_lt _ (Nat.two_pow_pos k), and_mask n k m hm⟩
theorem m63_in (v : Int32) : ∃ j, j < 64 ∧ v &&& 63 = nI j := mask_in v 6 63 rfl
theorem m255_in (v : Int32) : ∃ j, j < 256 ∧ v &&& 255 = nI j := mask_in v 8 255 rfl
theorem m7_in (v : Int32) : ∃ j, j < 8 ∧ v &&& 7 = nI j := mask_in v 3 7 rfl
theorem sl_ro (G : gT) (t : Nat) : f_Ro_slot G (nI t) = nI (t % 1024) := and_mask t 10 1023 rfl
theorem sl_mo (G : gT) {t : Nat} (h : t < 2 ^ 31) : f_Mo_slot G (nI t) = nI (t % 1025) := by
  show nI t - nI t / nI 1025 * nI 1025 = _
  rw [pk_div h (by decide) (by decide), nI_mul, nI_sub (Nat.div_mul_le_self t 1025)]
  congr 1
  have := Nat.div_add_mod t 1025
  omega
theorem kind_in (w : Int32) : ∃ k, k < 16 ∧ g_ush w 28 = nI k := by
  have h : g_ush w 28 = g_ush w 28 &&& 15 := by
    apply b_ext; intro i hi
    rw [b_and]
    have e := b_ushr 28 (by decide) w i
    have e : bt (g_ush w 28) i = bt w (28 + i) := e
    rw [e]
    rcases Nat.lt_or_ge i 4 with h | h
    · rw [(by decide +kernel : ∀ i, i < 4 → bt 15 i = true) i h, Bool.and_true]
    · rw [b_big (by omega), Bool.false_and]
  obtain ⟨j, hj, e⟩ := mask_in (g_ush w 28) 4 15 rfl
  exact ⟨j, hj, h.trans e⟩
theorem reg_eq (n : Nat) (hn : n ≤ 24) (w : Int32) : (w >>> (nI n &&& 31)) &&& 7 = (w.toUInt32 >>> ((nI n).toUInt32 &&& Int32.toUInt32 31)).toInt32 &&& 7 := by
  apply b_ext; intro i hi
  rw [b_and, b_and, b_ushr n (by omega), b_sshr n (by omega) w hi]
  rcases Nat.lt_or_ge i 3 with h | h
  · rw [if_pos (by omega)]
  · rw [(by decide +kernel : ∀ i, i < 32 → 3 ≤ i → bt 7 i = false) i hi h, Bool.and_false, Bool.and_false]
theorem reg24 (w : Int32) : (w >>> ((24 : Int32) &&& 31)) &&& 7 = (g_ush w 24) &&& 7 := reg_eq 24 (by decide) w
theorem reg20 (w : Int32) : (w >>> ((20 : Int32) &&& 31)) &&& 7 = (g_ush w 20) &&& 7 := reg_eq 20 (by decide) w
theorem reg16 (w : Int32) : (w >>> ((16 : Int32) &&& 31)) &&& 7 = (g_ush w 16) &&& 7 := reg_eq 16 (by decide) w
theorem low16 (w : Int32) : (w <<< ((16 : Int32) &&& 31)) >>> ((16 : Int32) &&& 31) = w.toInt16.toInt32 := by
  apply b_ext; intro i hi
  have e1 : bt ((w <<< ((16 : Int32) &&& 31)) >>> ((16 : Int32) &&& 31)) i = _ := b_sshr 16 (by decide) _ hi
  have e2 : bt w.toInt16.toInt32 i = if i < 16 then bt w i else bt w 15 := by
    show ((w.toBitVec.signExtend 16).signExtend 32).getLsbD i = _
    rw [BitVec.getLsbD_signExtend]
    rcases Nat.lt_or_ge i 16 with h | h
    · simp only [hi, h, decide_true, if_true, Bool.true_and]
      rw [BitVec.getLsbD_signExtend]
      simp [h, hi, bt]
    · simp only [hi, Nat.not_lt.mpr h, decide_true, if_false, Bool.true_and]
      rw [BitVec.msb_eq_getLsbD_last, BitVec.getLsbD_signExtend]
      simp [bt]
  rw [e1, e2]
  rcases Nat.lt_or_ge i 16 with h | h
  · rw [if_pos (by omega), if_pos h]
    have e3 := b_shl 16 (by decide) w (i := 16 + i) (by omega)
    rw [show (16 : Int32) = nI 16 from rfl, e3]
    simp
  · rw [if_neg (by omega), if_neg (by omega)]
    have e3 := b_shl 16 (by decide) w (i := 31) (by omega)
    rw [show (16 : Int32) = nI 16 from rfl, e3]
    simp
theorem md_toInt {x y : Int32} (hy : 0 < y.toInt) : (x - x / y * y).toInt = x.toInt.tmod y.toInt := by
  rw [Int32.toInt_sub, Int32.toInt_mul, Int32.toInt_div, Int.bmod_mul_bmod, Int.sub_bmod_bmod, Int.mul_comm, ← Int.tmod_def]
  have h1 := Int.tmod_lt_of_pos x.toInt hy
  have h2 := Int.lt_tmod_of_pos x.toInt hy
  have h3 := y.toInt_lt
  apply Int.bmod_eq_of_le <;> omega
theorem fm_eq (G : gT) (x : Int32) (m : Nat) (h0 : 0 < m) (hm : m < 65536) : f_Mt_floorMod G x (nI m) = nI (x.toInt % m).toNat := by
  have hmI : (nI m).toInt = (m : Int) := nI_toInt (by omega)
  have e := md_toInt (x := x) (y := nI m) (by omega)
  have hx1 := x.toInt_lt
  have hx2 := x.le_toInt
  have hr1 := Int.emod_nonneg x.toInt (show (m : Int) ≠ 0 by omega)
  have hr2 := Int.emod_lt_of_pos x.toInt (show (0 : Int) < m by omega)
  have hbit : ((0 : Int32) ≤ (x ^^^ nI m)) ↔ 0 ≤ x.toInt := by
    have key : ∀ z : Int32, (0 : Int32) ≤ z ↔ bt z 31 = false := by
      intro z
      rw [Int32.le_iff_toInt_le, Int32.toInt_zero]
      have : bt z 31 = z.toBitVec.msb := by unfold bt; rw [BitVec.msb_eq_getLsbD_last]
      rw [this]
      have h2 : z.toInt = z.toBitVec.toInt := rfl
      rw [h2, BitVec.toInt_eq_msb_cond]
      have := z.toBitVec.isLt
      cases hb : z.toBitVec.msb with
      | true => simp only [if_true]; constructor
                · intro h; omega
                · intro h; cases h
      | false => simp only [Bool.false_eq_true, if_false]; constructor
                 · intro _; trivial
                 · intro _; omega
    rw [key, b_xor, show bt (nI m) 31 = false from by
      have := (key (nI m)).mp (by rw [Int32.le_iff_toInt_le, hmI, Int32.toInt_zero]; omega)
      exact this, Bool.xor_false, ← key, Int32.le_iff_toInt_le, Int32.toInt_zero]
  unfold f_Mt_floorMod
  apply Int32.toInt_inj.mp
  rw [nI_toInt (by omega)]
  have hnat : ((x.toInt % m).toNat : Int) = x.toInt % m := Int.toNat_of_nonneg hr1
  rw [hnat]
  by_cases hc : 0 ≤ x.toInt
  · rw [if_pos (hbit.mpr hc), e, hmI, Int.tmod_eq_emod_of_nonneg hc]
  · rw [if_neg (fun h => hc (hbit.mp h))]
    have ht : (x.toInt.tmod m = 0 ∧ x.toInt % m = 0) ∨ x.toInt.tmod m = x.toInt % m - m := by
      have h5 := Int.tmod_eq_emod (a := x.toInt) (b := m)
      split at h5
      · rename_i h6
        rcases h6 with h6 | h6
        · omega
        · have := Int.emod_eq_zero_of_dvd h6
          omega
      · omega
    by_cases hz : (x - x / nI m * nI m) = 0
    · rw [if_pos hz, e, hmI]
      have : x.toInt.tmod m = 0 := by rw [← hmI, ← e, hz, Int32.toInt_zero]
      omega
    · rw [if_neg hz, Int32.toInt_add, e, hmI]
      have : x.toInt.tmod m ≠ 0 := fun h => hz (Int32.toInt_inj.mp (by rw [e, hmI, h, Int32.toInt_zero]))
      have h1 := Int.lt_tmod_of_pos x.toInt (show (0 : Int) < m by omega)
      rw [Int.bmod_eq_of_le (by omega) (by omega)]
      omega
theorem mo_eq (G : gT) (x : Int32) (m : Nat) (h0 : 0 < m) (hm : m < 65536) : f_Mo_modulo G x (nI m) = nI (x.toInt % m).toNat := by
  have hmI : (nI m).toInt = (m : Int) := nI_toInt (by omega)
  have e := md_toInt (x := x) (y := nI m) (by omega)
  have hr1 := Int.emod_nonneg x.toInt (show (m : Int) ≠ 0 by omega)
  have hr2 := Int.emod_lt_of_pos x.toInt (show (0 : Int) < m by omega)
  have h1 := Int.lt_tmod_of_pos x.toInt (show (0 : Int) < m by omega)
  have h2 := Int.tmod_lt_of_pos x.toInt (show (0 : Int) < m by omega)
  have ht : x.toInt.tmod m = x.toInt % m ∨ x.toInt.tmod m = x.toInt % m - m := by
    have h5 := Int.tmod_eq_emod (a := x.toInt) (b := m)
    split at h5 <;> omega
  unfold f_Mo_modulo
  apply Int32.toInt_inj.mp
  have e2 := md_toInt (x := (x - x / nI m * nI m) + nI m) (y := nI m) (by omega)
  rw [nI_toInt (by omega), e2, Int32.toInt_add, e, hmI, Int.bmod_eq_of_le (by omega) (by omega), Int.tmod_eq_emod_of_nonneg (by omega), Int.toNat_of_nonneg hr1]
  rcases ht with h | h <;> rw [h]
  · rw [Int.add_emod_right, Int.emod_emod_of_dvd _ (Int.dvd_refl _)]
  · rw [Int.sub_add_cancel, Int.emod_emod_of_dvd _ (Int.dvd_refl _)]
theorem and63_eq (x : Int32) : x &&& 63 = nI (x.toInt % 64).toNat := by
  obtain ⟨n, hn, rfl⟩ := wb_of32 x
  rw [show nI n &&& 63 = nI (n % 64) from and_mask n 6 63 rfl]
  congr 1
  have : (nI n).toInt = ((n : Int)).bmod (2 ^ 32) := by
    show (BitVec.ofNat 32 n).toInt = _
    rw [BitVec.toInt_eq_toNat_bmod, BitVec.toNat_ofNat, Nat.mod_eq_of_lt hn]
  rw [this, Int.bmod_def]
  split <;> omega
