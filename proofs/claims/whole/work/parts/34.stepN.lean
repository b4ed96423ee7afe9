
set_option maxHeartbeats 1000000 in
theorem mo_20_0 (G : gT) (x I : Nat → Int32) (av w : Int32) (hx : ∀ i, i < 269 → G 20 i = x i) (gw : G 17 (x 264).toNatClampNeg = w) (v1 : vp_in (x 264) 64) (v2 : x 265 < av → vp_in (x 265) 200) (gi : x 265 < av → G 18 (x 265).toNatClampNeg = I (x 265).toNatClampNeg) (ek : g_ush w 28 = 0) : ok_Mo_advance_20 G av ∧ (¬ ((0 : Int32) = 8 ∧ ¬ x 265 < av) → ∃ G', f_Mo_advance_20 G av = (1, G') ∧ (∀ i, i < 269 → G' 20 i = xN (0 : Int32) w I x i) ∧ G' 16 14 = xWr (0 : Int32) w x ∧ (∀ a, ¬ a = 16 → ¬ a = 20 → G' a = G a) ∧ ∀ b, ¬ b = 14 → G' 16 b = G 16 b) ∧ (((0 : Int32) = 8 ∧ ¬ x 265 < av) → f_Mo_advance_20 G av = (0, g_up G 16 14 (-1))) := by
  have g264 : G 20 264 = x 264 := hx 264 (by decide)
  have g265 : G 20 265 = x 265 := hx 265 (by decide)
  have g266 : G 20 266 = x 266 := hx 266 (by decide)
  have g267 : G 20 267 = x 267 := hx 267 (by decide)
  have gn : ∀ i, i < 264 → G 20 i = x i := fun i hi => hx i (by omega)
  have g268 : G 20 268 = x 268 := hx 268 (by decide)
  have hr4 : ∀ p, G 20 (xR w p).toNatClampNeg = x (xR w p).toNatClampNeg := fun p => hx _ (by have := xR_c w p; omega)
  have hm4 : G 20 (xM w x).toNatClampNeg = x (xM w x).toNatClampNeg := hx _ (by have := xM_c w x; omega)
  have vr : ∀ p, vp_in (xR w p) 269 := fun p => xR_v w p 269 (by decide) (by decide)
  have vm := xM_v w x 269 (by decide) (by decide)
  have hnr := xR_n w 24
  have hnm := xM_n w x
  have nr : ∀ j p, 264 ≤ j → ¬ j = (xR w p).toNatClampNeg := fun j p h => by have := xR_c w p; omega
  have nm : ∀ j, 264 ≤ j → ¬ j = (xM w x).toNatClampNeg := fun j h => by have := xM_c w x; omega
  have nr' : ∀ j p, 264 ≤ j → ¬ (xR w p).toNatClampNeg = j := fun j p h => by have := xR_c w p; omega
  refine ⟨?_, fun hnw => ?_, ?_⟩
  · simp (decide := true) [ok_Mo_advance_20, kind_x, r24_x, r20_x, r16_x, n_x, g264, g265, gw, ek, v1, hr4, hm4, vr, vm, xM_x]
  · refine ⟨_, Prod.ext ?_ rfl, i_cases ?_ ?_ ?_ ?_ ?_ ?_, ?_, ?_, ?_⟩
    · simp (decide := true) [f_Mo_advance_20, kind_x, r24_x, g264, g265, gw, ek]
    · intro i hi
      have n1 : ¬ i = 264 := by omega
      have n2 : ¬ i = 265 := by omega
      have n3 : ¬ i = 266 := by omega
      have n4 : ¬ i = 267 := by omega
      have n5 : ¬ i = 268 := by omega
      simp (decide := true) [f_Mo_advance_20, kind_x, xN, xV, f_Mo_result, g_up, r24_x, r20_x, r16_x, n_x, g264, g265, g266, g267, g268, gw, ek, xWr, hnr, hnm, hr4, hm4, xM_x, nr, nm, nr', hi, gn i hi, n1, n2, n3, n4, n5]
    · simp (decide := true) [f_Mo_advance_20, kind_x, xN, xV, f_Mo_result, g_up, r24_x, r20_x, r16_x, n_x, g264, g265, g266, g267, g268, gw, ek, xWr, hnr, hnm, hr4, hm4, xM_x, nr, nm, nr']
    · simp (decide := true) [f_Mo_advance_20, kind_x, xN, xV, f_Mo_result, g_up, r24_x, r20_x, r16_x, n_x, g264, g265, g266, g267, g268, gw, ek, xWr, hnr, hnm, hr4, hm4, xM_x, nr, nm, nr']
    · simp (decide := true) [f_Mo_advance_20, kind_x, xN, xV, f_Mo_result, g_up, r24_x, r20_x, r16_x, n_x, g264, g265, g266, g267, g268, gw, ek, xWr, hnr, hnm, hr4, hm4, xM_x, nr, nm, nr']
    · simp (decide := true) [f_Mo_advance_20, kind_x, xN, xV, f_Mo_result, g_up, r24_x, r20_x, r16_x, n_x, g264, g265, g266, g267, g268, gw, ek, xWr, hnr, hnm, hr4, hm4, xM_x, nr, nm, nr']
    · simp (decide := true) [f_Mo_advance_20, kind_x, xN, xV, f_Mo_result, g_up, r24_x, r20_x, r16_x, n_x, g264, g265, g266, g267, g268, gw, ek, xWr, hnr, hnm, hr4, hm4, xM_x, nr, nm, nr']
    · simp (decide := true) [f_Mo_advance_20, kind_x, xN, xV, f_Mo_result, g_up, r24_x, r20_x, r16_x, n_x, g264, g265, g266, g267, g268, gw, ek, xWr, hnr, hnm, hr4, hm4, xM_x, nr, nm, nr']
    · intro a h3 h4
      funext b
      simp (decide := true) [f_Mo_advance_20, kind_x, xN, xV, f_Mo_result, g_up, r24_x, r20_x, r16_x, n_x, g264, g265, g266, g267, g268, gw, ek, xWr, hnr, hnm, hr4, hm4, xM_x, nr, nm, nr', h3, h4]
    · intro b h3
      simp (decide := true) [f_Mo_advance_20, kind_x, xN, xV, f_Mo_result, g_up, r24_x, r20_x, r16_x, n_x, g264, g265, g266, g267, g268, gw, ek, xWr, hnr, hnm, hr4, hm4, xM_x, nr, nm, nr', h3]
  · intro h
    exact absurd h.1 (by decide)

set_option maxHeartbeats 1000000 in
theorem mo_20_1 (G : gT) (x I : Nat → Int32) (av w : Int32) (hx : ∀ i, i < 269 → G 20 i = x i) (gw : G 17 (x 264).toNatClampNeg = w) (v1 : vp_in (x 264) 64) (v2 : x 265 < av → vp_in (x 265) 200) (gi : x 265 < av → G 18 (x 265).toNatClampNeg = I (x 265).toNatClampNeg) (ek : g_ush w 28 = 1) : ok_Mo_advance_20 G av ∧ (¬ ((1 : Int32) = 8 ∧ ¬ x 265 < av) → ∃ G', f_Mo_advance_20 G av = (1, G') ∧ (∀ i, i < 269 → G' 20 i = xN (1 : Int32) w I x i) ∧ G' 16 14 = xWr (1 : Int32) w x ∧ (∀ a, ¬ a = 16 → ¬ a = 20 → G' a = G a) ∧ ∀ b, ¬ b = 14 → G' 16 b = G 16 b) ∧ (((1 : Int32) = 8 ∧ ¬ x 265 < av) → f_Mo_advance_20 G av = (0, g_up G 16 14 (-1))) := by
  have g264 : G 20 264 = x 264 := hx 264 (by decide)
  have g265 : G 20 265 = x 265 := hx 265 (by decide)
  have g266 : G 20 266 = x 266 := hx 266 (by decide)
  have g267 : G 20 267 = x 267 := hx 267 (by decide)
  have gn : ∀ i, i < 264 → G 20 i = x i := fun i hi => hx i (by omega)
  have g268 : G 20 268 = x 268 := hx 268 (by decide)
  have hr4 : ∀ p, G 20 (xR w p).toNatClampNeg = x (xR w p).toNatClampNeg := fun p => hx _ (by have := xR_c w p; omega)
  have hm4 : G 20 (xM w x).toNatClampNeg = x (xM w x).toNatClampNeg := hx _ (by have := xM_c w x; omega)
  have vr : ∀ p, vp_in (xR w p) 269 := fun p => xR_v w p 269 (by decide) (by decide)
  have vm := xM_v w x 269 (by decide) (by decide)
  have hnr := xR_n w 24
  have hnm := xM_n w x
  have nr : ∀ j p, 264 ≤ j → ¬ j = (xR w p).toNatClampNeg := fun j p h => by have := xR_c w p; omega
  have nm : ∀ j, 264 ≤ j → ¬ j = (xM w x).toNatClampNeg := fun j h => by have := xM_c w x; omega
  have nr' : ∀ j p, 264 ≤ j → ¬ (xR w p).toNatClampNeg = j := fun j p h => by have := xR_c w p; omega
  refine ⟨?_, fun hnw => ?_, ?_⟩
  · simp (decide := true) [ok_Mo_advance_20, kind_x, r24_x, r20_x, r16_x, n_x, g264, g265, gw, ek, v1, hr4, hm4, vr, vm, xM_x]
  · refine ⟨_, Prod.ext ?_ rfl, i_cases ?_ ?_ ?_ ?_ ?_ ?_, ?_, ?_, ?_⟩
    · simp (decide := true) [f_Mo_advance_20, kind_x, r24_x, g264, g265, gw, ek]
    · intro i hi
      have n1 : ¬ i = 264 := by omega
      have n2 : ¬ i = 265 := by omega
      have n3 : ¬ i = 266 := by omega
      have n4 : ¬ i = 267 := by omega
      have n5 : ¬ i = 268 := by omega
      simp (decide := true) [f_Mo_advance_20, kind_x, xN, xV, f_Mo_result, g_up, r24_x, r20_x, r16_x, n_x, g264, g265, g266, g267, g268, gw, ek, xWr, hnr, hnm, hr4, hm4, xM_x, nr, nm, nr', hi, gn i hi, n1, n2, n3, n4, n5]
    · simp (decide := true) [f_Mo_advance_20, kind_x, xN, xV, f_Mo_result, g_up, r24_x, r20_x, r16_x, n_x, g264, g265, g266, g267, g268, gw, ek, xWr, hnr, hnm, hr4, hm4, xM_x, nr, nm, nr']
    · simp (decide := true) [f_Mo_advance_20, kind_x, xN, xV, f_Mo_result, g_up, r24_x, r20_x, r16_x, n_x, g264, g265, g266, g267, g268, gw, ek, xWr, hnr, hnm, hr4, hm4, xM_x, nr, nm, nr']
    · simp (decide := true) [f_Mo_advance_20, kind_x, xN, xV, f_Mo_result, g_up, r24_x, r20_x, r16_x, n_x, g264, g265, g266, g267, g268, gw, ek, xWr, hnr, hnm, hr4, hm4, xM_x, nr, nm, nr']
    · simp (decide := true) [f_Mo_advance_20, kind_x, xN, xV, f_Mo_result, g_up, r24_x, r20_x, r16_x, n_x, g264, g265, g266, g267, g268, gw, ek, xWr, hnr, hnm, hr4, hm4, xM_x, nr, nm, nr']
    · simp (decide := true) [f_Mo_advance_20, kind_x, xN, xV, f_Mo_result, g_up, r24_x, r20_x, r16_x, n_x, g264, g265, g266, g267, g268, gw, ek, xWr, hnr, hnm, hr4, hm4, xM_x, nr, nm, nr']
    · simp (decide := true) [f_Mo_advance_20, kind_x, xN, xV, f_Mo_result, g_up, r24_x, r20_x, r16_x, n_x, g264, g265, g266, g267, g268, gw, ek, xWr, hnr, hnm, hr4, hm4, xM_x, nr, nm, nr']
    · intro a h3 h4
      funext b
      simp (decide := true) [f_Mo_advance_20, kind_x, xN, xV, f_Mo_result, g_up, r24_x, r20_x, r16_x, n_x, g264, g265, g266, g267, g268, gw, ek, xWr, hnr, hnm, hr4, hm4, xM_x, nr, nm, nr', h3, h4]
    · intro b h3
      simp (decide := true) [f_Mo_advance_20, kind_x, xN, xV, f_Mo_result, g_up, r24_x, r20_x, r16_x, n_x, g264, g265, g266, g267, g268, gw, ek, xWr, hnr, hnm, hr4, hm4, xM_x, nr, nm, nr', h3]
  · intro h
    exact absurd h.1 (by decide)

set_option maxHeartbeats 1000000 in
theorem mo_20_2 (G : gT) (x I : Nat → Int32) (av w : Int32) (hx : ∀ i, i < 269 → G 20 i = x i) (gw : G 17 (x 264).toNatClampNeg = w) (v1 : vp_in (x 264) 64) (v2 : x 265 < av → vp_in (x 265) 200) (gi : x 265 < av → G 18 (x 265).toNatClampNeg = I (x 265).toNatClampNeg) (ek : g_ush w 28 = 2) : ok_Mo_advance_20 G av ∧ (¬ ((2 : Int32) = 8 ∧ ¬ x 265 < av) → ∃ G', f_Mo_advance_20 G av = (1, G') ∧ (∀ i, i < 269 → G' 20 i = xN (2 : Int32) w I x i) ∧ G' 16 14 = xWr (2 : Int32) w x ∧ (∀ a, ¬ a = 16 → ¬ a = 20 → G' a = G a) ∧ ∀ b, ¬ b = 14 → G' 16 b = G 16 b) ∧ (((2 : Int32) = 8 ∧ ¬ x 265 < av) → f_Mo_advance_20 G av = (0, g_up G 16 14 (-1))) := by
  have g264 : G 20 264 = x 264 := hx 264 (by decide)
  have g265 : G 20 265 = x 265 := hx 265 (by decide)
  have g266 : G 20 266 = x 266 := hx 266 (by decide)
  have g267 : G 20 267 = x 267 := hx 267 (by decide)
  have gn : ∀ i, i < 264 → G 20 i = x i := fun i hi => hx i (by omega)
  have g268 : G 20 268 = x 268 := hx 268 (by decide)
  have hr4 : ∀ p, G 20 (xR w p).toNatClampNeg = x (xR w p).toNatClampNeg := fun p => hx _ (by have := xR_c w p; omega)
  have hm4 : G 20 (xM w x).toNatClampNeg = x (xM w x).toNatClampNeg := hx _ (by have := xM_c w x; omega)
  have vr : ∀ p, vp_in (xR w p) 269 := fun p => xR_v w p 269 (by decide) (by decide)
  have vm := xM_v w x 269 (by decide) (by decide)
  have hnr := xR_n w 24
  have hnm := xM_n w x
  have nr : ∀ j p, 264 ≤ j → ¬ j = (xR w p).toNatClampNeg := fun j p h => by have := xR_c w p; omega
  have nm : ∀ j, 264 ≤ j → ¬ j = (xM w x).toNatClampNeg := fun j h => by have := xM_c w x; omega
  have nr' : ∀ j p, 264 ≤ j → ¬ (xR w p).toNatClampNeg = j := fun j p h => by have := xR_c w p; omega
  refine ⟨?_, fun hnw => ?_, ?_⟩
  · simp (decide := true) [ok_Mo_advance_20, kind_x, r24_x, r20_x, r16_x, n_x, g264, g265, gw, ek, v1, hr4, hm4, vr, vm, xM_x]
  · refine ⟨_, Prod.ext ?_ rfl, i_cases ?_ ?_ ?_ ?_ ?_ ?_, ?_, ?_, ?_⟩
    · simp (decide := true) [f_Mo_advance_20, kind_x, r24_x, g264, g265, gw, ek]
    · intro i hi
      have n1 : ¬ i = 264 := by omega
      have n2 : ¬ i = 265 := by omega
      have n3 : ¬ i = 266 := by omega
      have n4 : ¬ i = 267 := by omega
      have n5 : ¬ i = 268 := by omega
      simp (decide := true) [f_Mo_advance_20, kind_x, xN, xV, f_Mo_result, g_up, r24_x, r20_x, r16_x, n_x, g264, g265, g266, g267, g268, gw, ek, xWr, hnr, hnm, hr4, hm4, xM_x, nr, nm, nr', hi, gn i hi, n1, n2, n3, n4, n5]
    · simp (decide := true) [f_Mo_advance_20, kind_x, xN, xV, f_Mo_result, g_up, r24_x, r20_x, r16_x, n_x, g264, g265, g266, g267, g268, gw, ek, xWr, hnr, hnm, hr4, hm4, xM_x, nr, nm, nr']
    · simp (decide := true) [f_Mo_advance_20, kind_x, xN, xV, f_Mo_result, g_up, r24_x, r20_x, r16_x, n_x, g264, g265, g266, g267, g268, gw, ek, xWr, hnr, hnm, hr4, hm4, xM_x, nr, nm, nr']
    · simp (decide := true) [f_Mo_advance_20, kind_x, xN, xV, f_Mo_result, g_up, r24_x, r20_x, r16_x, n_x, g264, g265, g266, g267, g268, gw, ek, xWr, hnr, hnm, hr4, hm4, xM_x, nr, nm, nr']
    · simp (decide := true) [f_Mo_advance_20, kind_x, xN, xV, f_Mo_result, g_up, r24_x, r20_x, r16_x, n_x, g264, g265, g266, g267, g268, gw, ek, xWr, hnr, hnm, hr4, hm4, xM_x, nr, nm, nr']
    · simp (decide := true) [f_Mo_advance_20, kind_x, xN, xV, f_Mo_result, g_up, r24_x, r20_x, r16_x, n_x, g264, g265, g266, g267, g268, gw, ek, xWr, hnr, hnm, hr4, hm4, xM_x, nr, nm, nr']
    · simp (decide := true) [f_Mo_advance_20, kind_x, xN, xV, f_Mo_result, g_up, r24_x, r20_x, r16_x, n_x, g264, g265, g266, g267, g268, gw, ek, xWr, hnr, hnm, hr4, hm4, xM_x, nr, nm, nr']
    · intro a h3 h4
      funext b
      simp (decide := true) [f_Mo_advance_20, kind_x, xN, xV, f_Mo_result, g_up, r24_x, r20_x, r16_x, n_x, g264, g265, g266, g267, g268, gw, ek, xWr, hnr, hnm, hr4, hm4, xM_x, nr, nm, nr', h3, h4]
    · intro b h3
      simp (decide := true) [f_Mo_advance_20, kind_x, xN, xV, f_Mo_result, g_up, r24_x, r20_x, r16_x, n_x, g264, g265, g266, g267, g268, gw, ek, xWr, hnr, hnm, hr4, hm4, xM_x, nr, nm, nr', h3]
  · intro h
    exact absurd h.1 (by decide)

set_option maxHeartbeats 1000000 in
theorem mo_20_3 (G : gT) (x I : Nat → Int32) (av w : Int32) (hx : ∀ i, i < 269 → G 20 i = x i) (gw : G 17 (x 264).toNatClampNeg = w) (v1 : vp_in (x 264) 64) (v2 : x 265 < av → vp_in (x 265) 200) (gi : x 265 < av → G 18 (x 265).toNatClampNeg = I (x 265).toNatClampNeg) (ek : g_ush w 28 = 3) : ok_Mo_advance_20 G av ∧ (¬ ((3 : Int32) = 8 ∧ ¬ x 265 < av) → ∃ G', f_Mo_advance_20 G av = (1, G') ∧ (∀ i, i < 269 → G' 20 i = xN (3 : Int32) w I x i) ∧ G' 16 14 = xWr (3 : Int32) w x ∧ (∀ a, ¬ a = 16 → ¬ a = 20 → G' a = G a) ∧ ∀ b, ¬ b = 14 → G' 16 b = G 16 b) ∧ (((3 : Int32) = 8 ∧ ¬ x 265 < av) → f_Mo_advance_20 G av = (0, g_up G 16 14 (-1))) := by
  have g264 : G 20 264 = x 264 := hx 264 (by decide)
  have g265 : G 20 265 = x 265 := hx 265 (by decide)
  have g266 : G 20 266 = x 266 := hx 266 (by decide)
  have g267 : G 20 267 = x 267 := hx 267 (by decide)
  have gn : ∀ i, i < 264 → G 20 i = x i := fun i hi => hx i (by omega)
  have g268 : G 20 268 = x 268 := hx 268 (by decide)
  have hr4 : ∀ p, G 20 (xR w p).toNatClampNeg = x (xR w p).toNatClampNeg := fun p => hx _ (by have := xR_c w p; omega)
  have hm4 : G 20 (xM w x).toNatClampNeg = x (xM w x).toNatClampNeg := hx _ (by have := xM_c w x; omega)
  have vr : ∀ p, vp_in (xR w p) 269 := fun p => xR_v w p 269 (by decide) (by decide)
  have vm := xM_v w x 269 (by decide) (by decide)
  have hnr := xR_n w 24
  have hnm := xM_n w x
  have nr : ∀ j p, 264 ≤ j → ¬ j = (xR w p).toNatClampNeg := fun j p h => by have := xR_c w p; omega
  have nm : ∀ j, 264 ≤ j → ¬ j = (xM w x).toNatClampNeg := fun j h => by have := xM_c w x; omega
  have nr' : ∀ j p, 264 ≤ j → ¬ (xR w p).toNatClampNeg = j := fun j p h => by have := xR_c w p; omega
  refine ⟨?_, fun hnw => ?_, ?_⟩
  · simp (decide := true) [ok_Mo_advance_20, kind_x, r24_x, r20_x, r16_x, n_x, g264, g265, gw, ek, v1, hr4, hm4, vr, vm, xM_x]
  · refine ⟨_, Prod.ext ?_ rfl, i_cases ?_ ?_ ?_ ?_ ?_ ?_, ?_, ?_, ?_⟩
    · simp (decide := true) [f_Mo_advance_20, kind_x, r24_x, g264, g265, gw, ek]
    · intro i hi
      have n1 : ¬ i = 264 := by omega
      have n2 : ¬ i = 265 := by omega
      have n3 : ¬ i = 266 := by omega
      have n4 : ¬ i = 267 := by omega
      have n5 : ¬ i = 268 := by omega
      simp (decide := true) [f_Mo_advance_20, kind_x, xN, xV, f_Mo_result, g_up, r24_x, r20_x, r16_x, n_x, g264, g265, g266, g267, g268, gw, ek, xWr, hnr, hnm, hr4, hm4, xM_x, nr, nm, nr', hi, gn i hi, n1, n2, n3, n4, n5]
    · simp (decide := true) [f_Mo_advance_20, kind_x, xN, xV, f_Mo_result, g_up, r24_x, r20_x, r16_x, n_x, g264, g265, g266, g267, g268, gw, ek, xWr, hnr, hnm, hr4, hm4, xM_x, nr, nm, nr']
    · simp (decide := true) [f_Mo_advance_20, kind_x, xN, xV, f_Mo_result, g_up, r24_x, r20_x, r16_x, n_x, g264, g265, g266, g267, g268, gw, ek, xWr, hnr, hnm, hr4, hm4, xM_x, nr, nm, nr']
    · simp (decide := true) [f_Mo_advance_20, kind_x, xN, xV, f_Mo_result, g_up, r24_x, r20_x, r16_x, n_x, g264, g265, g266, g267, g268, gw, ek, xWr, hnr, hnm, hr4, hm4, xM_x, nr, nm, nr']
    · simp (decide := true) [f_Mo_advance_20, kind_x, xN, xV, f_Mo_result, g_up, r24_x, r20_x, r16_x, n_x, g264, g265, g266, g267, g268, gw, ek, xWr, hnr, hnm, hr4, hm4, xM_x, nr, nm, nr']
    · simp (decide := true) [f_Mo_advance_20, kind_x, xN, xV, f_Mo_result, g_up, r24_x, r20_x, r16_x, n_x, g264, g265, g266, g267, g268, gw, ek, xWr, hnr, hnm, hr4, hm4, xM_x, nr, nm, nr']
    · simp (decide := true) [f_Mo_advance_20, kind_x, xN, xV, f_Mo_result, g_up, r24_x, r20_x, r16_x, n_x, g264, g265, g266, g267, g268, gw, ek, xWr, hnr, hnm, hr4, hm4, xM_x, nr, nm, nr']
    · intro a h3 h4
      funext b
      simp (decide := true) [f_Mo_advance_20, kind_x, xN, xV, f_Mo_result, g_up, r24_x, r20_x, r16_x, n_x, g264, g265, g266, g267, g268, gw, ek, xWr, hnr, hnm, hr4, hm4, xM_x, nr, nm, nr', h3, h4]
    · intro b h3
      simp (decide := true) [f_Mo_advance_20, kind_x, xN, xV, f_Mo_result, g_up, r24_x, r20_x, r16_x, n_x, g264, g265, g266, g267, g268, gw, ek, xWr, hnr, hnm, hr4, hm4, xM_x, nr, nm, nr', h3]
  · intro h
    exact absurd h.1 (by decide)

set_option maxHeartbeats 1000000 in
theorem mo_20_4 (G : gT) (x I : Nat → Int32) (av w : Int32) (hx : ∀ i, i < 269 → G 20 i = x i) (gw : G 17 (x 264).toNatClampNeg = w) (v1 : vp_in (x 264) 64) (v2 : x 265 < av → vp_in (x 265) 200) (gi : x 265 < av → G 18 (x 265).toNatClampNeg = I (x 265).toNatClampNeg) (ek : g_ush w 28 = 4) : ok_Mo_advance_20 G av ∧ (¬ ((4 : Int32) = 8 ∧ ¬ x 265 < av) → ∃ G', f_Mo_advance_20 G av = (1, G') ∧ (∀ i, i < 269 → G' 20 i = xN (4 : Int32) w I x i) ∧ G' 16 14 = xWr (4 : Int32) w x ∧ (∀ a, ¬ a = 16 → ¬ a = 20 → G' a = G a) ∧ ∀ b, ¬ b = 14 → G' 16 b = G 16 b) ∧ (((4 : Int32) = 8 ∧ ¬ x 265 < av) → f_Mo_advance_20 G av = (0, g_up G 16 14 (-1))) := by
  have g264 : G 20 264 = x 264 := hx 264 (by decide)
  have g265 : G 20 265 = x 265 := hx 265 (by decide)
  have g266 : G 20 266 = x 266 := hx 266 (by decide)
  have g267 : G 20 267 = x 267 := hx 267 (by decide)
  have gn : ∀ i, i < 264 → G 20 i = x i := fun i hi => hx i (by omega)
  have g268 : G 20 268 = x 268 := hx 268 (by decide)
  have hr4 : ∀ p, G 20 (xR w p).toNatClampNeg = x (xR w p).toNatClampNeg := fun p => hx _ (by have := xR_c w p; omega)
  have hm4 : G 20 (xM w x).toNatClampNeg = x (xM w x).toNatClampNeg := hx _ (by have := xM_c w x; omega)
  have vr : ∀ p, vp_in (xR w p) 269 := fun p => xR_v w p 269 (by decide) (by decide)
  have vm := xM_v w x 269 (by decide) (by decide)
  have hnr := xR_n w 24
  have hnm := xM_n w x
  have nr : ∀ j p, 264 ≤ j → ¬ j = (xR w p).toNatClampNeg := fun j p h => by have := xR_c w p; omega
  have nm : ∀ j, 264 ≤ j → ¬ j = (xM w x).toNatClampNeg := fun j h => by have := xM_c w x; omega
  have nr' : ∀ j p, 264 ≤ j → ¬ (xR w p).toNatClampNeg = j := fun j p h => by have := xR_c w p; omega
  refine ⟨?_, fun hnw => ?_, ?_⟩
  · simp (decide := true) [ok_Mo_advance_20, kind_x, r24_x, r20_x, r16_x, n_x, g264, g265, gw, ek, v1, hr4, hm4, vr, vm, xM_x]
  · refine ⟨_, Prod.ext ?_ rfl, i_cases ?_ ?_ ?_ ?_ ?_ ?_, ?_, ?_, ?_⟩
    · simp (decide := true) [f_Mo_advance_20, kind_x, r24_x, g264, g265, gw, ek]
    · intro i hi
      have n1 : ¬ i = 264 := by omega
      have n2 : ¬ i = 265 := by omega
      have n3 : ¬ i = 266 := by omega
      have n4 : ¬ i = 267 := by omega
      have n5 : ¬ i = 268 := by omega
      simp (decide := true) [f_Mo_advance_20, kind_x, xN, xV, f_Mo_result, g_up, r24_x, r20_x, r16_x, n_x, g264, g265, g266, g267, g268, gw, ek, xWr, hnr, hnm, hr4, hm4, xM_x, nr, nm, nr', hi, gn i hi, n1, n2, n3, n4, n5]
    · simp (decide := true) [f_Mo_advance_20, kind_x, xN, xV, f_Mo_result, g_up, r24_x, r20_x, r16_x, n_x, g264, g265, g266, g267, g268, gw, ek, xWr, hnr, hnm, hr4, hm4, xM_x, nr, nm, nr']
    · simp (decide := true) [f_Mo_advance_20, kind_x, xN, xV, f_Mo_result, g_up, r24_x, r20_x, r16_x, n_x, g264, g265, g266, g267, g268, gw, ek, xWr, hnr, hnm, hr4, hm4, xM_x, nr, nm, nr']
    · simp (decide := true) [f_Mo_advance_20, kind_x, xN, xV, f_Mo_result, g_up, r24_x, r20_x, r16_x, n_x, g264, g265, g266, g267, g268, gw, ek, xWr, hnr, hnm, hr4, hm4, xM_x, nr, nm, nr']
    · simp (decide := true) [f_Mo_advance_20, kind_x, xN, xV, f_Mo_result, g_up, r24_x, r20_x, r16_x, n_x, g264, g265, g266, g267, g268, gw, ek, xWr, hnr, hnm, hr4, hm4, xM_x, nr, nm, nr']
    · simp (decide := true) [f_Mo_advance_20, kind_x, xN, xV, f_Mo_result, g_up, r24_x, r20_x, r16_x, n_x, g264, g265, g266, g267, g268, gw, ek, xWr, hnr, hnm, hr4, hm4, xM_x, nr, nm, nr']
    · simp (decide := true) [f_Mo_advance_20, kind_x, xN, xV, f_Mo_result, g_up, r24_x, r20_x, r16_x, n_x, g264, g265, g266, g267, g268, gw, ek, xWr, hnr, hnm, hr4, hm4, xM_x, nr, nm, nr']
    · intro a h3 h4
      funext b
      simp (decide := true) [f_Mo_advance_20, kind_x, xN, xV, f_Mo_result, g_up, r24_x, r20_x, r16_x, n_x, g264, g265, g266, g267, g268, gw, ek, xWr, hnr, hnm, hr4, hm4, xM_x, nr, nm, nr', h3, h4]
    · intro b h3
      simp (decide := true) [f_Mo_advance_20, kind_x, xN, xV, f_Mo_result, g_up, r24_x, r20_x, r16_x, n_x, g264, g265, g266, g267, g268, gw, ek, xWr, hnr, hnm, hr4, hm4, xM_x, nr, nm, nr', h3]
  · intro h
    exact absurd h.1 (by decide)

set_option maxHeartbeats 1000000 in
theorem mo_20_5 (G : gT) (x I : Nat → Int32) (av w : Int32) (hx : ∀ i, i < 269 → G 20 i = x i) (gw : G 17 (x 264).toNatClampNeg = w) (v1 : vp_in (x 264) 64) (v2 : x 265 < av → vp_in (x 265) 200) (gi : x 265 < av → G 18 (x 265).toNatClampNeg = I (x 265).toNatClampNeg) (ek : g_ush w 28 = 5) : ok_Mo_advance_20 G av ∧ (¬ ((5 : Int32) = 8 ∧ ¬ x 265 < av) → ∃ G', f_Mo_advance_20 G av = (1, G') ∧ (∀ i, i < 269 → G' 20 i = xN (5 : Int32) w I x i) ∧ G' 16 14 = xWr (5 : Int32) w x ∧ (∀ a, ¬ a = 16 → ¬ a = 20 → G' a = G a) ∧ ∀ b, ¬ b = 14 → G' 16 b = G 16 b) ∧ (((5 : Int32) = 8 ∧ ¬ x 265 < av) → f_Mo_advance_20 G av = (0, g_up G 16 14 (-1))) := by
  have g264 : G 20 264 = x 264 := hx 264 (by decide)
  have g265 : G 20 265 = x 265 := hx 265 (by decide)
  have g266 : G 20 266 = x 266 := hx 266 (by decide)
  have g267 : G 20 267 = x 267 := hx 267 (by decide)
  have gn : ∀ i, i < 264 → G 20 i = x i := fun i hi => hx i (by omega)
  have g268 : G 20 268 = x 268 := hx 268 (by decide)
  have hr4 : ∀ p, G 20 (xR w p).toNatClampNeg = x (xR w p).toNatClampNeg := fun p => hx _ (by have := xR_c w p; omega)
  have hm4 : G 20 (xM w x).toNatClampNeg = x (xM w x).toNatClampNeg := hx _ (by have := xM_c w x; omega)
  have vr : ∀ p, vp_in (xR w p) 269 := fun p => xR_v w p 269 (by decide) (by decide)
  have vm := xM_v w x 269 (by decide) (by decide)
  have hnr := xR_n w 24
  have hnm := xM_n w x
  have nr : ∀ j p, 264 ≤ j → ¬ j = (xR w p).toNatClampNeg := fun j p h => by have := xR_c w p; omega
  have nm : ∀ j, 264 ≤ j → ¬ j = (xM w x).toNatClampNeg := fun j h => by have := xM_c w x; omega
  have nr' : ∀ j p, 264 ≤ j → ¬ (xR w p).toNatClampNeg = j := fun j p h => by have := xR_c w p; omega
  refine ⟨?_, fun hnw => ?_, ?_⟩
  · simp (decide := true) [ok_Mo_advance_20, kind_x, r24_x, r20_x, r16_x, n_x, g264, g265, gw, ek, v1, hr4, hm4, vr, vm, xM_x]
  · refine ⟨_, Prod.ext ?_ rfl, i_cases ?_ ?_ ?_ ?_ ?_ ?_, ?_, ?_, ?_⟩
    · simp (decide := true) [f_Mo_advance_20, kind_x, r24_x, g264, g265, gw, ek]
    · intro i hi
      have n1 : ¬ i = 264 := by omega
      have n2 : ¬ i = 265 := by omega
      have n3 : ¬ i = 266 := by omega
      have n4 : ¬ i = 267 := by omega
      have n5 : ¬ i = 268 := by omega
      simp (decide := true) [f_Mo_advance_20, kind_x, xN, xV, f_Mo_result, g_up, r24_x, r20_x, r16_x, n_x, g264, g265, g266, g267, g268, gw, ek, xWr, hnr, hnm, hr4, hm4, xM_x, nr, nm, nr', hi, gn i hi, n1, n2, n3, n4, n5]
    · simp (decide := true) [f_Mo_advance_20, kind_x, xN, xV, f_Mo_result, g_up, r24_x, r20_x, r16_x, n_x, g264, g265, g266, g267, g268, gw, ek, xWr, hnr, hnm, hr4, hm4, xM_x, nr, nm, nr']
    · simp (decide := true) [f_Mo_advance_20, kind_x, xN, xV, f_Mo_result, g_up, r24_x, r20_x, r16_x, n_x, g264, g265, g266, g267, g268, gw, ek, xWr, hnr, hnm, hr4, hm4, xM_x, nr, nm, nr']
    · simp (decide := true) [f_Mo_advance_20, kind_x, xN, xV, f_Mo_result, g_up, r24_x, r20_x, r16_x, n_x, g264, g265, g266, g267, g268, gw, ek, xWr, hnr, hnm, hr4, hm4, xM_x, nr, nm, nr']
    · simp (decide := true) [f_Mo_advance_20, kind_x, xN, xV, f_Mo_result, g_up, r24_x, r20_x, r16_x, n_x, g264, g265, g266, g267, g268, gw, ek, xWr, hnr, hnm, hr4, hm4, xM_x, nr, nm, nr']
    · simp (decide := true) [f_Mo_advance_20, kind_x, xN, xV, f_Mo_result, g_up, r24_x, r20_x, r16_x, n_x, g264, g265, g266, g267, g268, gw, ek, xWr, hnr, hnm, hr4, hm4, xM_x, nr, nm, nr']
    · simp (decide := true) [f_Mo_advance_20, kind_x, xN, xV, f_Mo_result, g_up, r24_x, r20_x, r16_x, n_x, g264, g265, g266, g267, g268, gw, ek, xWr, hnr, hnm, hr4, hm4, xM_x, nr, nm, nr']
    · intro a h3 h4
      funext b
      simp (decide := true) [f_Mo_advance_20, kind_x, xN, xV, f_Mo_result, g_up, r24_x, r20_x, r16_x, n_x, g264, g265, g266, g267, g268, gw, ek, xWr, hnr, hnm, hr4, hm4, xM_x, nr, nm, nr', h3, h4]
    · intro b h3
      simp (decide := true) [f_Mo_advance_20, kind_x, xN, xV, f_Mo_result, g_up, r24_x, r20_x, r16_x, n_x, g264, g265, g266, g267, g268, gw, ek, xWr, hnr, hnm, hr4, hm4, xM_x, nr, nm, nr', h3]
  · intro h
    exact absurd h.1 (by decide)

set_option maxHeartbeats 1000000 in
theorem mo_20_6 (G : gT) (x I : Nat → Int32) (av w : Int32) (hx : ∀ i, i < 269 → G 20 i = x i) (gw : G 17 (x 264).toNatClampNeg = w) (v1 : vp_in (x 264) 64) (v2 : x 265 < av → vp_in (x 265) 200) (gi : x 265 < av → G 18 (x 265).toNatClampNeg = I (x 265).toNatClampNeg) (ek : g_ush w 28 = 6) : ok_Mo_advance_20 G av ∧ (¬ ((6 : Int32) = 8 ∧ ¬ x 265 < av) → ∃ G', f_Mo_advance_20 G av = (1, G') ∧ (∀ i, i < 269 → G' 20 i = xN (6 : Int32) w I x i) ∧ G' 16 14 = xWr (6 : Int32) w x ∧ (∀ a, ¬ a = 16 → ¬ a = 20 → G' a = G a) ∧ ∀ b, ¬ b = 14 → G' 16 b = G 16 b) ∧ (((6 : Int32) = 8 ∧ ¬ x 265 < av) → f_Mo_advance_20 G av = (0, g_up G 16 14 (-1))) := by
  have g264 : G 20 264 = x 264 := hx 264 (by decide)
  have g265 : G 20 265 = x 265 := hx 265 (by decide)
  have g266 : G 20 266 = x 266 := hx 266 (by decide)
  have g267 : G 20 267 = x 267 := hx 267 (by decide)
  have gn : ∀ i, i < 264 → G 20 i = x i := fun i hi => hx i (by omega)
  have g268 : G 20 268 = x 268 := hx 268 (by decide)
  have hr4 : ∀ p, G 20 (xR w p).toNatClampNeg = x (xR w p).toNatClampNeg := fun p => hx _ (by have := xR_c w p; omega)
  have hm4 : G 20 (xM w x).toNatClampNeg = x (xM w x).toNatClampNeg := hx _ (by have := xM_c w x; omega)
  have vr : ∀ p, vp_in (xR w p) 269 := fun p => xR_v w p 269 (by decide) (by decide)
  have vm := xM_v w x 269 (by decide) (by decide)
  have hnr := xR_n w 24
  have hnm := xM_n w x
  have nr : ∀ j p, 264 ≤ j → ¬ j = (xR w p).toNatClampNeg := fun j p h => by have := xR_c w p; omega
  have nm : ∀ j, 264 ≤ j → ¬ j = (xM w x).toNatClampNeg := fun j h => by have := xM_c w x; omega
  have nr' : ∀ j p, 264 ≤ j → ¬ (xR w p).toNatClampNeg = j := fun j p h => by have := xR_c w p; omega
  refine ⟨?_, fun hnw => ?_, ?_⟩
  · simp (decide := true) [ok_Mo_advance_20, kind_x, r24_x, r20_x, r16_x, n_x, g264, g265, gw, ek, v1, hr4, hm4, vr, vm, xM_x]
  · refine ⟨_, Prod.ext ?_ rfl, i_cases ?_ ?_ ?_ ?_ ?_ ?_, ?_, ?_, ?_⟩
    · simp (decide := true) [f_Mo_advance_20, kind_x, r24_x, g264, g265, gw, ek]
    · intro i hi
      have n1 : ¬ i = 264 := by omega
      have n2 : ¬ i = 265 := by omega
      have n3 : ¬ i = 266 := by omega
      have n4 : ¬ i = 267 := by omega
      have n5 : ¬ i = 268 := by omega
      simp (decide := true) [f_Mo_advance_20, kind_x, xN, xV, f_Mo_result, g_up, r24_x, r20_x, r16_x, n_x, g264, g265, g266, g267, g268, gw, ek, xWr, hnr, hnm, hr4, hm4, xM_x, nr, nm, nr', hi, gn i hi, n1, n2, n3, n4, n5]
    · simp (decide := true) [f_Mo_advance_20, kind_x, xN, xV, f_Mo_result, g_up, r24_x, r20_x, r16_x, n_x, g264, g265, g266, g267, g268, gw, ek, xWr, hnr, hnm, hr4, hm4, xM_x, nr, nm, nr']
    · simp (decide := true) [f_Mo_advance_20, kind_x, xN, xV, f_Mo_result, g_up, r24_x, r20_x, r16_x, n_x, g264, g265, g266, g267, g268, gw, ek, xWr, hnr, hnm, hr4, hm4, xM_x, nr, nm, nr']
    · simp (decide := true) [f_Mo_advance_20, kind_x, xN, xV, f_Mo_result, g_up, r24_x, r20_x, r16_x, n_x, g264, g265, g266, g267, g268, gw, ek, xWr, hnr, hnm, hr4, hm4, xM_x, nr, nm, nr']
    · simp (decide := true) [f_Mo_advance_20, kind_x, xN, xV, f_Mo_result, g_up, r24_x, r20_x, r16_x, n_x, g264, g265, g266, g267, g268, gw, ek, xWr, hnr, hnm, hr4, hm4, xM_x, nr, nm, nr']
    · simp (decide := true) [f_Mo_advance_20, kind_x, xN, xV, f_Mo_result, g_up, r24_x, r20_x, r16_x, n_x, g264, g265, g266, g267, g268, gw, ek, xWr, hnr, hnm, hr4, hm4, xM_x, nr, nm, nr']
    · simp (decide := true) [f_Mo_advance_20, kind_x, xN, xV, f_Mo_result, g_up, r24_x, r20_x, r16_x, n_x, g264, g265, g266, g267, g268, gw, ek, xWr, hnr, hnm, hr4, hm4, xM_x, nr, nm, nr']
    · intro a h3 h4
      funext b
      simp (decide := true) [f_Mo_advance_20, kind_x, xN, xV, f_Mo_result, g_up, r24_x, r20_x, r16_x, n_x, g264, g265, g266, g267, g268, gw, ek, xWr, hnr, hnm, hr4, hm4, xM_x, nr, nm, nr', h3, h4]
    · intro b h3
      simp (decide := true) [f_Mo_advance_20, kind_x, xN, xV, f_Mo_result, g_up, r24_x, r20_x, r16_x, n_x, g264, g265, g266, g267, g268, gw, ek, xWr, hnr, hnm, hr4, hm4, xM_x, nr, nm, nr', h3]
  · intro h
    exact absurd h.1 (by decide)

set_option maxHeartbeats 1000000 in
theorem mo_20_7 (G : gT) (x I : Nat → Int32) (av w : Int32) (hx : ∀ i, i < 269 → G 20 i = x i) (gw : G 17 (x 264).toNatClampNeg = w) (v1 : vp_in (x 264) 64) (v2 : x 265 < av → vp_in (x 265) 200) (gi : x 265 < av → G 18 (x 265).toNatClampNeg = I (x 265).toNatClampNeg) (ek : g_ush w 28 = 7) : ok_Mo_advance_20 G av ∧ (¬ ((7 : Int32) = 8 ∧ ¬ x 265 < av) → ∃ G', f_Mo_advance_20 G av = (1, G') ∧ (∀ i, i < 269 → G' 20 i = xN (7 : Int32) w I x i) ∧ G' 16 14 = xWr (7 : Int32) w x ∧ (∀ a, ¬ a = 16 → ¬ a = 20 → G' a = G a) ∧ ∀ b, ¬ b = 14 → G' 16 b = G 16 b) ∧ (((7 : Int32) = 8 ∧ ¬ x 265 < av) → f_Mo_advance_20 G av = (0, g_up G 16 14 (-1))) := by
  have g264 : G 20 264 = x 264 := hx 264 (by decide)
  have g265 : G 20 265 = x 265 := hx 265 (by decide)
  have g266 : G 20 266 = x 266 := hx 266 (by decide)
  have g267 : G 20 267 = x 267 := hx 267 (by decide)
  have gn : ∀ i, i < 264 → G 20 i = x i := fun i hi => hx i (by omega)
  have g268 : G 20 268 = x 268 := hx 268 (by decide)
  have hr4 : ∀ p, G 20 (xR w p).toNatClampNeg = x (xR w p).toNatClampNeg := fun p => hx _ (by have := xR_c w p; omega)
  have hm4 : G 20 (xM w x).toNatClampNeg = x (xM w x).toNatClampNeg := hx _ (by have := xM_c w x; omega)
  have vr : ∀ p, vp_in (xR w p) 269 := fun p => xR_v w p 269 (by decide) (by decide)
  have vm := xM_v w x 269 (by decide) (by decide)
  have hnr := xR_n w 24
  have hnm := xM_n w x
  have nr : ∀ j p, 264 ≤ j → ¬ j = (xR w p).toNatClampNeg := fun j p h => by have := xR_c w p; omega
  have nm : ∀ j, 264 ≤ j → ¬ j = (xM w x).toNatClampNeg := fun j h => by have := xM_c w x; omega
  have nr' : ∀ j p, 264 ≤ j → ¬ (xR w p).toNatClampNeg = j := fun j p h => by have := xR_c w p; omega
  refine ⟨?_, fun hnw => ?_, ?_⟩
  · simp (decide := true) [ok_Mo_advance_20, kind_x, r24_x, r20_x, r16_x, n_x, g264, g265, gw, ek, v1, hr4, hm4, vr, vm, xM_x]
  · by_cases hc : x (xR w 24).toNatClampNeg = 0
    · refine ⟨_, Prod.ext ?_ rfl, i_cases ?_ ?_ ?_ ?_ ?_ ?_, ?_, ?_, ?_⟩
      · simp (decide := true) [f_Mo_advance_20, kind_x, r24_x, g264, g265, gw, ek, hr4, hc]
      · intro i hi
        have n1 : ¬ i = 264 := by omega
        have n2 : ¬ i = 265 := by omega
        have n3 : ¬ i = 266 := by omega
        have n4 : ¬ i = 267 := by omega
        have n5 : ¬ i = 268 := by omega
        simp (decide := true) [f_Mo_advance_20, kind_x, xN, xV, f_Mo_result, g_up, r24_x, r20_x, r16_x, n_x, g264, g265, g266, g267, g268, gw, ek, xWr, hnr, hnm, hr4, hm4, xM_x, nr, nm, nr', hc, hi, gn i hi, n1, n2, n3, n4, n5]
      · simp (decide := true) [f_Mo_advance_20, kind_x, xN, xV, f_Mo_result, g_up, r24_x, r20_x, r16_x, n_x, g264, g265, g266, g267, g268, gw, ek, xWr, hnr, hnm, hr4, hm4, xM_x, nr, nm, nr', hc]
      · simp (decide := true) [f_Mo_advance_20, kind_x, xN, xV, f_Mo_result, g_up, r24_x, r20_x, r16_x, n_x, g264, g265, g266, g267, g268, gw, ek, xWr, hnr, hnm, hr4, hm4, xM_x, nr, nm, nr', hc]
      · simp (decide := true) [f_Mo_advance_20, kind_x, xN, xV, f_Mo_result, g_up, r24_x, r20_x, r16_x, n_x, g264, g265, g266, g267, g268, gw, ek, xWr, hnr, hnm, hr4, hm4, xM_x, nr, nm, nr', hc]
      · simp (decide := true) [f_Mo_advance_20, kind_x, xN, xV, f_Mo_result, g_up, r24_x, r20_x, r16_x, n_x, g264, g265, g266, g267, g268, gw, ek, xWr, hnr, hnm, hr4, hm4, xM_x, nr, nm, nr', hc]
      · simp (decide := true) [f_Mo_advance_20, kind_x, xN, xV, f_Mo_result, g_up, r24_x, r20_x, r16_x, n_x, g264, g265, g266, g267, g268, gw, ek, xWr, hnr, hnm, hr4, hm4, xM_x, nr, nm, nr', hc]
      · simp (decide := true) [f_Mo_advance_20, kind_x, xN, xV, f_Mo_result, g_up, r24_x, r20_x, r16_x, n_x, g264, g265, g266, g267, g268, gw, ek, xWr, hnr, hnm, hr4, hm4, xM_x, nr, nm, nr', hc]
      · intro a h3 h4
        funext b
        simp (decide := true) [f_Mo_advance_20, kind_x, xN, xV, f_Mo_result, g_up, r24_x, r20_x, r16_x, n_x, g264, g265, g266, g267, g268, gw, ek, xWr, hnr, hnm, hr4, hm4, xM_x, nr, nm, nr', hc, h3, h4]
      · intro b h3
        simp (decide := true) [f_Mo_advance_20, kind_x, xN, xV, f_Mo_result, g_up, r24_x, r20_x, r16_x, n_x, g264, g265, g266, g267, g268, gw, ek, xWr, hnr, hnm, hr4, hm4, xM_x, nr, nm, nr', hc, h3]
    · refine ⟨_, Prod.ext ?_ rfl, i_cases ?_ ?_ ?_ ?_ ?_ ?_, ?_, ?_, ?_⟩
      · simp (decide := true) [f_Mo_advance_20, kind_x, r24_x, g264, g265, gw, ek, hr4, hc]
      · intro i hi
        have n1 : ¬ i = 264 := by omega
        have n2 : ¬ i = 265 := by omega
        have n3 : ¬ i = 266 := by omega
        have n4 : ¬ i = 267 := by omega
        have n5 : ¬ i = 268 := by omega
        simp (decide := true) [f_Mo_advance_20, kind_x, xN, xV, f_Mo_result, g_up, r24_x, r20_x, r16_x, n_x, g264, g265, g266, g267, g268, gw, ek, xWr, hnr, hnm, hr4, hm4, xM_x, nr, nm, nr', hc, hi, gn i hi, n1, n2, n3, n4, n5]
      · simp (decide := true) [f_Mo_advance_20, kind_x, xN, xV, f_Mo_result, g_up, r24_x, r20_x, r16_x, n_x, g264, g265, g266, g267, g268, gw, ek, xWr, hnr, hnm, hr4, hm4, xM_x, nr, nm, nr', hc]
      · simp (decide := true) [f_Mo_advance_20, kind_x, xN, xV, f_Mo_result, g_up, r24_x, r20_x, r16_x, n_x, g264, g265, g266, g267, g268, gw, ek, xWr, hnr, hnm, hr4, hm4, xM_x, nr, nm, nr', hc]
      · simp (decide := true) [f_Mo_advance_20, kind_x, xN, xV, f_Mo_result, g_up, r24_x, r20_x, r16_x, n_x, g264, g265, g266, g267, g268, gw, ek, xWr, hnr, hnm, hr4, hm4, xM_x, nr, nm, nr', hc]
      · simp (decide := true) [f_Mo_advance_20, kind_x, xN, xV, f_Mo_result, g_up, r24_x, r20_x, r16_x, n_x, g264, g265, g266, g267, g268, gw, ek, xWr, hnr, hnm, hr4, hm4, xM_x, nr, nm, nr', hc]
      · simp (decide := true) [f_Mo_advance_20, kind_x, xN, xV, f_Mo_result, g_up, r24_x, r20_x, r16_x, n_x, g264, g265, g266, g267, g268, gw, ek, xWr, hnr, hnm, hr4, hm4, xM_x, nr, nm, nr', hc]
      · simp (decide := true) [f_Mo_advance_20, kind_x, xN, xV, f_Mo_result, g_up, r24_x, r20_x, r16_x, n_x, g264, g265, g266, g267, g268, gw, ek, xWr, hnr, hnm, hr4, hm4, xM_x, nr, nm, nr', hc]
      · intro a h3 h4
        funext b
        simp (decide := true) [f_Mo_advance_20, kind_x, xN, xV, f_Mo_result, g_up, r24_x, r20_x, r16_x, n_x, g264, g265, g266, g267, g268, gw, ek, xWr, hnr, hnm, hr4, hm4, xM_x, nr, nm, nr', hc, h3, h4]
      · intro b h3
        simp (decide := true) [f_Mo_advance_20, kind_x, xN, xV, f_Mo_result, g_up, r24_x, r20_x, r16_x, n_x, g264, g265, g266, g267, g268, gw, ek, xWr, hnr, hnm, hr4, hm4, xM_x, nr, nm, nr', hc, h3]
  · intro h
    exact absurd h.1 (by decide)

set_option maxHeartbeats 1000000 in
theorem mo_20_8 (G : gT) (x I : Nat → Int32) (av w : Int32) (hx : ∀ i, i < 269 → G 20 i = x i) (gw : G 17 (x 264).toNatClampNeg = w) (v1 : vp_in (x 264) 64) (v2 : x 265 < av → vp_in (x 265) 200) (gi : x 265 < av → G 18 (x 265).toNatClampNeg = I (x 265).toNatClampNeg) (ek : g_ush w 28 = 8) : ok_Mo_advance_20 G av ∧ (¬ ((8 : Int32) = 8 ∧ ¬ x 265 < av) → ∃ G', f_Mo_advance_20 G av = (1, G') ∧ (∀ i, i < 269 → G' 20 i = xN (8 : Int32) w I x i) ∧ G' 16 14 = xWr (8 : Int32) w x ∧ (∀ a, ¬ a = 16 → ¬ a = 20 → G' a = G a) ∧ ∀ b, ¬ b = 14 → G' 16 b = G 16 b) ∧ (((8 : Int32) = 8 ∧ ¬ x 265 < av) → f_Mo_advance_20 G av = (0, g_up G 16 14 (-1))) := by
  have g264 : G 20 264 = x 264 := hx 264 (by decide)
  have g265 : G 20 265 = x 265 := hx 265 (by decide)
  have g266 : G 20 266 = x 266 := hx 266 (by decide)
  have g267 : G 20 267 = x 267 := hx 267 (by decide)
  have gn : ∀ i, i < 264 → G 20 i = x i := fun i hi => hx i (by omega)
  have g268 : G 20 268 = x 268 := hx 268 (by decide)
  have hr4 : ∀ p, G 20 (xR w p).toNatClampNeg = x (xR w p).toNatClampNeg := fun p => hx _ (by have := xR_c w p; omega)
  have hm4 : G 20 (xM w x).toNatClampNeg = x (xM w x).toNatClampNeg := hx _ (by have := xM_c w x; omega)
  have vr : ∀ p, vp_in (xR w p) 269 := fun p => xR_v w p 269 (by decide) (by decide)
  have vm := xM_v w x 269 (by decide) (by decide)
  have hnr := xR_n w 24
  have hnm := xM_n w x
  have nr : ∀ j p, 264 ≤ j → ¬ j = (xR w p).toNatClampNeg := fun j p h => by have := xR_c w p; omega
  have nm : ∀ j, 264 ≤ j → ¬ j = (xM w x).toNatClampNeg := fun j h => by have := xM_c w x; omega
  have nr' : ∀ j p, 264 ≤ j → ¬ (xR w p).toNatClampNeg = j := fun j p h => by have := xR_c w p; omega
  refine ⟨?_, fun hnw => ?_, ?_⟩
  · simp (decide := true) [ok_Mo_advance_20, kind_x, r24_x, r20_x, r16_x, n_x, g264, g265, gw, ek, v1, hr4, hm4, vr, vm, xM_x]
    exact v2
  · have hlt : x 265 < av := Classical.byContradiction fun h => hnw ⟨rfl, h⟩
    refine ⟨_, Prod.ext ?_ rfl, i_cases ?_ ?_ ?_ ?_ ?_ ?_, ?_, ?_, ?_⟩
    · simp (decide := true) [f_Mo_advance_20, kind_x, r24_x, g264, g265, gw, ek, hlt]
    · intro i hi
      have n1 : ¬ i = 264 := by omega
      have n2 : ¬ i = 265 := by omega
      have n3 : ¬ i = 266 := by omega
      have n4 : ¬ i = 267 := by omega
      have n5 : ¬ i = 268 := by omega
      simp (decide := true) [f_Mo_advance_20, kind_x, xN, xV, f_Mo_result, g_up, r24_x, r20_x, r16_x, n_x, g264, g265, g266, g267, g268, gw, ek, xWr, hnr, hnm, hr4, hm4, xM_x, nr, nm, nr', hlt, gi hlt, hi, gn i hi, n1, n2, n3, n4, n5]
    · simp (decide := true) [f_Mo_advance_20, kind_x, xN, xV, f_Mo_result, g_up, r24_x, r20_x, r16_x, n_x, g264, g265, g266, g267, g268, gw, ek, xWr, hnr, hnm, hr4, hm4, xM_x, nr, nm, nr', hlt, gi hlt]
    · simp (decide := true) [f_Mo_advance_20, kind_x, xN, xV, f_Mo_result, g_up, r24_x, r20_x, r16_x, n_x, g264, g265, g266, g267, g268, gw, ek, xWr, hnr, hnm, hr4, hm4, xM_x, nr, nm, nr', hlt, gi hlt]
    · simp (decide := true) [f_Mo_advance_20, kind_x, xN, xV, f_Mo_result, g_up, r24_x, r20_x, r16_x, n_x, g264, g265, g266, g267, g268, gw, ek, xWr, hnr, hnm, hr4, hm4, xM_x, nr, nm, nr', hlt, gi hlt]
    · simp (decide := true) [f_Mo_advance_20, kind_x, xN, xV, f_Mo_result, g_up, r24_x, r20_x, r16_x, n_x, g264, g265, g266, g267, g268, gw, ek, xWr, hnr, hnm, hr4, hm4, xM_x, nr, nm, nr', hlt, gi hlt]
    · simp (decide := true) [f_Mo_advance_20, kind_x, xN, xV, f_Mo_result, g_up, r24_x, r20_x, r16_x, n_x, g264, g265, g266, g267, g268, gw, ek, xWr, hnr, hnm, hr4, hm4, xM_x, nr, nm, nr', hlt, gi hlt]
    · simp (decide := true) [f_Mo_advance_20, kind_x, xN, xV, f_Mo_result, g_up, r24_x, r20_x, r16_x, n_x, g264, g265, g266, g267, g268, gw, ek, xWr, hnr, hnm, hr4, hm4, xM_x, nr, nm, nr', hlt, gi hlt]
    · intro a h3 h4
      funext b
      simp (decide := true) [f_Mo_advance_20, kind_x, xN, xV, f_Mo_result, g_up, r24_x, r20_x, r16_x, n_x, g264, g265, g266, g267, g268, gw, ek, xWr, hnr, hnm, hr4, hm4, xM_x, nr, nm, nr', hlt, gi hlt, h3, h4]
    · intro b h3
      simp (decide := true) [f_Mo_advance_20, kind_x, xN, xV, f_Mo_result, g_up, r24_x, r20_x, r16_x, n_x, g264, g265, g266, g267, g268, gw, ek, xWr, hnr, hnm, hr4, hm4, xM_x, nr, nm, nr', hlt, gi hlt, h3]
  · intro h
    simp (decide := true) [f_Mo_advance_20, kind_x, g264, g265, gw, ek, h.2]

set_option maxHeartbeats 1000000 in
theorem mo_20_9 (G : gT) (x I : Nat → Int32) (av w : Int32) (hx : ∀ i, i < 269 → G 20 i = x i) (gw : G 17 (x 264).toNatClampNeg = w) (v1 : vp_in (x 264) 64) (v2 : x 265 < av → vp_in (x 265) 200) (gi : x 265 < av → G 18 (x 265).toNatClampNeg = I (x 265).toNatClampNeg) (ek : g_ush w 28 = 9) : ok_Mo_advance_20 G av ∧ (¬ ((9 : Int32) = 8 ∧ ¬ x 265 < av) → ∃ G', f_Mo_advance_20 G av = (1, G') ∧ (∀ i, i < 269 → G' 20 i = xN (9 : Int32) w I x i) ∧ G' 16 14 = xWr (9 : Int32) w x ∧ (∀ a, ¬ a = 16 → ¬ a = 20 → G' a = G a) ∧ ∀ b, ¬ b = 14 → G' 16 b = G 16 b) ∧ (((9 : Int32) = 8 ∧ ¬ x 265 < av) → f_Mo_advance_20 G av = (0, g_up G 16 14 (-1))) := by
  have g264 : G 20 264 = x 264 := hx 264 (by decide)
  have g265 : G 20 265 = x 265 := hx 265 (by decide)
  have g266 : G 20 266 = x 266 := hx 266 (by decide)
  have g267 : G 20 267 = x 267 := hx 267 (by decide)
  have gn : ∀ i, i < 264 → G 20 i = x i := fun i hi => hx i (by omega)
  have g268 : G 20 268 = x 268 := hx 268 (by decide)
  have hr4 : ∀ p, G 20 (xR w p).toNatClampNeg = x (xR w p).toNatClampNeg := fun p => hx _ (by have := xR_c w p; omega)
  have hm4 : G 20 (xM w x).toNatClampNeg = x (xM w x).toNatClampNeg := hx _ (by have := xM_c w x; omega)
  have vr : ∀ p, vp_in (xR w p) 269 := fun p => xR_v w p 269 (by decide) (by decide)
  have vm := xM_v w x 269 (by decide) (by decide)
  have hnr := xR_n w 24
  have hnm := xM_n w x
  have nr : ∀ j p, 264 ≤ j → ¬ j = (xR w p).toNatClampNeg := fun j p h => by have := xR_c w p; omega
  have nm : ∀ j, 264 ≤ j → ¬ j = (xM w x).toNatClampNeg := fun j h => by have := xM_c w x; omega
  have nr' : ∀ j p, 264 ≤ j → ¬ (xR w p).toNatClampNeg = j := fun j p h => by have := xR_c w p; omega
  refine ⟨?_, fun hnw => ?_, ?_⟩
  · simp (decide := true) [ok_Mo_advance_20, kind_x, r24_x, r20_x, r16_x, n_x, g264, g265, gw, ek, v1, hr4, hm4, vr, vm, xM_x]
  · refine ⟨_, Prod.ext ?_ rfl, i_cases ?_ ?_ ?_ ?_ ?_ ?_, ?_, ?_, ?_⟩
    · simp (decide := true) [f_Mo_advance_20, kind_x, r24_x, g264, g265, gw, ek]
    · intro i hi
      have n1 : ¬ i = 264 := by omega
      have n2 : ¬ i = 265 := by omega
      have n3 : ¬ i = 266 := by omega
      have n4 : ¬ i = 267 := by omega
      have n5 : ¬ i = 268 := by omega
      simp (decide := true) [f_Mo_advance_20, kind_x, xN, xV, f_Mo_result, g_up, r24_x, r20_x, r16_x, n_x, g264, g265, g266, g267, g268, gw, ek, xWr, hnr, hnm, hr4, hm4, xM_x, nr, nm, nr', hi, gn i hi, n1, n2, n3, n4, n5]
    · simp (decide := true) [f_Mo_advance_20, kind_x, xN, xV, f_Mo_result, g_up, r24_x, r20_x, r16_x, n_x, g264, g265, g266, g267, g268, gw, ek, xWr, hnr, hnm, hr4, hm4, xM_x, nr, nm, nr']
    · simp (decide := true) [f_Mo_advance_20, kind_x, xN, xV, f_Mo_result, g_up, r24_x, r20_x, r16_x, n_x, g264, g265, g266, g267, g268, gw, ek, xWr, hnr, hnm, hr4, hm4, xM_x, nr, nm, nr']
    · simp (decide := true) [f_Mo_advance_20, kind_x, xN, xV, f_Mo_result, g_up, r24_x, r20_x, r16_x, n_x, g264, g265, g266, g267, g268, gw, ek, xWr, hnr, hnm, hr4, hm4, xM_x, nr, nm, nr']
    · simp (decide := true) [f_Mo_advance_20, kind_x, xN, xV, f_Mo_result, g_up, r24_x, r20_x, r16_x, n_x, g264, g265, g266, g267, g268, gw, ek, xWr, hnr, hnm, hr4, hm4, xM_x, nr, nm, nr']
    · simp (decide := true) [f_Mo_advance_20, kind_x, xN, xV, f_Mo_result, g_up, r24_x, r20_x, r16_x, n_x, g264, g265, g266, g267, g268, gw, ek, xWr, hnr, hnm, hr4, hm4, xM_x, nr, nm, nr']
    · simp (decide := true) [f_Mo_advance_20, kind_x, xN, xV, f_Mo_result, g_up, r24_x, r20_x, r16_x, n_x, g264, g265, g266, g267, g268, gw, ek, xWr, hnr, hnm, hr4, hm4, xM_x, nr, nm, nr']
    · intro a h3 h4
      funext b
      simp (decide := true) [f_Mo_advance_20, kind_x, xN, xV, f_Mo_result, g_up, r24_x, r20_x, r16_x, n_x, g264, g265, g266, g267, g268, gw, ek, xWr, hnr, hnm, hr4, hm4, xM_x, nr, nm, nr', h3, h4]
    · intro b h3
      simp (decide := true) [f_Mo_advance_20, kind_x, xN, xV, f_Mo_result, g_up, r24_x, r20_x, r16_x, n_x, g264, g265, g266, g267, g268, gw, ek, xWr, hnr, hnm, hr4, hm4, xM_x, nr, nm, nr', h3]
  · intro h
    exact absurd h.1 (by decide)

set_option maxHeartbeats 1000000 in
theorem mo_20_10 (G : gT) (x I : Nat → Int32) (av w : Int32) (hx : ∀ i, i < 269 → G 20 i = x i) (gw : G 17 (x 264).toNatClampNeg = w) (v1 : vp_in (x 264) 64) (v2 : x 265 < av → vp_in (x 265) 200) (gi : x 265 < av → G 18 (x 265).toNatClampNeg = I (x 265).toNatClampNeg) (ek : g_ush w 28 = 10) : ok_Mo_advance_20 G av ∧ (¬ ((10 : Int32) = 8 ∧ ¬ x 265 < av) → ∃ G', f_Mo_advance_20 G av = (1, G') ∧ (∀ i, i < 269 → G' 20 i = xN (10 : Int32) w I x i) ∧ G' 16 14 = xWr (10 : Int32) w x ∧ (∀ a, ¬ a = 16 → ¬ a = 20 → G' a = G a) ∧ ∀ b, ¬ b = 14 → G' 16 b = G 16 b) ∧ (((10 : Int32) = 8 ∧ ¬ x 265 < av) → f_Mo_advance_20 G av = (0, g_up G 16 14 (-1))) := by
  have g264 : G 20 264 = x 264 := hx 264 (by decide)
  have g265 : G 20 265 = x 265 := hx 265 (by decide)
  have g266 : G 20 266 = x 266 := hx 266 (by decide)
  have g267 : G 20 267 = x 267 := hx 267 (by decide)
  have gn : ∀ i, i < 264 → G 20 i = x i := fun i hi => hx i (by omega)
  have g268 : G 20 268 = x 268 := hx 268 (by decide)
  have hr4 : ∀ p, G 20 (xR w p).toNatClampNeg = x (xR w p).toNatClampNeg := fun p => hx _ (by have := xR_c w p; omega)
  have hm4 : G 20 (xM w x).toNatClampNeg = x (xM w x).toNatClampNeg := hx _ (by have := xM_c w x; omega)
  have vr : ∀ p, vp_in (xR w p) 269 := fun p => xR_v w p 269 (by decide) (by decide)
  have vm := xM_v w x 269 (by decide) (by decide)
  have hnr := xR_n w 24
  have hnm := xM_n w x
  have nr : ∀ j p, 264 ≤ j → ¬ j = (xR w p).toNatClampNeg := fun j p h => by have := xR_c w p; omega
  have nm : ∀ j, 264 ≤ j → ¬ j = (xM w x).toNatClampNeg := fun j h => by have := xM_c w x; omega
  have nr' : ∀ j p, 264 ≤ j → ¬ (xR w p).toNatClampNeg = j := fun j p h => by have := xR_c w p; omega
  refine ⟨?_, fun hnw => ?_, ?_⟩
  · simp (decide := true) [ok_Mo_advance_20, kind_x, r24_x, r20_x, r16_x, n_x, g264, g265, gw, ek, v1, hr4, hm4, vr, vm, xM_x]
  · refine ⟨_, Prod.ext ?_ rfl, i_cases ?_ ?_ ?_ ?_ ?_ ?_, ?_, ?_, ?_⟩
    · simp (decide := true) [f_Mo_advance_20, kind_x, r24_x, g264, g265, gw, ek]
    · intro i hi
      have n1 : ¬ i = 264 := by omega
      have n2 : ¬ i = 265 := by omega
      have n3 : ¬ i = 266 := by omega
      have n4 : ¬ i = 267 := by omega
      have n5 : ¬ i = 268 := by omega
      simp (decide := true) [f_Mo_advance_20, kind_x, xN, xV, f_Mo_result, g_up, r24_x, r20_x, r16_x, n_x, g264, g265, g266, g267, g268, gw, ek, xWr, hnr, hnm, hr4, hm4, xM_x, nr, nm, nr', hi, gn i hi, n1, n2, n3, n4, n5]
    · simp (decide := true) [f_Mo_advance_20, kind_x, xN, xV, f_Mo_result, g_up, r24_x, r20_x, r16_x, n_x, g264, g265, g266, g267, g268, gw, ek, xWr, hnr, hnm, hr4, hm4, xM_x, nr, nm, nr']
    · simp (decide := true) [f_Mo_advance_20, kind_x, xN, xV, f_Mo_result, g_up, r24_x, r20_x, r16_x, n_x, g264, g265, g266, g267, g268, gw, ek, xWr, hnr, hnm, hr4, hm4, xM_x, nr, nm, nr']
    · simp (decide := true) [f_Mo_advance_20, kind_x, xN, xV, f_Mo_result, g_up, r24_x, r20_x, r16_x, n_x, g264, g265, g266, g267, g268, gw, ek, xWr, hnr, hnm, hr4, hm4, xM_x, nr, nm, nr']
    · simp (decide := true) [f_Mo_advance_20, kind_x, xN, xV, f_Mo_result, g_up, r24_x, r20_x, r16_x, n_x, g264, g265, g266, g267, g268, gw, ek, xWr, hnr, hnm, hr4, hm4, xM_x, nr, nm, nr']
    · simp (decide := true) [f_Mo_advance_20, kind_x, xN, xV, f_Mo_result, g_up, r24_x, r20_x, r16_x, n_x, g264, g265, g266, g267, g268, gw, ek, xWr, hnr, hnm, hr4, hm4, xM_x, nr, nm, nr']
    · simp (decide := true) [f_Mo_advance_20, kind_x, xN, xV, f_Mo_result, g_up, r24_x, r20_x, r16_x, n_x, g264, g265, g266, g267, g268, gw, ek, xWr, hnr, hnm, hr4, hm4, xM_x, nr, nm, nr']
    · intro a h3 h4
      funext b
      simp (decide := true) [f_Mo_advance_20, kind_x, xN, xV, f_Mo_result, g_up, r24_x, r20_x, r16_x, n_x, g264, g265, g266, g267, g268, gw, ek, xWr, hnr, hnm, hr4, hm4, xM_x, nr, nm, nr', h3, h4]
    · intro b h3
      simp (decide := true) [f_Mo_advance_20, kind_x, xN, xV, f_Mo_result, g_up, r24_x, r20_x, r16_x, n_x, g264, g265, g266, g267, g268, gw, ek, xWr, hnr, hnm, hr4, hm4, xM_x, nr, nm, nr', h3]
  · intro h
    exact absurd h.1 (by decide)

set_option maxHeartbeats 1000000 in
theorem mo_20_11 (G : gT) (x I : Nat → Int32) (av w : Int32) (hx : ∀ i, i < 269 → G 20 i = x i) (gw : G 17 (x 264).toNatClampNeg = w) (v1 : vp_in (x 264) 64) (v2 : x 265 < av → vp_in (x 265) 200) (gi : x 265 < av → G 18 (x 265).toNatClampNeg = I (x 265).toNatClampNeg) (ek : g_ush w 28 = 11) : ok_Mo_advance_20 G av ∧ (¬ ((11 : Int32) = 8 ∧ ¬ x 265 < av) → ∃ G', f_Mo_advance_20 G av = (1, G') ∧ (∀ i, i < 269 → G' 20 i = xN (11 : Int32) w I x i) ∧ G' 16 14 = xWr (11 : Int32) w x ∧ (∀ a, ¬ a = 16 → ¬ a = 20 → G' a = G a) ∧ ∀ b, ¬ b = 14 → G' 16 b = G 16 b) ∧ (((11 : Int32) = 8 ∧ ¬ x 265 < av) → f_Mo_advance_20 G av = (0, g_up G 16 14 (-1))) := by
  have g264 : G 20 264 = x 264 := hx 264 (by decide)
  have g265 : G 20 265 = x 265 := hx 265 (by decide)
  have g266 : G 20 266 = x 266 := hx 266 (by decide)
  have g267 : G 20 267 = x 267 := hx 267 (by decide)
  have gn : ∀ i, i < 264 → G 20 i = x i := fun i hi => hx i (by omega)
  have g268 : G 20 268 = x 268 := hx 268 (by decide)
  have hr4 : ∀ p, G 20 (xR w p).toNatClampNeg = x (xR w p).toNatClampNeg := fun p => hx _ (by have := xR_c w p; omega)
  have hm4 : G 20 (xM w x).toNatClampNeg = x (xM w x).toNatClampNeg := hx _ (by have := xM_c w x; omega)
  have vr : ∀ p, vp_in (xR w p) 269 := fun p => xR_v w p 269 (by decide) (by decide)
  have vm := xM_v w x 269 (by decide) (by decide)
  have hnr := xR_n w 24
  have hnm := xM_n w x
  have nr : ∀ j p, 264 ≤ j → ¬ j = (xR w p).toNatClampNeg := fun j p h => by have := xR_c w p; omega
  have nm : ∀ j, 264 ≤ j → ¬ j = (xM w x).toNatClampNeg := fun j h => by have := xM_c w x; omega
  have nr' : ∀ j p, 264 ≤ j → ¬ (xR w p).toNatClampNeg = j := fun j p h => by have := xR_c w p; omega
  refine ⟨?_, fun hnw => ?_, ?_⟩
  · simp (decide := true) [ok_Mo_advance_20, kind_x, r24_x, r20_x, r16_x, n_x, g264, g265, gw, ek, v1, hr4, hm4, vr, vm, xM_x]
  · refine ⟨_, Prod.ext ?_ rfl, i_cases ?_ ?_ ?_ ?_ ?_ ?_, ?_, ?_, ?_⟩
    · simp (decide := true) [f_Mo_advance_20, kind_x, r24_x, g264, g265, gw, ek]
    · intro i hi
      have n1 : ¬ i = 264 := by omega
      have n2 : ¬ i = 265 := by omega
      have n3 : ¬ i = 266 := by omega
      have n4 : ¬ i = 267 := by omega
      have n5 : ¬ i = 268 := by omega
      simp (decide := true) [f_Mo_advance_20, kind_x, xN, xV, f_Mo_result, g_up, r24_x, r20_x, r16_x, n_x, g264, g265, g266, g267, g268, gw, ek, xWr, hnr, hnm, hr4, hm4, xM_x, nr, nm, nr', hi, gn i hi, n1, n2, n3, n4, n5]
    · simp (decide := true) [f_Mo_advance_20, kind_x, xN, xV, f_Mo_result, g_up, r24_x, r20_x, r16_x, n_x, g264, g265, g266, g267, g268, gw, ek, xWr, hnr, hnm, hr4, hm4, xM_x, nr, nm, nr']
    · simp (decide := true) [f_Mo_advance_20, kind_x, xN, xV, f_Mo_result, g_up, r24_x, r20_x, r16_x, n_x, g264, g265, g266, g267, g268, gw, ek, xWr, hnr, hnm, hr4, hm4, xM_x, nr, nm, nr']
    · simp (decide := true) [f_Mo_advance_20, kind_x, xN, xV, f_Mo_result, g_up, r24_x, r20_x, r16_x, n_x, g264, g265, g266, g267, g268, gw, ek, xWr, hnr, hnm, hr4, hm4, xM_x, nr, nm, nr']
    · simp (decide := true) [f_Mo_advance_20, kind_x, xN, xV, f_Mo_result, g_up, r24_x, r20_x, r16_x, n_x, g264, g265, g266, g267, g268, gw, ek, xWr, hnr, hnm, hr4, hm4, xM_x, nr, nm, nr']
    · simp (decide := true) [f_Mo_advance_20, kind_x, xN, xV, f_Mo_result, g_up, r24_x, r20_x, r16_x, n_x, g264, g265, g266, g267, g268, gw, ek, xWr, hnr, hnm, hr4, hm4, xM_x, nr, nm, nr']
    · simp (decide := true) [f_Mo_advance_20, kind_x, xN, xV, f_Mo_result, g_up, r24_x, r20_x, r16_x, n_x, g264, g265, g266, g267, g268, gw, ek, xWr, hnr, hnm, hr4, hm4, xM_x, nr, nm, nr']
    · intro a h3 h4
      funext b
      simp (decide := true) [f_Mo_advance_20, kind_x, xN, xV, f_Mo_result, g_up, r24_x, r20_x, r16_x, n_x, g264, g265, g266, g267, g268, gw, ek, xWr, hnr, hnm, hr4, hm4, xM_x, nr, nm, nr', h3, h4]
    · intro b h3
      simp (decide := true) [f_Mo_advance_20, kind_x, xN, xV, f_Mo_result, g_up, r24_x, r20_x, r16_x, n_x, g264, g265, g266, g267, g268, gw, ek, xWr, hnr, hnm, hr4, hm4, xM_x, nr, nm, nr', h3]
  · intro h
    exact absurd h.1 (by decide)

set_option maxHeartbeats 1000000 in
theorem mo_20_12 (G : gT) (x I : Nat → Int32) (av w : Int32) (hx : ∀ i, i < 269 → G 20 i = x i) (gw : G 17 (x 264).toNatClampNeg = w) (v1 : vp_in (x 264) 64) (v2 : x 265 < av → vp_in (x 265) 200) (gi : x 265 < av → G 18 (x 265).toNatClampNeg = I (x 265).toNatClampNeg) (ek : g_ush w 28 = 12) : ok_Mo_advance_20 G av ∧ (¬ ((12 : Int32) = 8 ∧ ¬ x 265 < av) → ∃ G', f_Mo_advance_20 G av = (1, G') ∧ (∀ i, i < 269 → G' 20 i = xN (12 : Int32) w I x i) ∧ G' 16 14 = xWr (12 : Int32) w x ∧ (∀ a, ¬ a = 16 → ¬ a = 20 → G' a = G a) ∧ ∀ b, ¬ b = 14 → G' 16 b = G 16 b) ∧ (((12 : Int32) = 8 ∧ ¬ x 265 < av) → f_Mo_advance_20 G av = (0, g_up G 16 14 (-1))) := by
  have g264 : G 20 264 = x 264 := hx 264 (by decide)
  have g265 : G 20 265 = x 265 := hx 265 (by decide)
  have g266 : G 20 266 = x 266 := hx 266 (by decide)
  have g267 : G 20 267 = x 267 := hx 267 (by decide)
  have gn : ∀ i, i < 264 → G 20 i = x i := fun i hi => hx i (by omega)
  have g268 : G 20 268 = x 268 := hx 268 (by decide)
  have hr4 : ∀ p, G 20 (xR w p).toNatClampNeg = x (xR w p).toNatClampNeg := fun p => hx _ (by have := xR_c w p; omega)
  have hm4 : G 20 (xM w x).toNatClampNeg = x (xM w x).toNatClampNeg := hx _ (by have := xM_c w x; omega)
  have vr : ∀ p, vp_in (xR w p) 269 := fun p => xR_v w p 269 (by decide) (by decide)
  have vm := xM_v w x 269 (by decide) (by decide)
  have hnr := xR_n w 24
  have hnm := xM_n w x
  have nr : ∀ j p, 264 ≤ j → ¬ j = (xR w p).toNatClampNeg := fun j p h => by have := xR_c w p; omega
  have nm : ∀ j, 264 ≤ j → ¬ j = (xM w x).toNatClampNeg := fun j h => by have := xM_c w x; omega
  have nr' : ∀ j p, 264 ≤ j → ¬ (xR w p).toNatClampNeg = j := fun j p h => by have := xR_c w p; omega
  refine ⟨?_, fun hnw => ?_, ?_⟩
  · simp (decide := true) [ok_Mo_advance_20, kind_x, r24_x, r20_x, r16_x, n_x, g264, g265, gw, ek, v1, hr4, hm4, vr, vm, xM_x]
  · refine ⟨_, Prod.ext ?_ rfl, i_cases ?_ ?_ ?_ ?_ ?_ ?_, ?_, ?_, ?_⟩
    · simp (decide := true) [f_Mo_advance_20, kind_x, r24_x, g264, g265, gw, ek]
    · intro i hi
      have n1 : ¬ i = 264 := by omega
      have n2 : ¬ i = 265 := by omega
      have n3 : ¬ i = 266 := by omega
      have n4 : ¬ i = 267 := by omega
      have n5 : ¬ i = 268 := by omega
      simp (decide := true) [f_Mo_advance_20, kind_x, xN, xV, f_Mo_result, g_up, r24_x, r20_x, r16_x, n_x, g264, g265, g266, g267, g268, gw, ek, xWr, hnr, hnm, hr4, hm4, xM_x, nr, nm, nr', hi, gn i hi, n1, n2, n3, n4, n5]
    · simp (decide := true) [f_Mo_advance_20, kind_x, xN, xV, f_Mo_result, g_up, r24_x, r20_x, r16_x, n_x, g264, g265, g266, g267, g268, gw, ek, xWr, hnr, hnm, hr4, hm4, xM_x, nr, nm, nr']
    · simp (decide := true) [f_Mo_advance_20, kind_x, xN, xV, f_Mo_result, g_up, r24_x, r20_x, r16_x, n_x, g264, g265, g266, g267, g268, gw, ek, xWr, hnr, hnm, hr4, hm4, xM_x, nr, nm, nr']
    · simp (decide := true) [f_Mo_advance_20, kind_x, xN, xV, f_Mo_result, g_up, r24_x, r20_x, r16_x, n_x, g264, g265, g266, g267, g268, gw, ek, xWr, hnr, hnm, hr4, hm4, xM_x, nr, nm, nr']
    · simp (decide := true) [f_Mo_advance_20, kind_x, xN, xV, f_Mo_result, g_up, r24_x, r20_x, r16_x, n_x, g264, g265, g266, g267, g268, gw, ek, xWr, hnr, hnm, hr4, hm4, xM_x, nr, nm, nr']
    · simp (decide := true) [f_Mo_advance_20, kind_x, xN, xV, f_Mo_result, g_up, r24_x, r20_x, r16_x, n_x, g264, g265, g266, g267, g268, gw, ek, xWr, hnr, hnm, hr4, hm4, xM_x, nr, nm, nr']
    · simp (decide := true) [f_Mo_advance_20, kind_x, xN, xV, f_Mo_result, g_up, r24_x, r20_x, r16_x, n_x, g264, g265, g266, g267, g268, gw, ek, xWr, hnr, hnm, hr4, hm4, xM_x, nr, nm, nr']
    · intro a h3 h4
      funext b
      simp (decide := true) [f_Mo_advance_20, kind_x, xN, xV, f_Mo_result, g_up, r24_x, r20_x, r16_x, n_x, g264, g265, g266, g267, g268, gw, ek, xWr, hnr, hnm, hr4, hm4, xM_x, nr, nm, nr', h3, h4]
    · intro b h3
      simp (decide := true) [f_Mo_advance_20, kind_x, xN, xV, f_Mo_result, g_up, r24_x, r20_x, r16_x, n_x, g264, g265, g266, g267, g268, gw, ek, xWr, hnr, hnm, hr4, hm4, xM_x, nr, nm, nr', h3]
  · intro h
    exact absurd h.1 (by decide)

set_option maxHeartbeats 1000000 in
theorem mo_20_13 (G : gT) (x I : Nat → Int32) (av w : Int32) (hx : ∀ i, i < 269 → G 20 i = x i) (gw : G 17 (x 264).toNatClampNeg = w) (v1 : vp_in (x 264) 64) (v2 : x 265 < av → vp_in (x 265) 200) (gi : x 265 < av → G 18 (x 265).toNatClampNeg = I (x 265).toNatClampNeg) (ek : g_ush w 28 = 13) : ok_Mo_advance_20 G av ∧ (¬ ((13 : Int32) = 8 ∧ ¬ x 265 < av) → ∃ G', f_Mo_advance_20 G av = (1, G') ∧ (∀ i, i < 269 → G' 20 i = xN (13 : Int32) w I x i) ∧ G' 16 14 = xWr (13 : Int32) w x ∧ (∀ a, ¬ a = 16 → ¬ a = 20 → G' a = G a) ∧ ∀ b, ¬ b = 14 → G' 16 b = G 16 b) ∧ (((13 : Int32) = 8 ∧ ¬ x 265 < av) → f_Mo_advance_20 G av = (0, g_up G 16 14 (-1))) := by
  have g264 : G 20 264 = x 264 := hx 264 (by decide)
  have g265 : G 20 265 = x 265 := hx 265 (by decide)
  have g266 : G 20 266 = x 266 := hx 266 (by decide)
  have g267 : G 20 267 = x 267 := hx 267 (by decide)
  have gn : ∀ i, i < 264 → G 20 i = x i := fun i hi => hx i (by omega)
  have g268 : G 20 268 = x 268 := hx 268 (by decide)
  have hr4 : ∀ p, G 20 (xR w p).toNatClampNeg = x (xR w p).toNatClampNeg := fun p => hx _ (by have := xR_c w p; omega)
  have hm4 : G 20 (xM w x).toNatClampNeg = x (xM w x).toNatClampNeg := hx _ (by have := xM_c w x; omega)
  have vr : ∀ p, vp_in (xR w p) 269 := fun p => xR_v w p 269 (by decide) (by decide)
  have vm := xM_v w x 269 (by decide) (by decide)
  have hnr := xR_n w 24
  have hnm := xM_n w x
  have nr : ∀ j p, 264 ≤ j → ¬ j = (xR w p).toNatClampNeg := fun j p h => by have := xR_c w p; omega
  have nm : ∀ j, 264 ≤ j → ¬ j = (xM w x).toNatClampNeg := fun j h => by have := xM_c w x; omega
  have nr' : ∀ j p, 264 ≤ j → ¬ (xR w p).toNatClampNeg = j := fun j p h => by have := xR_c w p; omega
  refine ⟨?_, fun hnw => ?_, ?_⟩
  · simp (decide := true) [ok_Mo_advance_20, kind_x, r24_x, r20_x, r16_x, n_x, g264, g265, gw, ek, v1, hr4, hm4, vr, vm, xM_x]
  · refine ⟨_, Prod.ext ?_ rfl, i_cases ?_ ?_ ?_ ?_ ?_ ?_, ?_, ?_, ?_⟩
    · simp (decide := true) [f_Mo_advance_20, kind_x, r24_x, g264, g265, gw, ek]
    · intro i hi
      have n1 : ¬ i = 264 := by omega
      have n2 : ¬ i = 265 := by omega
      have n3 : ¬ i = 266 := by omega
      have n4 : ¬ i = 267 := by omega
      have n5 : ¬ i = 268 := by omega
      simp (decide := true) [f_Mo_advance_20, kind_x, xN, xV, f_Mo_result, g_up, r24_x, r20_x, r16_x, n_x, g264, g265, g266, g267, g268, gw, ek, xWr, hnr, hnm, hr4, hm4, xM_x, nr, nm, nr', hi, gn i hi, n1, n2, n3, n4, n5]
    · simp (decide := true) [f_Mo_advance_20, kind_x, xN, xV, f_Mo_result, g_up, r24_x, r20_x, r16_x, n_x, g264, g265, g266, g267, g268, gw, ek, xWr, hnr, hnm, hr4, hm4, xM_x, nr, nm, nr']
    · simp (decide := true) [f_Mo_advance_20, kind_x, xN, xV, f_Mo_result, g_up, r24_x, r20_x, r16_x, n_x, g264, g265, g266, g267, g268, gw, ek, xWr, hnr, hnm, hr4, hm4, xM_x, nr, nm, nr']
    · simp (decide := true) [f_Mo_advance_20, kind_x, xN, xV, f_Mo_result, g_up, r24_x, r20_x, r16_x, n_x, g264, g265, g266, g267, g268, gw, ek, xWr, hnr, hnm, hr4, hm4, xM_x, nr, nm, nr']
    · simp (decide := true) [f_Mo_advance_20, kind_x, xN, xV, f_Mo_result, g_up, r24_x, r20_x, r16_x, n_x, g264, g265, g266, g267, g268, gw, ek, xWr, hnr, hnm, hr4, hm4, xM_x, nr, nm, nr']
    · simp (decide := true) [f_Mo_advance_20, kind_x, xN, xV, f_Mo_result, g_up, r24_x, r20_x, r16_x, n_x, g264, g265, g266, g267, g268, gw, ek, xWr, hnr, hnm, hr4, hm4, xM_x, nr, nm, nr']
    · simp (decide := true) [f_Mo_advance_20, kind_x, xN, xV, f_Mo_result, g_up, r24_x, r20_x, r16_x, n_x, g264, g265, g266, g267, g268, gw, ek, xWr, hnr, hnm, hr4, hm4, xM_x, nr, nm, nr']
    · intro a h3 h4
      funext b
      simp (decide := true) [f_Mo_advance_20, kind_x, xN, xV, f_Mo_result, g_up, r24_x, r20_x, r16_x, n_x, g264, g265, g266, g267, g268, gw, ek, xWr, hnr, hnm, hr4, hm4, xM_x, nr, nm, nr', h3, h4]
    · intro b h3
      simp (decide := true) [f_Mo_advance_20, kind_x, xN, xV, f_Mo_result, g_up, r24_x, r20_x, r16_x, n_x, g264, g265, g266, g267, g268, gw, ek, xWr, hnr, hnm, hr4, hm4, xM_x, nr, nm, nr', h3]
  · intro h
    exact absurd h.1 (by decide)

set_option maxHeartbeats 1000000 in
theorem mo_20_14 (G : gT) (x I : Nat → Int32) (av w : Int32) (hx : ∀ i, i < 269 → G 20 i = x i) (gw : G 17 (x 264).toNatClampNeg = w) (v1 : vp_in (x 264) 64) (v2 : x 265 < av → vp_in (x 265) 200) (gi : x 265 < av → G 18 (x 265).toNatClampNeg = I (x 265).toNatClampNeg) (ek : g_ush w 28 = 14) : ok_Mo_advance_20 G av ∧ (¬ ((14 : Int32) = 8 ∧ ¬ x 265 < av) → ∃ G', f_Mo_advance_20 G av = (1, G') ∧ (∀ i, i < 269 → G' 20 i = xN (14 : Int32) w I x i) ∧ G' 16 14 = xWr (14 : Int32) w x ∧ (∀ a, ¬ a = 16 → ¬ a = 20 → G' a = G a) ∧ ∀ b, ¬ b = 14 → G' 16 b = G 16 b) ∧ (((14 : Int32) = 8 ∧ ¬ x 265 < av) → f_Mo_advance_20 G av = (0, g_up G 16 14 (-1))) := by
  have g264 : G 20 264 = x 264 := hx 264 (by decide)
  have g265 : G 20 265 = x 265 := hx 265 (by decide)
  have g266 : G 20 266 = x 266 := hx 266 (by decide)
  have g267 : G 20 267 = x 267 := hx 267 (by decide)
  have gn : ∀ i, i < 264 → G 20 i = x i := fun i hi => hx i (by omega)
  have g268 : G 20 268 = x 268 := hx 268 (by decide)
  have hr4 : ∀ p, G 20 (xR w p).toNatClampNeg = x (xR w p).toNatClampNeg := fun p => hx _ (by have := xR_c w p; omega)
  have hm4 : G 20 (xM w x).toNatClampNeg = x (xM w x).toNatClampNeg := hx _ (by have := xM_c w x; omega)
  have vr : ∀ p, vp_in (xR w p) 269 := fun p => xR_v w p 269 (by decide) (by decide)
  have vm := xM_v w x 269 (by decide) (by decide)
  have hnr := xR_n w 24
  have hnm := xM_n w x
  have nr : ∀ j p, 264 ≤ j → ¬ j = (xR w p).toNatClampNeg := fun j p h => by have := xR_c w p; omega
  have nm : ∀ j, 264 ≤ j → ¬ j = (xM w x).toNatClampNeg := fun j h => by have := xM_c w x; omega
  have nr' : ∀ j p, 264 ≤ j → ¬ (xR w p).toNatClampNeg = j := fun j p h => by have := xR_c w p; omega
  refine ⟨?_, fun hnw => ?_, ?_⟩
  · simp (decide := true) [ok_Mo_advance_20, kind_x, r24_x, r20_x, r16_x, n_x, g264, g265, gw, ek, v1, hr4, hm4, vr, vm, xM_x]
  · refine ⟨_, Prod.ext ?_ rfl, i_cases ?_ ?_ ?_ ?_ ?_ ?_, ?_, ?_, ?_⟩
    · simp (decide := true) [f_Mo_advance_20, kind_x, r24_x, g264, g265, gw, ek]
    · intro i hi
      have n1 : ¬ i = 264 := by omega
      have n2 : ¬ i = 265 := by omega
      have n3 : ¬ i = 266 := by omega
      have n4 : ¬ i = 267 := by omega
      have n5 : ¬ i = 268 := by omega
      simp (decide := true) [f_Mo_advance_20, kind_x, xN, xV, f_Mo_result, g_up, r24_x, r20_x, r16_x, n_x, g264, g265, g266, g267, g268, gw, ek, xWr, hnr, hnm, hr4, hm4, xM_x, nr, nm, nr', hi, gn i hi, n1, n2, n3, n4, n5]
    · simp (decide := true) [f_Mo_advance_20, kind_x, xN, xV, f_Mo_result, g_up, r24_x, r20_x, r16_x, n_x, g264, g265, g266, g267, g268, gw, ek, xWr, hnr, hnm, hr4, hm4, xM_x, nr, nm, nr']
    · simp (decide := true) [f_Mo_advance_20, kind_x, xN, xV, f_Mo_result, g_up, r24_x, r20_x, r16_x, n_x, g264, g265, g266, g267, g268, gw, ek, xWr, hnr, hnm, hr4, hm4, xM_x, nr, nm, nr']
    · simp (decide := true) [f_Mo_advance_20, kind_x, xN, xV, f_Mo_result, g_up, r24_x, r20_x, r16_x, n_x, g264, g265, g266, g267, g268, gw, ek, xWr, hnr, hnm, hr4, hm4, xM_x, nr, nm, nr']
    · simp (decide := true) [f_Mo_advance_20, kind_x, xN, xV, f_Mo_result, g_up, r24_x, r20_x, r16_x, n_x, g264, g265, g266, g267, g268, gw, ek, xWr, hnr, hnm, hr4, hm4, xM_x, nr, nm, nr']
    · simp (decide := true) [f_Mo_advance_20, kind_x, xN, xV, f_Mo_result, g_up, r24_x, r20_x, r16_x, n_x, g264, g265, g266, g267, g268, gw, ek, xWr, hnr, hnm, hr4, hm4, xM_x, nr, nm, nr']
    · simp (decide := true) [f_Mo_advance_20, kind_x, xN, xV, f_Mo_result, g_up, r24_x, r20_x, r16_x, n_x, g264, g265, g266, g267, g268, gw, ek, xWr, hnr, hnm, hr4, hm4, xM_x, nr, nm, nr']
    · intro a h3 h4
      funext b
      simp (decide := true) [f_Mo_advance_20, kind_x, xN, xV, f_Mo_result, g_up, r24_x, r20_x, r16_x, n_x, g264, g265, g266, g267, g268, gw, ek, xWr, hnr, hnm, hr4, hm4, xM_x, nr, nm, nr', h3, h4]
    · intro b h3
      simp (decide := true) [f_Mo_advance_20, kind_x, xN, xV, f_Mo_result, g_up, r24_x, r20_x, r16_x, n_x, g264, g265, g266, g267, g268, gw, ek, xWr, hnr, hnm, hr4, hm4, xM_x, nr, nm, nr', h3]
  · intro h
    exact absurd h.1 (by decide)

set_option maxHeartbeats 1000000 in
theorem mo_20_15 (G : gT) (x I : Nat → Int32) (av w : Int32) (hx : ∀ i, i < 269 → G 20 i = x i) (gw : G 17 (x 264).toNatClampNeg = w) (v1 : vp_in (x 264) 64) (v2 : x 265 < av → vp_in (x 265) 200) (gi : x 265 < av → G 18 (x 265).toNatClampNeg = I (x 265).toNatClampNeg) (ek : g_ush w 28 = 15) : ok_Mo_advance_20 G av ∧ (¬ ((15 : Int32) = 8 ∧ ¬ x 265 < av) → ∃ G', f_Mo_advance_20 G av = (1, G') ∧ (∀ i, i < 269 → G' 20 i = xN (15 : Int32) w I x i) ∧ G' 16 14 = xWr (15 : Int32) w x ∧ (∀ a, ¬ a = 16 → ¬ a = 20 → G' a = G a) ∧ ∀ b, ¬ b = 14 → G' 16 b = G 16 b) ∧ (((15 : Int32) = 8 ∧ ¬ x 265 < av) → f_Mo_advance_20 G av = (0, g_up G 16 14 (-1))) := by
  have g264 : G 20 264 = x 264 := hx 264 (by decide)
  have g265 : G 20 265 = x 265 := hx 265 (by decide)
  have g266 : G 20 266 = x 266 := hx 266 (by decide)
  have g267 : G 20 267 = x 267 := hx 267 (by decide)
  have gn : ∀ i, i < 264 → G 20 i = x i := fun i hi => hx i (by omega)
  have g268 : G 20 268 = x 268 := hx 268 (by decide)
  have hr4 : ∀ p, G 20 (xR w p).toNatClampNeg = x (xR w p).toNatClampNeg := fun p => hx _ (by have := xR_c w p; omega)
  have hm4 : G 20 (xM w x).toNatClampNeg = x (xM w x).toNatClampNeg := hx _ (by have := xM_c w x; omega)
  have vr : ∀ p, vp_in (xR w p) 269 := fun p => xR_v w p 269 (by decide) (by decide)
  have vm := xM_v w x 269 (by decide) (by decide)
  have hnr := xR_n w 24
  have hnm := xM_n w x
  have nr : ∀ j p, 264 ≤ j → ¬ j = (xR w p).toNatClampNeg := fun j p h => by have := xR_c w p; omega
  have nm : ∀ j, 264 ≤ j → ¬ j = (xM w x).toNatClampNeg := fun j h => by have := xM_c w x; omega
  have nr' : ∀ j p, 264 ≤ j → ¬ (xR w p).toNatClampNeg = j := fun j p h => by have := xR_c w p; omega
  refine ⟨?_, fun hnw => ?_, ?_⟩
  · simp (decide := true) [ok_Mo_advance_20, kind_x, r24_x, r20_x, r16_x, n_x, g264, g265, gw, ek, v1, hr4, hm4, vr, vm, xM_x]
  · refine ⟨_, Prod.ext ?_ rfl, i_cases ?_ ?_ ?_ ?_ ?_ ?_, ?_, ?_, ?_⟩
    · simp (decide := true) [f_Mo_advance_20, kind_x, r24_x, g264, g265, gw, ek]
    · intro i hi
      have n1 : ¬ i = 264 := by omega
      have n2 : ¬ i = 265 := by omega
      have n3 : ¬ i = 266 := by omega
      have n4 : ¬ i = 267 := by omega
      have n5 : ¬ i = 268 := by omega
      simp (decide := true) [f_Mo_advance_20, kind_x, xN, xV, f_Mo_result, g_up, r24_x, r20_x, r16_x, n_x, g264, g265, g266, g267, g268, gw, ek, xWr, hnr, hnm, hr4, hm4, xM_x, nr, nm, nr', hi, gn i hi, n1, n2, n3, n4, n5]
    · simp (decide := true) [f_Mo_advance_20, kind_x, xN, xV, f_Mo_result, g_up, r24_x, r20_x, r16_x, n_x, g264, g265, g266, g267, g268, gw, ek, xWr, hnr, hnm, hr4, hm4, xM_x, nr, nm, nr']
    · simp (decide := true) [f_Mo_advance_20, kind_x, xN, xV, f_Mo_result, g_up, r24_x, r20_x, r16_x, n_x, g264, g265, g266, g267, g268, gw, ek, xWr, hnr, hnm, hr4, hm4, xM_x, nr, nm, nr']
    · simp (decide := true) [f_Mo_advance_20, kind_x, xN, xV, f_Mo_result, g_up, r24_x, r20_x, r16_x, n_x, g264, g265, g266, g267, g268, gw, ek, xWr, hnr, hnm, hr4, hm4, xM_x, nr, nm, nr']
    · simp (decide := true) [f_Mo_advance_20, kind_x, xN, xV, f_Mo_result, g_up, r24_x, r20_x, r16_x, n_x, g264, g265, g266, g267, g268, gw, ek, xWr, hnr, hnm, hr4, hm4, xM_x, nr, nm, nr']
    · simp (decide := true) [f_Mo_advance_20, kind_x, xN, xV, f_Mo_result, g_up, r24_x, r20_x, r16_x, n_x, g264, g265, g266, g267, g268, gw, ek, xWr, hnr, hnm, hr4, hm4, xM_x, nr, nm, nr']
    · simp (decide := true) [f_Mo_advance_20, kind_x, xN, xV, f_Mo_result, g_up, r24_x, r20_x, r16_x, n_x, g264, g265, g266, g267, g268, gw, ek, xWr, hnr, hnm, hr4, hm4, xM_x, nr, nm, nr']
    · intro a h3 h4
      funext b
      simp (decide := true) [f_Mo_advance_20, kind_x, xN, xV, f_Mo_result, g_up, r24_x, r20_x, r16_x, n_x, g264, g265, g266, g267, g268, gw, ek, xWr, hnr, hnm, hr4, hm4, xM_x, nr, nm, nr', h3, h4]
    · intro b h3
      simp (decide := true) [f_Mo_advance_20, kind_x, xN, xV, f_Mo_result, g_up, r24_x, r20_x, r16_x, n_x, g264, g265, g266, g267, g268, gw, ek, xWr, hnr, hnm, hr4, hm4, xM_x, nr, nm, nr', h3]
  · intro h
    exact absurd h.1 (by decide)

set_option maxHeartbeats 4000000 in
theorem mo_20 (G : gT) (x P I : Nat → Int32) (av w : Int32) (hx : ∀ i, i < 269 → G 20 i = x i) (hP : ∀ j, j < 64 → G 17 j = P j) (hI : ∀ j, j < 200 → G 18 j = I j) (hp : ∃ k, k < 64 ∧ x 264 = nI k) (ht : ∃ k, k ≤ 200 ∧ x 265 = nI k) (ha : ∃ a, a ≤ 200 ∧ av = nI a) (hw : P (x 264).toNatClampNeg = w) :
    ok_Mo_advance_20 G av ∧ (¬ ((g_ush w 28) = 8 ∧ ¬ x 265 < av) → ∃ G', f_Mo_advance_20 G av = (1, G') ∧ (∀ i, i < 269 → G' 20 i = xN (g_ush w 28) w I x i) ∧ G' 16 14 = xWr (g_ush w 28) w x ∧ (∀ a, ¬ a = 16 → ¬ a = 20 → G' a = G a) ∧ ∀ b, ¬ b = 14 → G' 16 b = G 16 b) ∧ (((g_ush w 28) = 8 ∧ ¬ x 265 < av) → f_Mo_advance_20 G av = (0, g_up G 16 14 (-1))) := by
  obtain ⟨pk, hpk, ep⟩ := hp
  obtain ⟨tk, htk, et⟩ := ht
  obtain ⟨ak, hak, ea⟩ := ha
  have gw : G 17 (x 264).toNatClampNeg = w := by rw [← hw]; exact hP _ (by rw [ep, nI_clamp (by omega)]; exact hpk)
  have v1 : vp_in (x 264) 64 := by rw [ep]; exact vp_in_nI hpk (by decide)
  have v2 : x 265 < av → vp_in (x 265) 200 := fun h => by
    rw [et, ea] at h
    rw [et]; exact vp_in_nI (by have := (nI_ltI (by omega) (by omega)).mp h; omega) (by decide)
  have gi : x 265 < av → G 18 (x 265).toNatClampNeg = I (x 265).toNatClampNeg := fun h => hI _ (by
    rw [et, ea] at h
    have := (nI_ltI (by omega) (by omega)).mp h
    rw [et, nI_clamp (by omega)]; omega)
  refine k_cases (p := fun k => ok_Mo_advance_20 G av ∧ (¬ (k = 8 ∧ ¬ x 265 < av) → ∃ G', f_Mo_advance_20 G av = (1, G') ∧ (∀ i, i < 269 → G' 20 i = xN k w I x i) ∧ G' 16 14 = xWr k w x ∧ (∀ a, ¬ a = 16 → ¬ a = 20 → G' a = G a) ∧ ∀ b, ¬ b = 14 → G' 16 b = G 16 b) ∧ ((k = 8 ∧ ¬ x 265 < av) → f_Mo_advance_20 G av = (0, g_up G 16 14 (-1)))) w (fun k hk ek => ?_)
  rcases (show k = 0 ∨ k = 1 ∨ k = 2 ∨ k = 3 ∨ k = 4 ∨ k = 5 ∨ k = 6 ∨ k = 7 ∨ k = 8 ∨ k = 9 ∨ k = 10 ∨ k = 11 ∨ k = 12 ∨ k = 13 ∨ k = 14 ∨ k = 15 by omega) with rfl | rfl | rfl | rfl | rfl | rfl | rfl | rfl | rfl | rfl | rfl | rfl | rfl | rfl | rfl | rfl
  · exact mo_20_0 G x I av w hx gw v1 v2 gi ek
  · exact mo_20_1 G x I av w hx gw v1 v2 gi ek
  · exact mo_20_2 G x I av w hx gw v1 v2 gi ek
  · exact mo_20_3 G x I av w hx gw v1 v2 gi ek
  · exact mo_20_4 G x I av w hx gw v1 v2 gi ek
  · exact mo_20_5 G x I av w hx gw v1 v2 gi ek
  · exact mo_20_6 G x I av w hx gw v1 v2 gi ek
  · exact mo_20_7 G x I av w hx gw v1 v2 gi ek
  · exact mo_20_8 G x I av w hx gw v1 v2 gi ek
  · exact mo_20_9 G x I av w hx gw v1 v2 gi ek
  · exact mo_20_10 G x I av w hx gw v1 v2 gi ek
  · exact mo_20_11 G x I av w hx gw v1 v2 gi ek
  · exact mo_20_12 G x I av w hx gw v1 v2 gi ek
  · exact mo_20_13 G x I av w hx gw v1 v2 gi ek
  · exact mo_20_14 G x I av w hx gw v1 v2 gi ek
  · exact mo_20_15 G x I av w hx gw v1 v2 gi ek

