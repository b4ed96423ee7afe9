abbrev rm_Mo_advance_20 : Room := { frames := 1, cells := 0, slots := 0, locals := 15 }
def f_Mo_advance_20 (G : gT) (p2 : Int32) : Int32 × gT := (if (f_Mo_kindOf G (G 17 ((G 20 264).toNatClampNeg))) = 8 then (if (G 20 265) < p2 then (if (f_Mo_kindOf G (G 17 ((G 20 264).toNatClampNeg))) = 0 then (if (f_Mo_kindOf G (G 17 ((G 20 264).toNatClampNeg))) = 0 then (1, (g_up (g_up G 16 14 (-1)) 20 268 1)) else (1, (g_up (g_up G 16 14 (-1)) 20 268 2))) else (if (f_Mo_kindOf G (G 17 ((G 20 264).toNatClampNeg))) ≤ 12 then (if (f_Mo_kindOf G (G 17 ((G 20 264).toNatClampNeg))) = 7 then (if (G 20 ((((G 17 ((G 20 264).toNatClampNeg)) >>> ((24 : Int32) &&& 31)) &&& (7 : Int32)).toNatClampNeg)) = 0 then (1, (g_up (g_up G 16 14 (-1)) 20 264 (((G 20 264) + (1 : Int32)) &&& (63 : Int32)))) else (1, (g_up (g_up G 16 14 (-1)) 20 264 (((G 20 264) + (((G 17 ((G 20 264).toNatClampNeg)) <<< ((16 : Int32) &&& 31)) >>> ((16 : Int32) &&& 31))) &&& (63 : Int32))))) else (if (f_Mo_kindOf G (G 17 ((G 20 264).toNatClampNeg))) = 9 then (1, (g_up (g_up (g_up (g_up G 16 14 (-1)) 20 266 ((G 20 266) + (1 : Int32))) 20 267 (((31 : Int32) * (G 20 267)) + ((g_up (g_up G 16 14 (-1)) 20 266 ((G 20 266) + (1 : Int32))) 20 ((((G 17 ((G 20 264).toNatClampNeg)) >>> ((24 : Int32) &&& 31)) &&& (7 : Int32)).toNatClampNeg)))) 20 264 (((G 20 264) + (1 : Int32)) &&& (63 : Int32)))) else (if (f_Mo_kindOf G (G 17 ((G 20 264).toNatClampNeg))) = 6 then (1, (g_up (g_up (g_up (g_up G 16 14 (-1)) 16 14 ((8 : Int32) + (((G 20 ((((G 17 ((G 20 264).toNatClampNeg)) >>> ((20 : Int32) &&& 31)) &&& (7 : Int32)).toNatClampNeg)) + (((G 17 ((G 20 264).toNatClampNeg)) <<< ((16 : Int32) &&& 31)) >>> ((16 : Int32) &&& 31))) &&& (255 : Int32)))) 20 (((8 : Int32) + (((G 20 ((((G 17 ((G 20 264).toNatClampNeg)) >>> ((20 : Int32) &&& 31)) &&& (7 : Int32)).toNatClampNeg)) + (((G 17 ((G 20 264).toNatClampNeg)) <<< ((16 : Int32) &&& 31)) >>> ((16 : Int32) &&& 31))) &&& (255 : Int32))).toNatClampNeg) (G 20 ((((G 17 ((G 20 264).toNatClampNeg)) >>> ((24 : Int32) &&& 31)) &&& (7 : Int32)).toNatClampNeg))) 20 264 (((G 20 264) + (1 : Int32)) &&& (63 : Int32)))) else (if (f_Mo_kindOf G (G 17 ((G 20 264).toNatClampNeg))) = 5 then (if (f_Mo_kindOf G (G 17 ((G 20 264).toNatClampNeg))) = 8 then (1, (g_up (g_up (g_up (g_up (g_up G 16 14 (-1)) 20 265 ((G 20 265) + (1 : Int32))) 20 ((((G 17 ((G 20 264).toNatClampNeg)) >>> ((24 : Int32) &&& 31)) &&& (7 : Int32)).toNatClampNeg) (G 20 (((8 : Int32) + (((G 20 ((((G 17 ((G 20 264).toNatClampNeg)) >>> ((20 : Int32) &&& 31)) &&& (7 : Int32)).toNatClampNeg)) + (((G 17 ((G 20 264).toNatClampNeg)) <<< ((16 : Int32) &&& 31)) >>> ((16 : Int32) &&& 31))) &&& (255 : Int32))).toNatClampNeg))) 16 14 (((G 17 ((G 20 264).toNatClampNeg)) >>> ((24 : Int32) &&& 31)) &&& (7 : Int32))) 20 264 (((G 20 264) + (1 : Int32)) &&& (63 : Int32)))) else (1, (g_up (g_up (g_up (g_up (g_up G 16 14 (-1)) 20 265 ((G 20 265) + (0 : Int32))) 20 ((((G 17 ((G 20 264).toNatClampNeg)) >>> ((24 : Int32) &&& 31)) &&& (7 : Int32)).toNatClampNeg) (G 20 (((8 : Int32) + (((G 20 ((((G 17 ((G 20 264).toNatClampNeg)) >>> ((20 : Int32) &&& 31)) &&& (7 : Int32)).toNatClampNeg)) + (((G 17 ((G 20 264).toNatClampNeg)) <<< ((16 : Int32) &&& 31)) >>> ((16 : Int32) &&& 31))) &&& (255 : Int32))).toNatClampNeg))) 16 14 (((G 17 ((G 20 264).toNatClampNeg)) >>> ((24 : Int32) &&& 31)) &&& (7 : Int32))) 20 264 (((G 20 264) + (1 : Int32)) &&& (63 : Int32))))) else (if (f_Mo_kindOf G (G 17 ((G 20 264).toNatClampNeg))) = 8 then (if (f_Mo_kindOf G (G 17 ((G 20 264).toNatClampNeg))) = 8 then (1, (g_up (g_up (g_up (g_up (g_up G 16 14 (-1)) 20 265 ((G 20 265) + (1 : Int32))) 20 ((((G 17 ((G 20 264).toNatClampNeg)) >>> ((24 : Int32) &&& 31)) &&& (7 : Int32)).toNatClampNeg) (G 18 ((G 20 265).toNatClampNeg))) 16 14 (((G 17 ((G 20 264).toNatClampNeg)) >>> ((24 : Int32) &&& 31)) &&& (7 : Int32))) 20 264 (((G 20 264) + (1 : Int32)) &&& (63 : Int32)))) else (1, (g_up (g_up (g_up (g_up (g_up G 16 14 (-1)) 20 265 ((G 20 265) + (0 : Int32))) 20 ((((G 17 ((G 20 264).toNatClampNeg)) >>> ((24 : Int32) &&& 31)) &&& (7 : Int32)).toNatClampNeg) (G 18 ((G 20 265).toNatClampNeg))) 16 14 (((G 17 ((G 20 264).toNatClampNeg)) >>> ((24 : Int32) &&& 31)) &&& (7 : Int32))) 20 264 (((G 20 264) + (1 : Int32)) &&& (63 : Int32))))) else (if (f_Mo_kindOf G (G 17 ((G 20 264).toNatClampNeg))) = 8 then (1, (g_up (g_up (g_up (g_up (g_up G 16 14 (-1)) 20 265 ((G 20 265) + (1 : Int32))) 20 ((((G 17 ((G 20 264).toNatClampNeg)) >>> ((24 : Int32) &&& 31)) &&& (7 : Int32)).toNatClampNeg) (f_Mo_result (g_up G 16 14 (-1)) (f_Mo_kindOf G (G 17 ((G 20 264).toNatClampNeg))) (G 20 ((((G 17 ((G 20 264).toNatClampNeg)) >>> ((20 : Int32) &&& 31)) &&& (7 : Int32)).toNatClampNeg)) (G 20 ((((G 17 ((G 20 264).toNatClampNeg)) >>> ((16 : Int32) &&& 31)) &&& (7 : Int32)).toNatClampNeg)) (((G 17 ((G 20 264).toNatClampNeg)) <<< ((16 : Int32) &&& 31)) >>> ((16 : Int32) &&& 31)))) 16 14 (((G 17 ((G 20 264).toNatClampNeg)) >>> ((24 : Int32) &&& 31)) &&& (7 : Int32))) 20 264 (((G 20 264) + (1 : Int32)) &&& (63 : Int32)))) else (1, (g_up (g_up (g_up (g_up (g_up G 16 14 (-1)) 20 265 ((G 20 265) + (0 : Int32))) 20 ((((G 17 ((G 20 264).toNatClampNeg)) >>> ((24 : Int32) &&& 31)) &&& (7 : Int32)).toNatClampNeg) (f_Mo_result (g_up G 16 14 (-1)) (f_Mo_kindOf G (G 17 ((G 20 264).toNatClampNeg))) (G 20 ((((G 17 ((G 20 264).toNatClampNeg)) >>> ((20 : Int32) &&& 31)) &&& (7 : Int32)).toNatClampNeg)) (G 20 ((((G 17 ((G 20 264).toNatClampNeg)) >>> ((16 : Int32) &&& 31)) &&& (7 : Int32)).toNatClampNeg)) (((G 17 ((G 20 264).toNatClampNeg)) <<< ((16 : Int32) &&& 31)) >>> ((16 : Int32) &&& 31)))) 16 14 (((G 17 ((G 20 264).toNatClampNeg)) >>> ((24 : Int32) &&& 31)) &&& (7 : Int32))) 20 264 (((G 20 264) + (1 : Int32)) &&& (63 : Int32)))))))))) else (if (f_Mo_kindOf G (G 17 ((G 20 264).toNatClampNeg))) = 0 then (1, (g_up (g_up G 16 14 (-1)) 20 268 1)) else (1, (g_up (g_up G 16 14 (-1)) 20 268 2))))) else (0, (g_up G 16 14 (-1)))) else (if (f_Mo_kindOf G (G 17 ((G 20 264).toNatClampNeg))) = 0 then (if (f_Mo_kindOf G (G 17 ((G 20 264).toNatClampNeg))) = 0 then (1, (g_up (g_up G 16 14 (-1)) 20 268 1)) else (1, (g_up (g_up G 16 14 (-1)) 20 268 2))) else (if (f_Mo_kindOf G (G 17 ((G 20 264).toNatClampNeg))) ≤ 12 then (if (f_Mo_kindOf G (G 17 ((G 20 264).toNatClampNeg))) = 7 then (if (G 20 ((((G 17 ((G 20 264).toNatClampNeg)) >>> ((24 : Int32) &&& 31)) &&& (7 : Int32)).toNatClampNeg)) = 0 then (1, (g_up (g_up G 16 14 (-1)) 20 264 (((G 20 264) + (1 : Int32)) &&& (63 : Int32)))) else (1, (g_up (g_up G 16 14 (-1)) 20 264 (((G 20 264) + (((G 17 ((G 20 264).toNatClampNeg)) <<< ((16 : Int32) &&& 31)) >>> ((16 : Int32) &&& 31))) &&& (63 : Int32))))) else (if (f_Mo_kindOf G (G 17 ((G 20 264).toNatClampNeg))) = 9 then (1, (g_up (g_up (g_up (g_up G 16 14 (-1)) 20 266 ((G 20 266) + (1 : Int32))) 20 267 (((31 : Int32) * (G 20 267)) + ((g_up (g_up G 16 14 (-1)) 20 266 ((G 20 266) + (1 : Int32))) 20 ((((G 17 ((G 20 264).toNatClampNeg)) >>> ((24 : Int32) &&& 31)) &&& (7 : Int32)).toNatClampNeg)))) 20 264 (((G 20 264) + (1 : Int32)) &&& (63 : Int32)))) else (if (f_Mo_kindOf G (G 17 ((G 20 264).toNatClampNeg))) = 6 then (1, (g_up (g_up (g_up (g_up G 16 14 (-1)) 16 14 ((8 : Int32) + (((G 20 ((((G 17 ((G 20 264).toNatClampNeg)) >>> ((20 : Int32) &&& 31)) &&& (7 : Int32)).toNatClampNeg)) + (((G 17 ((G 20 264).toNatClampNeg)) <<< ((16 : Int32) &&& 31)) >>> ((16 : Int32) &&& 31))) &&& (255 : Int32)))) 20 (((8 : Int32) + (((G 20 ((((G 17 ((G 20 264).toNatClampNeg)) >>> ((20 : Int32) &&& 31)) &&& (7 : Int32)).toNatClampNeg)) + (((G 17 ((G 20 264).toNatClampNeg)) <<< ((16 : Int32) &&& 31)) >>> ((16 : Int32) &&& 31))) &&& (255 : Int32))).toNatClampNeg) (G 20 ((((G 17 ((G 20 264).toNatClampNeg)) >>> ((24 : Int32) &&& 31)) &&& (7 : Int32)).toNatClampNeg))) 20 264 (((G 20 264) + (1 : Int32)) &&& (63 : Int32)))) else (if (f_Mo_kindOf G (G 17 ((G 20 264).toNatClampNeg))) = 5 then (if (f_Mo_kindOf G (G 17 ((G 20 264).toNatClampNeg))) = 8 then (1, (g_up (g_up (g_up (g_up (g_up G 16 14 (-1)) 20 265 ((G 20 265) + (1 : Int32))) 20 ((((G 17 ((G 20 264).toNatClampNeg)) >>> ((24 : Int32) &&& 31)) &&& (7 : Int32)).toNatClampNeg) (G 20 (((8 : Int32) + (((G 20 ((((G 17 ((G 20 264).toNatClampNeg)) >>> ((20 : Int32) &&& 31)) &&& (7 : Int32)).toNatClampNeg)) + (((G 17 ((G 20 264).toNatClampNeg)) <<< ((16 : Int32) &&& 31)) >>> ((16 : Int32) &&& 31))) &&& (255 : Int32))).toNatClampNeg))) 16 14 (((G 17 ((G 20 264).toNatClampNeg)) >>> ((24 : Int32) &&& 31)) &&& (7 : Int32))) 20 264 (((G 20 264) + (1 : Int32)) &&& (63 : Int32)))) else (1, (g_up (g_up (g_up (g_up (g_up G 16 14 (-1)) 20 265 ((G 20 265) + (0 : Int32))) 20 ((((G 17 ((G 20 264).toNatClampNeg)) >>> ((24 : Int32) &&& 31)) &&& (7 : Int32)).toNatClampNeg) (G 20 (((8 : Int32) + (((G 20 ((((G 17 ((G 20 264).toNatClampNeg)) >>> ((20 : Int32) &&& 31)) &&& (7 : Int32)).toNatClampNeg)) + (((G 17 ((G 20 264).toNatClampNeg)) <<< ((16 : Int32) &&& 31)) >>> ((16 : Int32) &&& 31))) &&& (255 : Int32))).toNatClampNeg))) 16 14 (((G 17 ((G 20 264).toNatClampNeg)) >>> ((24 : Int32) &&& 31)) &&& (7 : Int32))) 20 264 (((G 20 264) + (1 : Int32)) &&& (63 : Int32))))) else (if (f_Mo_kindOf G (G 17 ((G 20 264).toNatClampNeg))) = 8 then (if (f_Mo_kindOf G (G 17 ((G 20 264).toNatClampNeg))) = 8 then (1, (g_up (g_up (g_up (g_up (g_up G 16 14 (-1)) 20 265 ((G 20 265) + (1 : Int32))) 20 ((((G 17 ((G 20 264).toNatClampNeg)) >>> ((24 : Int32) &&& 31)) &&& (7 : Int32)).toNatClampNeg) (G 18 ((G 20 265).toNatClampNeg))) 16 14 (((G 17 ((G 20 264).toNatClampNeg)) >>> ((24 : Int32) &&& 31)) &&& (7 : Int32))) 20 264 (((G 20 264) + (1 : Int32)) &&& (63 : Int32)))) else (1, (g_up (g_up (g_up (g_up (g_up G 16 14 (-1)) 20 265 ((G 20 265) + (0 : Int32))) 20 ((((G 17 ((G 20 264).toNatClampNeg)) >>> ((24 : Int32) &&& 31)) &&& (7 : Int32)).toNatClampNeg) (G 18 ((G 20 265).toNatClampNeg))) 16 14 (((G 17 ((G 20 264).toNatClampNeg)) >>> ((24 : Int32) &&& 31)) &&& (7 : Int32))) 20 264 (((G 20 264) + (1 : Int32)) &&& (63 : Int32))))) else (if (f_Mo_kindOf G (G 17 ((G 20 264).toNatClampNeg))) = 8 then (1, (g_up (g_up (g_up (g_up (g_up G 16 14 (-1)) 20 265 ((G 20 265) + (1 : Int32))) 20 ((((G 17 ((G 20 264).toNatClampNeg)) >>> ((24 : Int32) &&& 31)) &&& (7 : Int32)).toNatClampNeg) (f_Mo_result (g_up G 16 14 (-1)) (f_Mo_kindOf G (G 17 ((G 20 264).toNatClampNeg))) (G 20 ((((G 17 ((G 20 264).toNatClampNeg)) >>> ((20 : Int32) &&& 31)) &&& (7 : Int32)).toNatClampNeg)) (G 20 ((((G 17 ((G 20 264).toNatClampNeg)) >>> ((16 : Int32) &&& 31)) &&& (7 : Int32)).toNatClampNeg)) (((G 17 ((G 20 264).toNatClampNeg)) <<< ((16 : Int32) &&& 31)) >>> ((16 : Int32) &&& 31)))) 16 14 (((G 17 ((G 20 264).toNatClampNeg)) >>> ((24 : Int32) &&& 31)) &&& (7 : Int32))) 20 264 (((G 20 264) + (1 : Int32)) &&& (63 : Int32)))) else (1, (g_up (g_up (g_up (g_up (g_up G 16 14 (-1)) 20 265 ((G 20 265) + (0 : Int32))) 20 ((((G 17 ((G 20 264).toNatClampNeg)) >>> ((24 : Int32) &&& 31)) &&& (7 : Int32)).toNatClampNeg) (f_Mo_result (g_up G 16 14 (-1)) (f_Mo_kindOf G (G 17 ((G 20 264).toNatClampNeg))) (G 20 ((((G 17 ((G 20 264).toNatClampNeg)) >>> ((20 : Int32) &&& 31)) &&& (7 : Int32)).toNatClampNeg)) (G 20 ((((G 17 ((G 20 264).toNatClampNeg)) >>> ((16 : Int32) &&& 31)) &&& (7 : Int32)).toNatClampNeg)) (((G 17 ((G 20 264).toNatClampNeg)) <<< ((16 : Int32) &&& 31)) >>> ((16 : Int32) &&& 31)))) 16 14 (((G 17 ((G 20 264).toNatClampNeg)) >>> ((24 : Int32) &&& 31)) &&& (7 : Int32))) 20 264 (((G 20 264) + (1 : Int32)) &&& (63 : Int32)))))))))) else (if (f_Mo_kindOf G (G 17 ((G 20 264).toNatClampNeg))) = 0 then (1, (g_up (g_up G 16 14 (-1)) 20 268 1)) else (1, (g_up (g_up G 16 14 (-1)) 20 268 2))))))
def ok_Mo_advance_20 (G : gT) (p2 : Int32) : Prop := (vp_in (G 20 264) 64 ∧ (((f_Mo_kindOf G (G 17 ((G 20 264).toNatClampNeg))) = 8 → (((G 20 265) < p2 → (((f_Mo_kindOf G (G 17 ((G 20 264).toNatClampNeg))) = 0 → True) ∧ (¬ (f_Mo_kindOf G (G 17 ((G 20 264).toNatClampNeg))) = 0 → (((f_Mo_kindOf G (G 17 ((G 20 264).toNatClampNeg))) ≤ 12 → (((f_Mo_kindOf G (G 17 ((G 20 264).toNatClampNeg))) = 7 → (vp_in (((G 17 ((G 20 264).toNatClampNeg)) >>> ((24 : Int32) &&& 31)) &&& (7 : Int32)) 269 ∧ True)) ∧ (¬ (f_Mo_kindOf G (G 17 ((G 20 264).toNatClampNeg))) = 7 → (((f_Mo_kindOf G (G 17 ((G 20 264).toNatClampNeg))) = 9 → (vp_in (((G 17 ((G 20 264).toNatClampNeg)) >>> ((24 : Int32) &&& 31)) &&& (7 : Int32)) 269 ∧ True)) ∧ (¬ (f_Mo_kindOf G (G 17 ((G 20 264).toNatClampNeg))) = 9 → (((f_Mo_kindOf G (G 17 ((G 20 264).toNatClampNeg))) = 6 → (vp_in (((G 17 ((G 20 264).toNatClampNeg)) >>> ((20 : Int32) &&& 31)) &&& (7 : Int32)) 269 ∧ (vp_in (((G 17 ((G 20 264).toNatClampNeg)) >>> ((24 : Int32) &&& 31)) &&& (7 : Int32)) 269 ∧ (vp_in ((8 : Int32) + (((G 20 ((((G 17 ((G 20 264).toNatClampNeg)) >>> ((20 : Int32) &&& 31)) &&& (7 : Int32)).toNatClampNeg)) + (((G 17 ((G 20 264).toNatClampNeg)) <<< ((16 : Int32) &&& 31)) >>> ((16 : Int32) &&& 31))) &&& (255 : Int32))) 269 ∧ True)))) ∧ (¬ (f_Mo_kindOf G (G 17 ((G 20 264).toNatClampNeg))) = 6 → (((f_Mo_kindOf G (G 17 ((G 20 264).toNatClampNeg))) = 5 → (vp_in (((G 17 ((G 20 264).toNatClampNeg)) >>> ((20 : Int32) &&& 31)) &&& (7 : Int32)) 269 ∧ (vp_in ((8 : Int32) + (((G 20 ((((G 17 ((G 20 264).toNatClampNeg)) >>> ((20 : Int32) &&& 31)) &&& (7 : Int32)).toNatClampNeg)) + (((G 17 ((G 20 264).toNatClampNeg)) <<< ((16 : Int32) &&& 31)) >>> ((16 : Int32) &&& 31))) &&& (255 : Int32))) 269 ∧ (((f_Mo_kindOf G (G 17 ((G 20 264).toNatClampNeg))) = 8 → (vp_in (((G 17 ((G 20 264).toNatClampNeg)) >>> ((24 : Int32) &&& 31)) &&& (7 : Int32)) 269 ∧ True)) ∧ (¬ (f_Mo_kindOf G (G 17 ((G 20 264).toNatClampNeg))) = 8 → (vp_in (((G 17 ((G 20 264).toNatClampNeg)) >>> ((24 : Int32) &&& 31)) &&& (7 : Int32)) 269 ∧ True)))))) ∧ (¬ (f_Mo_kindOf G (G 17 ((G 20 264).toNatClampNeg))) = 5 → (((f_Mo_kindOf G (G 17 ((G 20 264).toNatClampNeg))) = 8 → (vp_in (G 20 265) 200 ∧ (((f_Mo_kindOf G (G 17 ((G 20 264).toNatClampNeg))) = 8 → (vp_in (((G 17 ((G 20 264).toNatClampNeg)) >>> ((24 : Int32) &&& 31)) &&& (7 : Int32)) 269 ∧ True)) ∧ (¬ (f_Mo_kindOf G (G 17 ((G 20 264).toNatClampNeg))) = 8 → (vp_in (((G 17 ((G 20 264).toNatClampNeg)) >>> ((24 : Int32) &&& 31)) &&& (7 : Int32)) 269 ∧ True))))) ∧ (¬ (f_Mo_kindOf G (G 17 ((G 20 264).toNatClampNeg))) = 8 → (vp_in (((G 17 ((G 20 264).toNatClampNeg)) >>> ((20 : Int32) &&& 31)) &&& (7 : Int32)) 269 ∧ (vp_in (((G 17 ((G 20 264).toNatClampNeg)) >>> ((16 : Int32) &&& 31)) &&& (7 : Int32)) 269 ∧ (((f_Mo_kindOf G (G 17 ((G 20 264).toNatClampNeg))) = 8 → (vp_in (((G 17 ((G 20 264).toNatClampNeg)) >>> ((24 : Int32) &&& 31)) &&& (7 : Int32)) 269 ∧ True)) ∧ (¬ (f_Mo_kindOf G (G 17 ((G 20 264).toNatClampNeg))) = 8 → (vp_in (((G 17 ((G 20 264).toNatClampNeg)) >>> ((24 : Int32) &&& 31)) &&& (7 : Int32)) 269 ∧ True)))))))))))))))) ∧ (¬ (f_Mo_kindOf G (G 17 ((G 20 264).toNatClampNeg))) ≤ 12 → True))))) ∧ (¬ (G 20 265) < p2 → True))) ∧ (¬ (f_Mo_kindOf G (G 17 ((G 20 264).toNatClampNeg))) = 8 → (((f_Mo_kindOf G (G 17 ((G 20 264).toNatClampNeg))) = 0 → True) ∧ (¬ (f_Mo_kindOf G (G 17 ((G 20 264).toNatClampNeg))) = 0 → (((f_Mo_kindOf G (G 17 ((G 20 264).toNatClampNeg))) ≤ 12 → (((f_Mo_kindOf G (G 17 ((G 20 264).toNatClampNeg))) = 7 → (vp_in (((G 17 ((G 20 264).toNatClampNeg)) >>> ((24 : Int32) &&& 31)) &&& (7 : Int32)) 269 ∧ True)) ∧ (¬ (f_Mo_kindOf G (G 17 ((G 20 264).toNatClampNeg))) = 7 → (((f_Mo_kindOf G (G 17 ((G 20 264).toNatClampNeg))) = 9 → (vp_in (((G 17 ((G 20 264).toNatClampNeg)) >>> ((24 : Int32) &&& 31)) &&& (7 : Int32)) 269 ∧ True)) ∧ (¬ (f_Mo_kindOf G (G 17 ((G 20 264).toNatClampNeg))) = 9 → (((f_Mo_kindOf G (G 17 ((G 20 264).toNatClampNeg))) = 6 → (vp_in (((G 17 ((G 20 264).toNatClampNeg)) >>> ((20 : Int32) &&& 31)) &&& (7 : Int32)) 269 ∧ (vp_in (((G 17 ((G 20 264).toNatClampNeg)) >>> ((24 : Int32) &&& 31)) &&& (7 : Int32)) 269 ∧ (vp_in ((8 : Int32) + (((G 20 ((((G 17 ((G 20 264).toNatClampNeg)) >>> ((20 : Int32) &&& 31)) &&& (7 : Int32)).toNatClampNeg)) + (((G 17 ((G 20 264).toNatClampNeg)) <<< ((16 : Int32) &&& 31)) >>> ((16 : Int32) &&& 31))) &&& (255 : Int32))) 269 ∧ True)))) ∧ (¬ (f_Mo_kindOf G (G 17 ((G 20 264).toNatClampNeg))) = 6 → (((f_Mo_kindOf G (G 17 ((G 20 264).toNatClampNeg))) = 5 → (vp_in (((G 17 ((G 20 264).toNatClampNeg)) >>> ((20 : Int32) &&& 31)) &&& (7 : Int32)) 269 ∧ (vp_in ((8 : Int32) + (((G 20 ((((G 17 ((G 20 264).toNatClampNeg)) >>> ((20 : Int32) &&& 31)) &&& (7 : Int32)).toNatClampNeg)) + (((G 17 ((G 20 264).toNatClampNeg)) <<< ((16 : Int32) &&& 31)) >>> ((16 : Int32) &&& 31))) &&& (255 : Int32))) 269 ∧ (((f_Mo_kindOf G (G 17 ((G 20 264).toNatClampNeg))) = 8 → (vp_in (((G 17 ((G 20 264).toNatClampNeg)) >>> ((24 : Int32) &&& 31)) &&& (7 : Int32)) 269 ∧ True)) ∧ (¬ (f_Mo_kindOf G (G 17 ((G 20 264).toNatClampNeg))) = 8 → (vp_in (((G 17 ((G 20 264).toNatClampNeg)) >>> ((24 : Int32) &&& 31)) &&& (7 : Int32)) 269 ∧ True)))))) ∧ (¬ (f_Mo_kindOf G (G 17 ((G 20 264).toNatClampNeg))) = 5 → (((f_Mo_kindOf G (G 17 ((G 20 264).toNatClampNeg))) = 8 → (vp_in (G 20 265) 200 ∧ (((f_Mo_kindOf G (G 17 ((G 20 264).toNatClampNeg))) = 8 → (vp_in (((G 17 ((G 20 264).toNatClampNeg)) >>> ((24 : Int32) &&& 31)) &&& (7 : Int32)) 269 ∧ True)) ∧ (¬ (f_Mo_kindOf G (G 17 ((G 20 264).toNatClampNeg))) = 8 → (vp_in (((G 17 ((G 20 264).toNatClampNeg)) >>> ((24 : Int32) &&& 31)) &&& (7 : Int32)) 269 ∧ True))))) ∧ (¬ (f_Mo_kindOf G (G 17 ((G 20 264).toNatClampNeg))) = 8 → (vp_in (((G 17 ((G 20 264).toNatClampNeg)) >>> ((20 : Int32) &&& 31)) &&& (7 : Int32)) 269 ∧ (vp_in (((G 17 ((G 20 264).toNatClampNeg)) >>> ((16 : Int32) &&& 31)) &&& (7 : Int32)) 269 ∧ (((f_Mo_kindOf G (G 17 ((G 20 264).toNatClampNeg))) = 8 → (vp_in (((G 17 ((G 20 264).toNatClampNeg)) >>> ((24 : Int32) &&& 31)) &&& (7 : Int32)) 269 ∧ True)) ∧ (¬ (f_Mo_kindOf G (G 17 ((G 20 264).toNatClampNeg))) = 8 → (vp_in (((G 17 ((G 20 264).toNatClampNeg)) >>> ((24 : Int32) &&& 31)) &&& (7 : Int32)) 269 ∧ True)))))))))))))))) ∧ (¬ (f_Mo_kindOf G (G 17 ((G 20 264).toNatClampNeg))) ≤ 12 → True)))))))
set_option maxHeartbeats 4000000 in
set_option maxRecDepth 100000 in
theorem c_Mo_advance_20 (l : Launch) (G : gT) (p2 : Int32) (O : Int64) (hok : ok_Mo_advance_20 G p2) : gMet l y_Mo_advance w_Mo_advance rm_Mo_advance_20 (fun ad => [.ref (ad 16), .ref (ad 20), .int p2]) G O (.inl (some (.int (f_Mo_advance_20 G p2).1))) ((f_Mo_advance_20 G p2).2) O := by
  refine g_body (by decide) (gCode_of _ _ _ _) (fun ad => by simp [lg_sl, Value.category]) ?_
  intro p e s0 s m args below meth c D cI cL ad hC hr hlk htb hB ls hl
  have hC : CallFix p m c b_Mo_advance 11 s args gtb R_Mo := hC
  have hl : lv_has ls 11 [(0, .ref (ad 16)), (1, .ref (ad 20)), (2, .int p2)] := hl
  have hx := hC.1
  have hb := hC.2.1
  have hf : f_Mo_advance_20 G p2 = (if (f_Mo_kindOf G (G 17 ((G 20 264).toNatClampNeg))) = 8 then (if (G 20 265) < p2 then (if (f_Mo_kindOf G (G 17 ((G 20 264).toNatClampNeg))) = 0 then (if (f_Mo_kindOf G (G 17 ((G 20 264).toNatClampNeg))) = 0 then (1, (g_up (g_up G 16 14 (-1)) 20 268 1)) else (1, (g_up (g_up G 16 14 (-1)) 20 268 2))) else (if (f_Mo_kindOf G (G 17 ((G 20 264).toNatClampNeg))) ≤ 12 then (if (f_Mo_kindOf G (G 17 ((G 20 264).toNatClampNeg))) = 7 then (if (G 20 ((((G 17 ((G 20 264).toNatClampNeg)) >>> ((24 : Int32) &&& 31)) &&& (7 : Int32)).toNatClampNeg)) = 0 then (1, (g_up (g_up G 16 14 (-1)) 20 264 (((G 20 264) + (1 : Int32)) &&& (63 : Int32)))) else (1, (g_up (g_up G 16 14 (-1)) 20 264 (((G 20 264) + (((G 17 ((G 20 264).toNatClampNeg)) <<< ((16 : Int32) &&& 31)) >>> ((16 : Int32) &&& 31))) &&& (63 : Int32))))) else (if (f_Mo_kindOf G (G 17 ((G 20 264).toNatClampNeg))) = 9 then (1, (g_up (g_up (g_up (g_up G 16 14 (-1)) 20 266 ((G 20 266) + (1 : Int32))) 20 267 (((31 : Int32) * (G 20 267)) + ((g_up (g_up G 16 14 (-1)) 20 266 ((G 20 266) + (1 : Int32))) 20 ((((G 17 ((G 20 264).toNatClampNeg)) >>> ((24 : Int32) &&& 31)) &&& (7 : Int32)).toNatClampNeg)))) 20 264 (((G 20 264) + (1 : Int32)) &&& (63 : Int32)))) else (if (f_Mo_kindOf G (G 17 ((G 20 264).toNatClampNeg))) = 6 then (1, (g_up (g_up (g_up (g_up G 16 14 (-1)) 16 14 ((8 : Int32) + (((G 20 ((((G 17 ((G 20 264).toNatClampNeg)) >>> ((20 : Int32) &&& 31)) &&& (7 : Int32)).toNatClampNeg)) + (((G 17 ((G 20 264).toNatClampNeg)) <<< ((16 : Int32) &&& 31)) >>> ((16 : Int32) &&& 31))) &&& (255 : Int32)))) 20 (((8 : Int32) + (((G 20 ((((G 17 ((G 20 264).toNatClampNeg)) >>> ((20 : Int32) &&& 31)) &&& (7 : Int32)).toNatClampNeg)) + (((G 17 ((G 20 264).toNatClampNeg)) <<< ((16 : Int32) &&& 31)) >>> ((16 : Int32) &&& 31))) &&& (255 : Int32))).toNatClampNeg) (G 20 ((((G 17 ((G 20 264).toNatClampNeg)) >>> ((24 : Int32) &&& 31)) &&& (7 : Int32)).toNatClampNeg))) 20 264 (((G 20 264) + (1 : Int32)) &&& (63 : Int32)))) else (if (f_Mo_kindOf G (G 17 ((G 20 264).toNatClampNeg))) = 5 then (if (f_Mo_kindOf G (G 17 ((G 20 264).toNatClampNeg))) = 8 then (1, (g_up (g_up (g_up (g_up (g_up G 16 14 (-1)) 20 265 ((G 20 265) + (1 : Int32))) 20 ((((G 17 ((G 20 264).toNatClampNeg)) >>> ((24 : Int32) &&& 31)) &&& (7 : Int32)).toNatClampNeg) (G 20 (((8 : Int32) + (((G 20 ((((G 17 ((G 20 264).toNatClampNeg)) >>> ((20 : Int32) &&& 31)) &&& (7 : Int32)).toNatClampNeg)) + (((G 17 ((G 20 264).toNatClampNeg)) <<< ((16 : Int32) &&& 31)) >>> ((16 : Int32) &&& 31))) &&& (255 : Int32))).toNatClampNeg))) 16 14 (((G 17 ((G 20 264).toNatClampNeg)) >>> ((24 : Int32) &&& 31)) &&& (7 : Int32))) 20 264 (((G 20 264) + (1 : Int32)) &&& (63 : Int32)))) else (1, (g_up (g_up (g_up (g_up (g_up G 16 14 (-1)) 20 265 ((G 20 265) + (0 : Int32))) 20 ((((G 17 ((G 20 264).toNatClampNeg)) >>> ((24 : Int32) &&& 31)) &&& (7 : Int32)).toNatClampNeg) (G 20 (((8 : Int32) + (((G 20 ((((G 17 ((G 20 264).toNatClampNeg)) >>> ((20 : Int32) &&& 31)) &&& (7 : Int32)).toNatClampNeg)) + (((G 17 ((G 20 264).toNatClampNeg)) <<< ((16 : Int32) &&& 31)) >>> ((16 : Int32) &&& 31))) &&& (255 : Int32))).toNatClampNeg))) 16 14 (((G 17 ((G 20 264).toNatClampNeg)) >>> ((24 : Int32) &&& 31)) &&& (7 : Int32))) 20 264 (((G 20 264) + (1 : Int32)) &&& (63 : Int32))))) else (if (f_Mo_kindOf G (G 17 ((G 20 264).toNatClampNeg))) = 8 then (if (f_Mo_kindOf G (G 17 ((G 20 264).toNatClampNeg))) = 8 then (1, (g_up (g_up (g_up (g_up (g_up G 16 14 (-1)) 20 265 ((G 20 265) + (1 : Int32))) 20 ((((G 17 ((G 20 264).toNatClampNeg)) >>> ((24 : Int32) &&& 31)) &&& (7 : Int32)).toNatClampNeg) (G 18 ((G 20 265).toNatClampNeg))) 16 14 (((G 17 ((G 20 264).toNatClampNeg)) >>> ((24 : Int32) &&& 31)) &&& (7 : Int32))) 20 264 (((G 20 264) + (1 : Int32)) &&& (63 : Int32)))) else (1, (g_up (g_up (g_up (g_up (g_up G 16 14 (-1)) 20 265 ((G 20 265) + (0 : Int32))) 20 ((((G 17 ((G 20 264).toNatClampNeg)) >>> ((24 : Int32) &&& 31)) &&& (7 : Int32)).toNatClampNeg) (G 18 ((G 20 265).toNatClampNeg))) 16 14 (((G 17 ((G 20 264).toNatClampNeg)) >>> ((24 : Int32) &&& 31)) &&& (7 : Int32))) 20 264 (((G 20 264) + (1 : Int32)) &&& (63 : Int32))))) else (if (f_Mo_kindOf G (G 17 ((G 20 264).toNatClampNeg))) = 8 then (1, (g_up (g_up (g_up (g_up (g_up G 16 14 (-1)) 20 265 ((G 20 265) + (1 : Int32))) 20 ((((G 17 ((G 20 264).toNatClampNeg)) >>> ((24 : Int32) &&& 31)) &&& (7 : Int32)).toNatClampNeg) (f_Mo_result (g_up G 16 14 (-1)) (f_Mo_kindOf G (G 17 ((G 20 264).toNatClampNeg))) (G 20 ((((G 17 ((G 20 264).toNatClampNeg)) >>> ((20 : Int32) &&& 31)) &&& (7 : Int32)).toNatClampNeg)) (G 20 ((((G 17 ((G 20 264).toNatClampNeg)) >>> ((16 : Int32) &&& 31)) &&& (7 : Int32)).toNatClampNeg)) (((G 17 ((G 20 264).toNatClampNeg)) <<< ((16 : Int32) &&& 31)) >>> ((16 : Int32) &&& 31)))) 16 14 (((G 17 ((G 20 264).toNatClampNeg)) >>> ((24 : Int32) &&& 31)) &&& (7 : Int32))) 20 264 (((G 20 264) + (1 : Int32)) &&& (63 : Int32)))) else (1, (g_up (g_up (g_up (g_up (g_up G 16 14 (-1)) 20 265 ((G 20 265) + (0 : Int32))) 20 ((((G 17 ((G 20 264).toNatClampNeg)) >>> ((24 : Int32) &&& 31)) &&& (7 : Int32)).toNatClampNeg) (f_Mo_result (g_up G 16 14 (-1)) (f_Mo_kindOf G (G 17 ((G 20 264).toNatClampNeg))) (G 20 ((((G 17 ((G 20 264).toNatClampNeg)) >>> ((20 : Int32) &&& 31)) &&& (7 : Int32)).toNatClampNeg)) (G 20 ((((G 17 ((G 20 264).toNatClampNeg)) >>> ((16 : Int32) &&& 31)) &&& (7 : Int32)).toNatClampNeg)) (((G 17 ((G 20 264).toNatClampNeg)) <<< ((16 : Int32) &&& 31)) >>> ((16 : Int32) &&& 31)))) 16 14 (((G 17 ((G 20 264).toNatClampNeg)) >>> ((24 : Int32) &&& 31)) &&& (7 : Int32))) 20 264 (((G 20 264) + (1 : Int32)) &&& (63 : Int32)))))))))) else (if (f_Mo_kindOf G (G 17 ((G 20 264).toNatClampNeg))) = 0 then (1, (g_up (g_up G 16 14 (-1)) 20 268 1)) else (1, (g_up (g_up G 16 14 (-1)) 20 268 2))))) else (0, (g_up G 16 14 (-1)))) else (if (f_Mo_kindOf G (G 17 ((G 20 264).toNatClampNeg))) = 0 then (if (f_Mo_kindOf G (G 17 ((G 20 264).toNatClampNeg))) = 0 then (1, (g_up (g_up G 16 14 (-1)) 20 268 1)) else (1, (g_up (g_up G 16 14 (-1)) 20 268 2))) else (if (f_Mo_kindOf G (G 17 ((G 20 264).toNatClampNeg))) ≤ 12 then (if (f_Mo_kindOf G (G 17 ((G 20 264).toNatClampNeg))) = 7 then (if (G 20 ((((G 17 ((G 20 264).toNatClampNeg)) >>> ((24 : Int32) &&& 31)) &&& (7 : Int32)).toNatClampNeg)) = 0 then (1, (g_up (g_up G 16 14 (-1)) 20 264 (((G 20 264) + (1 : Int32)) &&& (63 : Int32)))) else (1, (g_up (g_up G 16 14 (-1)) 20 264 (((G 20 264) + (((G 17 ((G 20 264).toNatClampNeg)) <<< ((16 : Int32) &&& 31)) >>> ((16 : Int32) &&& 31))) &&& (63 : Int32))))) else (if (f_Mo_kindOf G (G 17 ((G 20 264).toNatClampNeg))) = 9 then (1, (g_up (g_up (g_up (g_up G 16 14 (-1)) 20 266 ((G 20 266) + (1 : Int32))) 20 267 (((31 : Int32) * (G 20 267)) + ((g_up (g_up G 16 14 (-1)) 20 266 ((G 20 266) + (1 : Int32))) 20 ((((G 17 ((G 20 264).toNatClampNeg)) >>> ((24 : Int32) &&& 31)) &&& (7 : Int32)).toNatClampNeg)))) 20 264 (((G 20 264) + (1 : Int32)) &&& (63 : Int32)))) else (if (f_Mo_kindOf G (G 17 ((G 20 264).toNatClampNeg))) = 6 then (1, (g_up (g_up (g_up (g_up G 16 14 (-1)) 16 14 ((8 : Int32) + (((G 20 ((((G 17 ((G 20 264).toNatClampNeg)) >>> ((20 : Int32) &&& 31)) &&& (7 : Int32)).toNatClampNeg)) + (((G 17 ((G 20 264).toNatClampNeg)) <<< ((16 : Int32) &&& 31)) >>> ((16 : Int32) &&& 31))) &&& (255 : Int32)))) 20 (((8 : Int32) + (((G 20 ((((G 17 ((G 20 264).toNatClampNeg)) >>> ((20 : Int32) &&& 31)) &&& (7 : Int32)).toNatClampNeg)) + (((G 17 ((G 20 264).toNatClampNeg)) <<< ((16 : Int32) &&& 31)) >>> ((16 : Int32) &&& 31))) &&& (255 : Int32))).toNatClampNeg) (G 20 ((((G 17 ((G 20 264).toNatClampNeg)) >>> ((24 : Int32) &&& 31)) &&& (7 : Int32)).toNatClampNeg))) 20 264 (((G 20 264) + (1 : Int32)) &&& (63 : Int32)))) else (if (f_Mo_kindOf G (G 17 ((G 20 264).toNatClampNeg))) = 5 then (if (f_Mo_kindOf G (G 17 ((G 20 264).toNatClampNeg))) = 8 then (1, (g_up (g_up (g_up (g_up (g_up G 16 14 (-1)) 20 265 ((G 20 265) + (1 : Int32))) 20 ((((G 17 ((G 20 264).toNatClampNeg)) >>> ((24 : Int32) &&& 31)) &&& (7 : Int32)).toNatClampNeg) (G 20 (((8 : Int32) + (((G 20 ((((G 17 ((G 20 264).toNatClampNeg)) >>> ((20 : Int32) &&& 31)) &&& (7 : Int32)).toNatClampNeg)) + (((G 17 ((G 20 264).toNatClampNeg)) <<< ((16 : Int32) &&& 31)) >>> ((16 : Int32) &&& 31))) &&& (255 : Int32))).toNatClampNeg))) 16 14 (((G 17 ((G 20 264).toNatClampNeg)) >>> ((24 : Int32) &&& 31)) &&& (7 : Int32))) 20 264 (((G 20 264) + (1 : Int32)) &&& (63 : Int32)))) else (1, (g_up (g_up (g_up (g_up (g_up G 16 14 (-1)) 20 265 ((G 20 265) + (0 : Int32))) 20 ((((G 17 ((G 20 264).toNatClampNeg)) >>> ((24 : Int32) &&& 31)) &&& (7 : Int32)).toNatClampNeg) (G 20 (((8 : Int32) + (((G 20 ((((G 17 ((G 20 264).toNatClampNeg)) >>> ((20 : Int32) &&& 31)) &&& (7 : Int32)).toNatClampNeg)) + (((G 17 ((G 20 264).toNatClampNeg)) <<< ((16 : Int32) &&& 31)) >>> ((16 : Int32) &&& 31))) &&& (255 : Int32))).toNatClampNeg))) 16 14 (((G 17 ((G 20 264).toNatClampNeg)) >>> ((24 : Int32) &&& 31)) &&& (7 : Int32))) 20 264 (((G 20 264) + (1 : Int32)) &&& (63 : Int32))))) else (if (f_Mo_kindOf G (G 17 ((G 20 264).toNatClampNeg))) = 8 then (if (f_Mo_kindOf G (G 17 ((G 20 264).toNatClampNeg))) = 8 then (1, (g_up (g_up (g_up (g_up (g_up G 16 14 (-1)) 20 265 ((G 20 265) + (1 : Int32))) 20 ((((G 17 ((G 20 264).toNatClampNeg)) >>> ((24 : Int32) &&& 31)) &&& (7 : Int32)).toNatClampNeg) (G 18 ((G 20 265).toNatClampNeg))) 16 14 (((G 17 ((G 20 264).toNatClampNeg)) >>> ((24 : Int32) &&& 31)) &&& (7 : Int32))) 20 264 (((G 20 264) + (1 : Int32)) &&& (63 : Int32)))) else (1, (g_up (g_up (g_up (g_up (g_up G 16 14 (-1)) 20 265 ((G 20 265) + (0 : Int32))) 20 ((((G 17 ((G 20 264).toNatClampNeg)) >>> ((24 : Int32) &&& 31)) &&& (7 : Int32)).toNatClampNeg) (G 18 ((G 20 265).toNatClampNeg))) 16 14 (((G 17 ((G 20 264).toNatClampNeg)) >>> ((24 : Int32) &&& 31)) &&& (7 : Int32))) 20 264 (((G 20 264) + (1 : Int32)) &&& (63 : Int32))))) else (if (f_Mo_kindOf G (G 17 ((G 20 264).toNatClampNeg))) = 8 then (1, (g_up (g_up (g_up (g_up (g_up G 16 14 (-1)) 20 265 ((G 20 265) + (1 : Int32))) 20 ((((G 17 ((G 20 264).toNatClampNeg)) >>> ((24 : Int32) &&& 31)) &&& (7 : Int32)).toNatClampNeg) (f_Mo_result (g_up G 16 14 (-1)) (f_Mo_kindOf G (G 17 ((G 20 264).toNatClampNeg))) (G 20 ((((G 17 ((G 20 264).toNatClampNeg)) >>> ((20 : Int32) &&& 31)) &&& (7 : Int32)).toNatClampNeg)) (G 20 ((((G 17 ((G 20 264).toNatClampNeg)) >>> ((16 : Int32) &&& 31)) &&& (7 : Int32)).toNatClampNeg)) (((G 17 ((G 20 264).toNatClampNeg)) <<< ((16 : Int32) &&& 31)) >>> ((16 : Int32) &&& 31)))) 16 14 (((G 17 ((G 20 264).toNatClampNeg)) >>> ((24 : Int32) &&& 31)) &&& (7 : Int32))) 20 264 (((G 20 264) + (1 : Int32)) &&& (63 : Int32)))) else (1, (g_up (g_up (g_up (g_up (g_up G 16 14 (-1)) 20 265 ((G 20 265) + (0 : Int32))) 20 ((((G 17 ((G 20 264).toNatClampNeg)) >>> ((24 : Int32) &&& 31)) &&& (7 : Int32)).toNatClampNeg) (f_Mo_result (g_up G 16 14 (-1)) (f_Mo_kindOf G (G 17 ((G 20 264).toNatClampNeg))) (G 20 ((((G 17 ((G 20 264).toNatClampNeg)) >>> ((20 : Int32) &&& 31)) &&& (7 : Int32)).toNatClampNeg)) (G 20 ((((G 17 ((G 20 264).toNatClampNeg)) >>> ((16 : Int32) &&& 31)) &&& (7 : Int32)).toNatClampNeg)) (((G 17 ((G 20 264).toNatClampNeg)) <<< ((16 : Int32) &&& 31)) >>> ((16 : Int32) &&& 31)))) 16 14 (((G 17 ((G 20 264).toNatClampNeg)) >>> ((24 : Int32) &&& 31)) &&& (7 : Int32))) 20 264 (((G 20 264) + (1 : Int32)) &&& (63 : Int32)))))))))) else (if (f_Mo_kindOf G (G 17 ((G 20 264).toNatClampNeg))) = 0 then (1, (g_up (g_up G 16 14 (-1)) 20 268 1)) else (1, (g_up (g_up G 16 14 (-1)) 20 268 2)))))) := rfl
  have hok : (vp_in (G 20 264) 64 ∧ (((f_Mo_kindOf G (G 17 ((G 20 264).toNatClampNeg))) = 8 → (((G 20 265) < p2 → (((f_Mo_kindOf G (G 17 ((G 20 264).toNatClampNeg))) = 0 → True) ∧ (¬ (f_Mo_kindOf G (G 17 ((G 20 264).toNatClampNeg))) = 0 → (((f_Mo_kindOf G (G 17 ((G 20 264).toNatClampNeg))) ≤ 12 → (((f_Mo_kindOf G (G 17 ((G 20 264).toNatClampNeg))) = 7 → (vp_in (((G 17 ((G 20 264).toNatClampNeg)) >>> ((24 : Int32) &&& 31)) &&& (7 : Int32)) 269 ∧ True)) ∧ (¬ (f_Mo_kindOf G (G 17 ((G 20 264).toNatClampNeg))) = 7 → (((f_Mo_kindOf G (G 17 ((G 20 264).toNatClampNeg))) = 9 → (vp_in (((G 17 ((G 20 264).toNatClampNeg)) >>> ((24 : Int32) &&& 31)) &&& (7 : Int32)) 269 ∧ True)) ∧ (¬ (f_Mo_kindOf G (G 17 ((G 20 264).toNatClampNeg))) = 9 → (((f_Mo_kindOf G (G 17 ((G 20 264).toNatClampNeg))) = 6 → (vp_in (((G 17 ((G 20 264).toNatClampNeg)) >>> ((20 : Int32) &&& 31)) &&& (7 : Int32)) 269 ∧ (vp_in (((G 17 ((G 20 264).toNatClampNeg)) >>> ((24 : Int32) &&& 31)) &&& (7 : Int32)) 269 ∧ (vp_in ((8 : Int32) + (((G 20 ((((G 17 ((G 20 264).toNatClampNeg)) >>> ((20 : Int32) &&& 31)) &&& (7 : Int32)).toNatClampNeg)) + (((G 17 ((G 20 264).toNatClampNeg)) <<< ((16 : Int32) &&& 31)) >>> ((16 : Int32) &&& 31))) &&& (255 : Int32))) 269 ∧ True)))) ∧ (¬ (f_Mo_kindOf G (G 17 ((G 20 264).toNatClampNeg))) = 6 → (((f_Mo_kindOf G (G 17 ((G 20 264).toNatClampNeg))) = 5 → (vp_in (((G 17 ((G 20 264).toNatClampNeg)) >>> ((20 : Int32) &&& 31)) &&& (7 : Int32)) 269 ∧ (vp_in ((8 : Int32) + (((G 20 ((((G 17 ((G 20 264).toNatClampNeg)) >>> ((20 : Int32) &&& 31)) &&& (7 : Int32)).toNatClampNeg)) + (((G 17 ((G 20 264).toNatClampNeg)) <<< ((16 : Int32) &&& 31)) >>> ((16 : Int32) &&& 31))) &&& (255 : Int32))) 269 ∧ (((f_Mo_kindOf G (G 17 ((G 20 264).toNatClampNeg))) = 8 → (vp_in (((G 17 ((G 20 264).toNatClampNeg)) >>> ((24 : Int32) &&& 31)) &&& (7 : Int32)) 269 ∧ True)) ∧ (¬ (f_Mo_kindOf G (G 17 ((G 20 264).toNatClampNeg))) = 8 → (vp_in (((G 17 ((G 20 264).toNatClampNeg)) >>> ((24 : Int32) &&& 31)) &&& (7 : Int32)) 269 ∧ True)))))) ∧ (¬ (f_Mo_kindOf G (G 17 ((G 20 264).toNatClampNeg))) = 5 → (((f_Mo_kindOf G (G 17 ((G 20 264).toNatClampNeg))) = 8 → (vp_in (G 20 265) 200 ∧ (((f_Mo_kindOf G (G 17 ((G 20 264).toNatClampNeg))) = 8 → (vp_in (((G 17 ((G 20 264).toNatClampNeg)) >>> ((24 : Int32) &&& 31)) &&& (7 : Int32)) 269 ∧ True)) ∧ (¬ (f_Mo_kindOf G (G 17 ((G 20 264).toNatClampNeg))) = 8 → (vp_in (((G 17 ((G 20 264).toNatClampNeg)) >>> ((24 : Int32) &&& 31)) &&& (7 : Int32)) 269 ∧ True))))) ∧ (¬ (f_Mo_kindOf G (G 17 ((G 20 264).toNatClampNeg))) = 8 → (vp_in (((G 17 ((G 20 264).toNatClampNeg)) >>> ((20 : Int32) &&& 31)) &&& (7 : Int32)) 269 ∧ (vp_in (((G 17 ((G 20 264).toNatClampNeg)) >>> ((16 : Int32) &&& 31)) &&& (7 : Int32)) 269 ∧ (((f_Mo_kindOf G (G 17 ((G 20 264).toNatClampNeg))) = 8 → (vp_in (((G 17 ((G 20 264).toNatClampNeg)) >>> ((24 : Int32) &&& 31)) &&& (7 : Int32)) 269 ∧ True)) ∧ (¬ (f_Mo_kindOf G (G 17 ((G 20 264).toNatClampNeg))) = 8 → (vp_in (((G 17 ((G 20 264).toNatClampNeg)) >>> ((24 : Int32) &&& 31)) &&& (7 : Int32)) 269 ∧ True)))))))))))))))) ∧ (¬ (f_Mo_kindOf G (G 17 ((G 20 264).toNatClampNeg))) ≤ 12 → True))))) ∧ (¬ (G 20 265) < p2 → True))) ∧ (¬ (f_Mo_kindOf G (G 17 ((G 20 264).toNatClampNeg))) = 8 → (((f_Mo_kindOf G (G 17 ((G 20 264).toNatClampNeg))) = 0 → True) ∧ (¬ (f_Mo_kindOf G (G 17 ((G 20 264).toNatClampNeg))) = 0 → (((f_Mo_kindOf G (G 17 ((G 20 264).toNatClampNeg))) ≤ 12 → (((f_Mo_kindOf G (G 17 ((G 20 264).toNatClampNeg))) = 7 → (vp_in (((G 17 ((G 20 264).toNatClampNeg)) >>> ((24 : Int32) &&& 31)) &&& (7 : Int32)) 269 ∧ True)) ∧ (¬ (f_Mo_kindOf G (G 17 ((G 20 264).toNatClampNeg))) = 7 → (((f_Mo_kindOf G (G 17 ((G 20 264).toNatClampNeg))) = 9 → (vp_in (((G 17 ((G 20 264).toNatClampNeg)) >>> ((24 : Int32) &&& 31)) &&& (7 : Int32)) 269 ∧ True)) ∧ (¬ (f_Mo_kindOf G (G 17 ((G 20 264).toNatClampNeg))) = 9 → (((f_Mo_kindOf G (G 17 ((G 20 264).toNatClampNeg))) = 6 → (vp_in (((G 17 ((G 20 264).toNatClampNeg)) >>> ((20 : Int32) &&& 31)) &&& (7 : Int32)) 269 ∧ (vp_in (((G 17 ((G 20 264).toNatClampNeg)) >>> ((24 : Int32) &&& 31)) &&& (7 : Int32)) 269 ∧ (vp_in ((8 : Int32) + (((G 20 ((((G 17 ((G 20 264).toNatClampNeg)) >>> ((20 : Int32) &&& 31)) &&& (7 : Int32)).toNatClampNeg)) + (((G 17 ((G 20 264).toNatClampNeg)) <<< ((16 : Int32) &&& 31)) >>> ((16 : Int32) &&& 31))) &&& (255 : Int32))) 269 ∧ True)))) ∧ (¬ (f_Mo_kindOf G (G 17 ((G 20 264).toNatClampNeg))) = 6 → (((f_Mo_kindOf G (G 17 ((G 20 264).toNatClampNeg))) = 5 → (vp_in (((G 17 ((G 20 264).toNatClampNeg)) >>> ((20 : Int32) &&& 31)) &&& (7 : Int32)) 269 ∧ (vp_in ((8 : Int32) + (((G 20 ((((G 17 ((G 20 264).toNatClampNeg)) >>> ((20 : Int32) &&& 31)) &&& (7 : Int32)).toNatClampNeg)) + (((G 17 ((G 20 264).toNatClampNeg)) <<< ((16 : Int32) &&& 31)) >>> ((16 : Int32) &&& 31))) &&& (255 : Int32))) 269 ∧ (((f_Mo_kindOf G (G 17 ((G 20 264).toNatClampNeg))) = 8 → (vp_in (((G 17 ((G 20 264).toNatClampNeg)) >>> ((24 : Int32) &&& 31)) &&& (7 : Int32)) 269 ∧ True)) ∧ (¬ (f_Mo_kindOf G (G 17 ((G 20 264).toNatClampNeg))) = 8 → (vp_in (((G 17 ((G 20 264).toNatClampNeg)) >>> ((24 : Int32) &&& 31)) &&& (7 : Int32)) 269 ∧ True)))))) ∧ (¬ (f_Mo_kindOf G (G 17 ((G 20 264).toNatClampNeg))) = 5 → (((f_Mo_kindOf G (G 17 ((G 20 264).toNatClampNeg))) = 8 → (vp_in (G 20 265) 200 ∧ (((f_Mo_kindOf G (G 17 ((G 20 264).toNatClampNeg))) = 8 → (vp_in (((G 17 ((G 20 264).toNatClampNeg)) >>> ((24 : Int32) &&& 31)) &&& (7 : Int32)) 269 ∧ True)) ∧ (¬ (f_Mo_kindOf G (G 17 ((G 20 264).toNatClampNeg))) = 8 → (vp_in (((G 17 ((G 20 264).toNatClampNeg)) >>> ((24 : Int32) &&& 31)) &&& (7 : Int32)) 269 ∧ True))))) ∧ (¬ (f_Mo_kindOf G (G 17 ((G 20 264).toNatClampNeg))) = 8 → (vp_in (((G 17 ((G 20 264).toNatClampNeg)) >>> ((20 : Int32) &&& 31)) &&& (7 : Int32)) 269 ∧ (vp_in (((G 17 ((G 20 264).toNatClampNeg)) >>> ((16 : Int32) &&& 31)) &&& (7 : Int32)) 269 ∧ (((f_Mo_kindOf G (G 17 ((G 20 264).toNatClampNeg))) = 8 → (vp_in (((G 17 ((G 20 264).toNatClampNeg)) >>> ((24 : Int32) &&& 31)) &&& (7 : Int32)) 269 ∧ True)) ∧ (¬ (f_Mo_kindOf G (G 17 ((G 20 264).toNatClampNeg))) = 8 → (vp_in (((G 17 ((G 20 264).toNatClampNeg)) >>> ((24 : Int32) &&& 31)) &&& (7 : Int32)) 269 ∧ True)))))))))))))))) ∧ (¬ (f_Mo_kindOf G (G 17 ((G 20 264).toNatClampNeg))) ≤ 12 → True))))))) := hok
  refine lv_aload_n hx hb d_Mo_advance_0 rfl (lv_at hl 0 rfl) ?_
  refine gr_16_3 hC hB fl_Mo_7 d_Mo_advance_1 ?_
  refine lv_aload_n hx hb d_Mo_advance_4 rfl (lv_at hl 1 rfl) ?_
  refine lv_sipush (v := 264) hx hb d_Mo_advance_5 (by decide) ?_
  refine ga_20 (x := (G 20 264)) hC hB (by unfold vp_in; decide) rfl d_Mo_advance_8 ?_
  refine ga_17 (x := (G 17 ((G 20 264).toNatClampNeg))) hC hB hok.1 rfl d_Mo_advance_9 ?_
  replace hok := hok.2
  refine lv_istore_n (lv' := [(3, .int (G 17 ((G 20 264).toNatClampNeg))), (0, .ref (ad 16)), (1, .ref (ad 20)), (2, .int p2)]) hx hb d_Mo_advance_10 rfl hl (by decide) rfl (fun ls hl => ?_)
  refine lv_iload_n hx hb d_Mo_advance_11 rfl (lv_at hl 0 rfl) ?_
  refine g_callSi (As := [.int (G 17 ((G 20 264).toNatClampNeg))]) (rest := []) hC hB (c_Mo_kindOf l G (G 17 ((G 20 264).toNatClampNeg)) O) rfl key_Mo_kindOf rfl sta_Mo_kindOf ml_Mo_69 rfl hl.1 ⟨Nat.le_of_ble_eq_true rfl, Nat.le_of_ble_eq_true rfl, Nat.le_of_ble_eq_true rfl, Nat.le_of_ble_eq_true rfl⟩ d_Mo_advance_12 (fun H locs hB => ?_)
  refine lv_istore (lv' := [(4, .int (f_Mo_kindOf G (G 17 ((G 20 264).toNatClampNeg)))), (3, .int (G 17 ((G 20 264).toNatClampNeg))), (0, .ref (ad 16)), (1, .ref (ad 20)), (2, .int p2)]) hx hb d_Mo_advance_15 hl (by decide) rfl (fun ls hl => ?_)
  refine lv_iload_n hx hb d_Mo_advance_17 rfl (lv_at hl 1 rfl) ?_
  refine lv_bipush (v := 24) hx hb d_Mo_advance_18 (by decide) ?_
  refine lv_ishr hx hb d_Mo_advance_20 ?_
  refine lv_bipush (v := 7) hx hb d_Mo_advance_21 (by decide) ?_
  refine lv_iand hx hb d_Mo_advance_23 ?_
  refine lv_istore (lv' := [(5, .int (((G 17 ((G 20 264).toNatClampNeg)) >>> ((24 : Int32) &&& 31)) &&& (7 : Int32))), (4, .int (f_Mo_kindOf G (G 17 ((G 20 264).toNatClampNeg)))), (3, .int (G 17 ((G 20 264).toNatClampNeg))), (0, .ref (ad 16)), (1, .ref (ad 20)), (2, .int p2)]) hx hb d_Mo_advance_24 hl (by decide) rfl (fun ls hl => ?_)
  refine lv_iload_n hx hb d_Mo_advance_26 rfl (lv_at hl 2 rfl) ?_
  refine lv_bipush (v := 20) hx hb d_Mo_advance_27 (by decide) ?_
  refine lv_ishr hx hb d_Mo_advance_29 ?_
  refine lv_bipush (v := 7) hx hb d_Mo_advance_30 (by decide) ?_
  refine lv_iand hx hb d_Mo_advance_32 ?_
  refine lv_istore (lv' := [(6, .int (((G 17 ((G 20 264).toNatClampNeg)) >>> ((20 : Int32) &&& 31)) &&& (7 : Int32))), (5, .int (((G 17 ((G 20 264).toNatClampNeg)) >>> ((24 : Int32) &&& 31)) &&& (7 : Int32))), (4, .int (f_Mo_kindOf G (G 17 ((G 20 264).toNatClampNeg)))), (3, .int (G 17 ((G 20 264).toNatClampNeg))), (0, .ref (ad 16)), (1, .ref (ad 20)), (2, .int p2)]) hx hb d_Mo_advance_33 hl (by decide) rfl (fun ls hl => ?_)
  refine lv_iload_n hx hb d_Mo_advance_35 rfl (lv_at hl 3 rfl) ?_
  refine lv_bipush (v := 16) hx hb d_Mo_advance_36 (by decide) ?_
  refine lv_ishr hx hb d_Mo_advance_38 ?_
  refine lv_bipush (v := 7) hx hb d_Mo_advance_39 (by decide) ?_
  refine lv_iand hx hb d_Mo_advance_41 ?_
  refine lv_istore (lv' := [(7, .int (((G 17 ((G 20 264).toNatClampNeg)) >>> ((16 : Int32) &&& 31)) &&& (7 : Int32))), (6, .int (((G 17 ((G 20 264).toNatClampNeg)) >>> ((20 : Int32) &&& 31)) &&& (7 : Int32))), (5, .int (((G 17 ((G 20 264).toNatClampNeg)) >>> ((24 : Int32) &&& 31)) &&& (7 : Int32))), (4, .int (f_Mo_kindOf G (G 17 ((G 20 264).toNatClampNeg)))), (3, .int (G 17 ((G 20 264).toNatClampNeg))), (0, .ref (ad 16)), (1, .ref (ad 20)), (2, .int p2)]) hx hb d_Mo_advance_42 hl (by decide) rfl (fun ls hl => ?_)
  refine lv_iload_n hx hb d_Mo_advance_44 rfl (lv_at hl 4 rfl) ?_
  refine lv_bipush (v := 16) hx hb d_Mo_advance_45 (by decide) ?_
  refine lv_ishl hx hb d_Mo_advance_47 ?_
  refine lv_bipush (v := 16) hx hb d_Mo_advance_48 (by decide) ?_
  refine lv_ishr hx hb d_Mo_advance_50 ?_
  refine lv_istore (lv' := [(8, .int (((G 17 ((G 20 264).toNatClampNeg)) <<< ((16 : Int32) &&& 31)) >>> ((16 : Int32) &&& 31))), (7, .int (((G 17 ((G 20 264).toNatClampNeg)) >>> ((16 : Int32) &&& 31)) &&& (7 : Int32))), (6, .int (((G 17 ((G 20 264).toNatClampNeg)) >>> ((20 : Int32) &&& 31)) &&& (7 : Int32))), (5, .int (((G 17 ((G 20 264).toNatClampNeg)) >>> ((24 : Int32) &&& 31)) &&& (7 : Int32))), (4, .int (f_Mo_kindOf G (G 17 ((G 20 264).toNatClampNeg)))), (3, .int (G 17 ((G 20 264).toNatClampNeg))), (0, .ref (ad 16)), (1, .ref (ad 20)), (2, .int p2)]) hx hb d_Mo_advance_51 hl (by decide) rfl (fun ls hl => ?_)
  refine lv_aload_n hx hb d_Mo_advance_53 rfl (lv_at hl 6 rfl) ?_
  refine lv_iconst (v := (-1)) hx hb d_Mo_advance_54 (by decide) ?_
  refine gp_16_14 hC hB fl_Mo_72 d_Mo_advance_55 (fun H locs hB => ?_)
  refine lv_iload hx hb d_Mo_advance_58 (lv_at hl 4 rfl) ?_
  refine lv_bipush (v := 8) hx hb d_Mo_advance_60 (by decide) ?_
  refine lv_icmp_ne (tgt := 76) hx hb d_Mo_advance_62 (by decide) (fun c1 => ?_) (fun c1 => ?_)
  · replace hf := hf.trans (if_neg c1)
    replace hok := hok.2 c1
    refine lv_iload hx hb d_Mo_advance_76 (lv_at hl 4 rfl) ?_
    refine lv_if_eq (tgt := 88) hx hb d_Mo_advance_78 (by decide) (fun c2 => ?_) (fun c2 => ?_)
    · replace hf := hf.trans (if_pos c2)
      replace hok := hok.1 c2
      refine lv_aload_n hx hb d_Mo_advance_88 rfl (lv_at hl 7 rfl) ?_
      refine lv_sipush (v := 268) hx hb d_Mo_advance_89 (by decide) ?_
      refine lv_iload hx hb d_Mo_advance_92 (lv_at hl 4 rfl) ?_
      refine lv_if_ne (tgt := 101) hx hb d_Mo_advance_94 (by decide) (fun c3 => ?_) (fun c3 => ?_)
      · replace hf := hf.trans (if_neg c3)
        refine lv_iconst (v := 2) hx hb d_Mo_advance_101 (by decide) ?_
        refine gs_20 hC hB (by unfold vp_in; decide) d_Mo_advance_102 (fun H locs hB => ?_)
        replace hB : gB s0 s D cI cL ad (g_up (g_up G 16 14 (-1)) 20 268 2) O H locs := hB
        refine lv_iconst (v := 1) hx hb d_Mo_advance_103 (by decide) ?_
        exact g_zret hC hB hr hlk (by decide) (by decide) (by decide) (by rw [hf]) (by rw [hf]) d_Mo_advance_104
      · replace hf := hf.trans (if_pos c3)
        refine lv_iconst (v := 1) hx hb d_Mo_advance_97 (by decide) ?_
        refine lv_goto (tgt := 102) hx hb d_Mo_advance_98 (by decide) ?_
        refine gs_20 hC hB (by unfold vp_in; decide) d_Mo_advance_102 (fun H locs hB => ?_)
        replace hB : gB s0 s D cI cL ad (g_up (g_up G 16 14 (-1)) 20 268 1) O H locs := hB
        refine lv_iconst (v := 1) hx hb d_Mo_advance_103 (by decide) ?_
        exact g_zret hC hB hr hlk (by decide) (by decide) (by decide) (by rw [hf]) (by rw [hf]) d_Mo_advance_104
    · replace hf := hf.trans (if_neg c2)
      replace hok := hok.2 c2
      refine lv_iload hx hb d_Mo_advance_81 (lv_at hl 4 rfl) ?_
      refine lv_bipush (v := 12) hx hb d_Mo_advance_83 (by decide) ?_
      refine lv_icmp_le (tgt := 105) hx hb d_Mo_advance_85 (by decide) (fun c4 => ?_) (fun c4 => ?_)
      · replace hf := hf.trans (if_pos c4)
        replace hok := hok.1 c4
        refine lv_aload_n hx hb d_Mo_advance_105 rfl (lv_at hl 7 rfl) ?_
        refine lv_sipush (v := 264) hx hb d_Mo_advance_106 (by decide) ?_
        refine ga_20 (x := (G 20 264)) hC hB (by unfold vp_in; decide) rfl d_Mo_advance_109 ?_
        refine lv_iconst (v := 1) hx hb d_Mo_advance_110 (by decide) ?_
        refine lv_iadd hx hb d_Mo_advance_111 ?_
        refine lv_bipush (v := 63) hx hb d_Mo_advance_112 (by decide) ?_
        refine lv_iand hx hb d_Mo_advance_114 ?_
        refine lv_istore (lv' := [(9, .int (((G 20 264) + (1 : Int32)) &&& (63 : Int32))), (8, .int (((G 17 ((G 20 264).toNatClampNeg)) <<< ((16 : Int32) &&& 31)) >>> ((16 : Int32) &&& 31))), (7, .int (((G 17 ((G 20 264).toNatClampNeg)) >>> ((16 : Int32) &&& 31)) &&& (7 : Int32))), (6, .int (((G 17 ((G 20 264).toNatClampNeg)) >>> ((20 : Int32) &&& 31)) &&& (7 : Int32))), (5, .int (((G 17 ((G 20 264).toNatClampNeg)) >>> ((24 : Int32) &&& 31)) &&& (7 : Int32))), (4, .int (f_Mo_kindOf G (G 17 ((G 20 264).toNatClampNeg)))), (3, .int (G 17 ((G 20 264).toNatClampNeg))), (0, .ref (ad 16)), (1, .ref (ad 20)), (2, .int p2)]) hx hb d_Mo_advance_115 hl (by decide) rfl (fun ls hl => ?_)
        refine lv_iload hx hb d_Mo_advance_117 (lv_at hl 5 rfl) ?_
        refine lv_bipush (v := 7) hx hb d_Mo_advance_119 (by decide) ?_
        refine lv_icmp_ne (tgt := 152) hx hb d_Mo_advance_121 (by decide) (fun c5 => ?_) (fun c5 => ?_)
        · replace hf := hf.trans (if_neg c5)
          replace hok := hok.2 c5
          refine lv_iload hx hb d_Mo_advance_152 (lv_at hl 5 rfl) ?_
          refine lv_bipush (v := 9) hx hb d_Mo_advance_154 (by decide) ?_
          refine lv_icmp_ne (tgt := 189) hx hb d_Mo_advance_156 (by decide) (fun c6 => ?_) (fun c6 => ?_)
          · replace hf := hf.trans (if_neg c6)
            replace hok := hok.2 c6
            refine lv_iload hx hb d_Mo_advance_189 (lv_at hl 5 rfl) ?_
            refine lv_bipush (v := 6) hx hb d_Mo_advance_191 (by decide) ?_
            refine lv_icmp_ne (tgt := 227) hx hb d_Mo_advance_193 (by decide) (fun c7 => ?_) (fun c7 => ?_)
            · replace hf := hf.trans (if_neg c7)
              replace hok := hok.2 c7
              refine lv_iload hx hb d_Mo_advance_227 (lv_at hl 5 rfl) ?_
              refine lv_iconst (v := 5) hx hb d_Mo_advance_229 (by decide) ?_
              refine lv_icmp_ne (tgt := 252) hx hb d_Mo_advance_230 (by decide) (fun c8 => ?_) (fun c8 => ?_)
              · replace hf := hf.trans (if_neg c8)
                replace hok := hok.2 c8
                refine lv_iload hx hb d_Mo_advance_252 (lv_at hl 5 rfl) ?_
                refine lv_bipush (v := 8) hx hb d_Mo_advance_254 (by decide) ?_
                refine lv_icmp_ne (tgt := 272) hx hb d_Mo_advance_256 (by decide) (fun c9 => ?_) (fun c9 => ?_)
                · replace hf := hf.trans (if_neg c9)
                  replace hok := hok.2 c9
                  refine lv_iload hx hb d_Mo_advance_272 (lv_at hl 5 rfl) ?_
                  refine lv_aload_n hx hb d_Mo_advance_274 rfl (lv_at hl 8 rfl) ?_
                  refine lv_iload hx hb d_Mo_advance_275 (lv_at hl 3 rfl) ?_
                  refine ga_20 (x := (G 20 ((((G 17 ((G 20 264).toNatClampNeg)) >>> ((20 : Int32) &&& 31)) &&& (7 : Int32)).toNatClampNeg))) hC hB hok.1 rfl d_Mo_advance_277 ?_
                  replace hok := hok.2
                  refine lv_aload_n hx hb d_Mo_advance_278 rfl (lv_at hl 8 rfl) ?_
                  refine lv_iload hx hb d_Mo_advance_279 (lv_at hl 2 rfl) ?_
                  refine ga_20 (x := (G 20 ((((G 17 ((G 20 264).toNatClampNeg)) >>> ((16 : Int32) &&& 31)) &&& (7 : Int32)).toNatClampNeg))) hC hB hok.1 rfl d_Mo_advance_281 ?_
                  replace hok := hok.2
                  refine lv_iload hx hb d_Mo_advance_282 (lv_at hl 1 rfl) ?_
                  refine g_callSi (As := [.int (f_Mo_kindOf G (G 17 ((G 20 264).toNatClampNeg))), .int (G 20 ((((G 17 ((G 20 264).toNatClampNeg)) >>> ((20 : Int32) &&& 31)) &&& (7 : Int32)).toNatClampNeg)), .int (G 20 ((((G 17 ((G 20 264).toNatClampNeg)) >>> ((16 : Int32) &&& 31)) &&& (7 : Int32)).toNatClampNeg)), .int (((G 17 ((G 20 264).toNatClampNeg)) <<< ((16 : Int32) &&& 31)) >>> ((16 : Int32) &&& 31))]) (rest := []) hC hB (c_Mo_result l (g_up G 16 14 (-1)) (f_Mo_kindOf G (G 17 ((G 20 264).toNatClampNeg))) (G 20 ((((G 17 ((G 20 264).toNatClampNeg)) >>> ((20 : Int32) &&& 31)) &&& (7 : Int32)).toNatClampNeg)) (G 20 ((((G 17 ((G 20 264).toNatClampNeg)) >>> ((16 : Int32) &&& 31)) &&& (7 : Int32)).toNatClampNeg)) (((G 17 ((G 20 264).toNatClampNeg)) <<< ((16 : Int32) &&& 31)) >>> ((16 : Int32) &&& 31)) O) rfl key_Mo_result rfl sta_Mo_result ml_Mo_75 rfl hl.1 ⟨Nat.le_of_ble_eq_true rfl, Nat.le_of_ble_eq_true rfl, Nat.le_of_ble_eq_true rfl, Nat.le_of_ble_eq_true rfl⟩ d_Mo_advance_284 (fun H locs hB => ?_)
                  refine lv_istore (lv' := [(10, .int (f_Mo_result (g_up G 16 14 (-1)) (f_Mo_kindOf G (G 17 ((G 20 264).toNatClampNeg))) (G 20 ((((G 17 ((G 20 264).toNatClampNeg)) >>> ((20 : Int32) &&& 31)) &&& (7 : Int32)).toNatClampNeg)) (G 20 ((((G 17 ((G 20 264).toNatClampNeg)) >>> ((16 : Int32) &&& 31)) &&& (7 : Int32)).toNatClampNeg)) (((G 17 ((G 20 264).toNatClampNeg)) <<< ((16 : Int32) &&& 31)) >>> ((16 : Int32) &&& 31)))), (9, .int (((G 20 264) + (1 : Int32)) &&& (63 : Int32))), (8, .int (((G 17 ((G 20 264).toNatClampNeg)) <<< ((16 : Int32) &&& 31)) >>> ((16 : Int32) &&& 31))), (7, .int (((G 17 ((G 20 264).toNatClampNeg)) >>> ((16 : Int32) &&& 31)) &&& (7 : Int32))), (6, .int (((G 17 ((G 20 264).toNatClampNeg)) >>> ((20 : Int32) &&& 31)) &&& (7 : Int32))), (5, .int (((G 17 ((G 20 264).toNatClampNeg)) >>> ((24 : Int32) &&& 31)) &&& (7 : Int32))), (4, .int (f_Mo_kindOf G (G 17 ((G 20 264).toNatClampNeg)))), (3, .int (G 17 ((G 20 264).toNatClampNeg))), (0, .ref (ad 16)), (1, .ref (ad 20)), (2, .int p2)]) hx hb d_Mo_advance_287 hl (by decide) rfl (fun ls hl => ?_)
                  refine lv_aload_n hx hb d_Mo_advance_289 rfl (lv_at hl 9 rfl) ?_
                  refine lv_sipush (v := 265) hx hb d_Mo_advance_290 (by decide) ?_
                  refine lv_dup2_11 hx hb d_Mo_advance_293 rfl rfl ?_
                  refine ga_20 (x := (G 20 265)) hC hB (by unfold vp_in; decide) rfl d_Mo_advance_294 ?_
                  refine lv_iload hx hb d_Mo_advance_295 (lv_at hl 6 rfl) ?_
                  refine lv_bipush (v := 8) hx hb d_Mo_advance_297 (by decide) ?_
                  refine lv_icmp_ne (tgt := 306) hx hb d_Mo_advance_299 (by decide) (fun c10 => ?_) (fun c10 => ?_)
                  · replace hf := hf.trans (if_neg c10)
                    replace hok := hok.2 c10
                    refine lv_iconst (v := 0) hx hb d_Mo_advance_306 (by decide) ?_
                    refine lv_iadd hx hb d_Mo_advance_307 ?_
                    refine gs_20 hC hB (by unfold vp_in; decide) d_Mo_advance_308 (fun H locs hB => ?_)
                    replace hB : gB s0 s D cI cL ad (g_up (g_up G 16 14 (-1)) 20 265 ((G 20 265) + (0 : Int32))) O H locs := hB
                    refine lv_aload_n hx hb d_Mo_advance_309 rfl (lv_at hl 9 rfl) ?_
                    refine lv_iload hx hb d_Mo_advance_310 (lv_at hl 5 rfl) ?_
                    refine lv_iload hx hb d_Mo_advance_312 (lv_at hl 0 rfl) ?_
                    refine gs_20 hC hB hok.1 d_Mo_advance_314 (fun H locs hB => ?_)
                    replace hok := hok.2
                    refine lv_aload_n hx hb d_Mo_advance_315 rfl (lv_at hl 8 rfl) ?_
                    refine lv_iload hx hb d_Mo_advance_316 (lv_at hl 5 rfl) ?_
                    refine gp_16_14 hC hB fl_Mo_72 d_Mo_advance_318 (fun H locs hB => ?_)
                    refine lv_aload_n hx hb d_Mo_advance_321 rfl (lv_at hl 9 rfl) ?_
                    refine lv_sipush (v := 264) hx hb d_Mo_advance_322 (by decide) ?_
                    refine lv_iload hx hb d_Mo_advance_325 (lv_at hl 1 rfl) ?_
                    refine gs_20 hC hB (by unfold vp_in; decide) d_Mo_advance_327 (fun H locs hB => ?_)
                    replace hB : gB s0 s D cI cL ad (g_up (g_up (g_up (g_up (g_up G 16 14 (-1)) 20 265 ((G 20 265) + (0 : Int32))) 20 ((((G 17 ((G 20 264).toNatClampNeg)) >>> ((24 : Int32) &&& 31)) &&& (7 : Int32)).toNatClampNeg) (f_Mo_result (g_up G 16 14 (-1)) (f_Mo_kindOf G (G 17 ((G 20 264).toNatClampNeg))) (G 20 ((((G 17 ((G 20 264).toNatClampNeg)) >>> ((20 : Int32) &&& 31)) &&& (7 : Int32)).toNatClampNeg)) (G 20 ((((G 17 ((G 20 264).toNatClampNeg)) >>> ((16 : Int32) &&& 31)) &&& (7 : Int32)).toNatClampNeg)) (((G 17 ((G 20 264).toNatClampNeg)) <<< ((16 : Int32) &&& 31)) >>> ((16 : Int32) &&& 31)))) 16 14 (((G 17 ((G 20 264).toNatClampNeg)) >>> ((24 : Int32) &&& 31)) &&& (7 : Int32))) 20 264 (((G 20 264) + (1 : Int32)) &&& (63 : Int32))) O H locs := hB
                    refine lv_iconst (v := 1) hx hb d_Mo_advance_328 (by decide) ?_
                    exact g_zret hC hB hr hlk (by decide) (by decide) (by decide) (by rw [hf]) (by rw [hf]) d_Mo_advance_329
                  · replace hf := hf.trans (if_pos c10)
                    replace hok := hok.1 c10
                    refine lv_iconst (v := 1) hx hb d_Mo_advance_302 (by decide) ?_
                    refine lv_goto (tgt := 307) hx hb d_Mo_advance_303 (by decide) ?_
                    refine lv_iadd hx hb d_Mo_advance_307 ?_
                    refine gs_20 hC hB (by unfold vp_in; decide) d_Mo_advance_308 (fun H locs hB => ?_)
                    replace hB : gB s0 s D cI cL ad (g_up (g_up G 16 14 (-1)) 20 265 ((G 20 265) + (1 : Int32))) O H locs := hB
                    refine lv_aload_n hx hb d_Mo_advance_309 rfl (lv_at hl 9 rfl) ?_
                    refine lv_iload hx hb d_Mo_advance_310 (lv_at hl 5 rfl) ?_
                    refine lv_iload hx hb d_Mo_advance_312 (lv_at hl 0 rfl) ?_
                    refine gs_20 hC hB hok.1 d_Mo_advance_314 (fun H locs hB => ?_)
                    replace hok := hok.2
                    refine lv_aload_n hx hb d_Mo_advance_315 rfl (lv_at hl 8 rfl) ?_
                    refine lv_iload hx hb d_Mo_advance_316 (lv_at hl 5 rfl) ?_
                    refine gp_16_14 hC hB fl_Mo_72 d_Mo_advance_318 (fun H locs hB => ?_)
                    refine lv_aload_n hx hb d_Mo_advance_321 rfl (lv_at hl 9 rfl) ?_
                    refine lv_sipush (v := 264) hx hb d_Mo_advance_322 (by decide) ?_
                    refine lv_iload hx hb d_Mo_advance_325 (lv_at hl 1 rfl) ?_
                    refine gs_20 hC hB (by unfold vp_in; decide) d_Mo_advance_327 (fun H locs hB => ?_)
                    replace hB : gB s0 s D cI cL ad (g_up (g_up (g_up (g_up (g_up G 16 14 (-1)) 20 265 ((G 20 265) + (1 : Int32))) 20 ((((G 17 ((G 20 264).toNatClampNeg)) >>> ((24 : Int32) &&& 31)) &&& (7 : Int32)).toNatClampNeg) (f_Mo_result (g_up G 16 14 (-1)) (f_Mo_kindOf G (G 17 ((G 20 264).toNatClampNeg))) (G 20 ((((G 17 ((G 20 264).toNatClampNeg)) >>> ((20 : Int32) &&& 31)) &&& (7 : Int32)).toNatClampNeg)) (G 20 ((((G 17 ((G 20 264).toNatClampNeg)) >>> ((16 : Int32) &&& 31)) &&& (7 : Int32)).toNatClampNeg)) (((G 17 ((G 20 264).toNatClampNeg)) <<< ((16 : Int32) &&& 31)) >>> ((16 : Int32) &&& 31)))) 16 14 (((G 17 ((G 20 264).toNatClampNeg)) >>> ((24 : Int32) &&& 31)) &&& (7 : Int32))) 20 264 (((G 20 264) + (1 : Int32)) &&& (63 : Int32))) O H locs := hB
                    refine lv_iconst (v := 1) hx hb d_Mo_advance_328 (by decide) ?_
                    exact g_zret hC hB hr hlk (by decide) (by decide) (by decide) (by rw [hf]) (by rw [hf]) d_Mo_advance_329
                · replace hf := hf.trans (if_pos c9)
                  replace hok := hok.1 c9
                  refine lv_aload_n hx hb d_Mo_advance_259 rfl (lv_at hl 7 rfl) ?_
                  refine gr_16_5 hC hB fl_Mo_13 d_Mo_advance_260 ?_
                  refine lv_aload_n hx hb d_Mo_advance_263 rfl (lv_at hl 8 rfl) ?_
                  refine lv_sipush (v := 265) hx hb d_Mo_advance_264 (by decide) ?_
                  refine ga_20 (x := (G 20 265)) hC hB (by unfold vp_in; decide) rfl d_Mo_advance_267 ?_
                  refine ga_18 (x := (G 18 ((G 20 265).toNatClampNeg))) hC hB hok.1 rfl d_Mo_advance_268 ?_
                  replace hok := hok.2
                  refine lv_goto (tgt := 287) hx hb d_Mo_advance_269 (by decide) ?_
                  refine lv_istore (lv' := [(10, .int (G 18 ((G 20 265).toNatClampNeg))), (9, .int (((G 20 264) + (1 : Int32)) &&& (63 : Int32))), (8, .int (((G 17 ((G 20 264).toNatClampNeg)) <<< ((16 : Int32) &&& 31)) >>> ((16 : Int32) &&& 31))), (7, .int (((G 17 ((G 20 264).toNatClampNeg)) >>> ((16 : Int32) &&& 31)) &&& (7 : Int32))), (6, .int (((G 17 ((G 20 264).toNatClampNeg)) >>> ((20 : Int32) &&& 31)) &&& (7 : Int32))), (5, .int (((G 17 ((G 20 264).toNatClampNeg)) >>> ((24 : Int32) &&& 31)) &&& (7 : Int32))), (4, .int (f_Mo_kindOf G (G 17 ((G 20 264).toNatClampNeg)))), (3, .int (G 17 ((G 20 264).toNatClampNeg))), (0, .ref (ad 16)), (1, .ref (ad 20)), (2, .int p2)]) hx hb d_Mo_advance_287 hl (by decide) rfl (fun ls hl => ?_)
                  refine lv_aload_n hx hb d_Mo_advance_289 rfl (lv_at hl 9 rfl) ?_
                  refine lv_sipush (v := 265) hx hb d_Mo_advance_290 (by decide) ?_
                  refine lv_dup2_11 hx hb d_Mo_advance_293 rfl rfl ?_
                  refine ga_20 (x := (G 20 265)) hC hB (by unfold vp_in; decide) rfl d_Mo_advance_294 ?_
                  refine lv_iload hx hb d_Mo_advance_295 (lv_at hl 6 rfl) ?_
                  refine lv_bipush (v := 8) hx hb d_Mo_advance_297 (by decide) ?_
                  refine lv_icmp_ne (tgt := 306) hx hb d_Mo_advance_299 (by decide) (fun c11 => ?_) (fun c11 => ?_)
                  · replace hf := hf.trans (if_neg c11)
                    replace hok := hok.2 c11
                    refine lv_iconst (v := 0) hx hb d_Mo_advance_306 (by decide) ?_
                    refine lv_iadd hx hb d_Mo_advance_307 ?_
                    refine gs_20 hC hB (by unfold vp_in; decide) d_Mo_advance_308 (fun H locs hB => ?_)
                    replace hB : gB s0 s D cI cL ad (g_up (g_up G 16 14 (-1)) 20 265 ((G 20 265) + (0 : Int32))) O H locs := hB
                    refine lv_aload_n hx hb d_Mo_advance_309 rfl (lv_at hl 9 rfl) ?_
                    refine lv_iload hx hb d_Mo_advance_310 (lv_at hl 5 rfl) ?_
                    refine lv_iload hx hb d_Mo_advance_312 (lv_at hl 0 rfl) ?_
                    refine gs_20 hC hB hok.1 d_Mo_advance_314 (fun H locs hB => ?_)
                    replace hok := hok.2
                    refine lv_aload_n hx hb d_Mo_advance_315 rfl (lv_at hl 8 rfl) ?_
                    refine lv_iload hx hb d_Mo_advance_316 (lv_at hl 5 rfl) ?_
                    refine gp_16_14 hC hB fl_Mo_72 d_Mo_advance_318 (fun H locs hB => ?_)
                    refine lv_aload_n hx hb d_Mo_advance_321 rfl (lv_at hl 9 rfl) ?_
                    refine lv_sipush (v := 264) hx hb d_Mo_advance_322 (by decide) ?_
                    refine lv_iload hx hb d_Mo_advance_325 (lv_at hl 1 rfl) ?_
                    refine gs_20 hC hB (by unfold vp_in; decide) d_Mo_advance_327 (fun H locs hB => ?_)
                    replace hB : gB s0 s D cI cL ad (g_up (g_up (g_up (g_up (g_up G 16 14 (-1)) 20 265 ((G 20 265) + (0 : Int32))) 20 ((((G 17 ((G 20 264).toNatClampNeg)) >>> ((24 : Int32) &&& 31)) &&& (7 : Int32)).toNatClampNeg) (G 18 ((G 20 265).toNatClampNeg))) 16 14 (((G 17 ((G 20 264).toNatClampNeg)) >>> ((24 : Int32) &&& 31)) &&& (7 : Int32))) 20 264 (((G 20 264) + (1 : Int32)) &&& (63 : Int32))) O H locs := hB
                    refine lv_iconst (v := 1) hx hb d_Mo_advance_328 (by decide) ?_
                    exact g_zret hC hB hr hlk (by decide) (by decide) (by decide) (by rw [hf]) (by rw [hf]) d_Mo_advance_329
                  · replace hf := hf.trans (if_pos c11)
                    replace hok := hok.1 c11
                    refine lv_iconst (v := 1) hx hb d_Mo_advance_302 (by decide) ?_
                    refine lv_goto (tgt := 307) hx hb d_Mo_advance_303 (by decide) ?_
                    refine lv_iadd hx hb d_Mo_advance_307 ?_
                    refine gs_20 hC hB (by unfold vp_in; decide) d_Mo_advance_308 (fun H locs hB => ?_)
                    replace hB : gB s0 s D cI cL ad (g_up (g_up G 16 14 (-1)) 20 265 ((G 20 265) + (1 : Int32))) O H locs := hB
                    refine lv_aload_n hx hb d_Mo_advance_309 rfl (lv_at hl 9 rfl) ?_
                    refine lv_iload hx hb d_Mo_advance_310 (lv_at hl 5 rfl) ?_
                    refine lv_iload hx hb d_Mo_advance_312 (lv_at hl 0 rfl) ?_
                    refine gs_20 hC hB hok.1 d_Mo_advance_314 (fun H locs hB => ?_)
                    replace hok := hok.2
                    refine lv_aload_n hx hb d_Mo_advance_315 rfl (lv_at hl 8 rfl) ?_
                    refine lv_iload hx hb d_Mo_advance_316 (lv_at hl 5 rfl) ?_
                    refine gp_16_14 hC hB fl_Mo_72 d_Mo_advance_318 (fun H locs hB => ?_)
                    refine lv_aload_n hx hb d_Mo_advance_321 rfl (lv_at hl 9 rfl) ?_
                    refine lv_sipush (v := 264) hx hb d_Mo_advance_322 (by decide) ?_
                    refine lv_iload hx hb d_Mo_advance_325 (lv_at hl 1 rfl) ?_
                    refine gs_20 hC hB (by unfold vp_in; decide) d_Mo_advance_327 (fun H locs hB => ?_)
                    replace hB : gB s0 s D cI cL ad (g_up (g_up (g_up (g_up (g_up G 16 14 (-1)) 20 265 ((G 20 265) + (1 : Int32))) 20 ((((G 17 ((G 20 264).toNatClampNeg)) >>> ((24 : Int32) &&& 31)) &&& (7 : Int32)).toNatClampNeg) (G 18 ((G 20 265).toNatClampNeg))) 16 14 (((G 17 ((G 20 264).toNatClampNeg)) >>> ((24 : Int32) &&& 31)) &&& (7 : Int32))) 20 264 (((G 20 264) + (1 : Int32)) &&& (63 : Int32))) O H locs := hB
                    refine lv_iconst (v := 1) hx hb d_Mo_advance_328 (by decide) ?_
                    exact g_zret hC hB hr hlk (by decide) (by decide) (by decide) (by rw [hf]) (by rw [hf]) d_Mo_advance_329
              · replace hf := hf.trans (if_pos c8)
                replace hok := hok.1 c8
                refine lv_aload_n hx hb d_Mo_advance_233 rfl (lv_at hl 8 rfl) ?_
                refine lv_bipush (v := 8) hx hb d_Mo_advance_234 (by decide) ?_
                refine lv_aload_n hx hb d_Mo_advance_236 rfl (lv_at hl 8 rfl) ?_
                refine lv_iload hx hb d_Mo_advance_237 (lv_at hl 3 rfl) ?_
                refine ga_20 (x := (G 20 ((((G 17 ((G 20 264).toNatClampNeg)) >>> ((20 : Int32) &&& 31)) &&& (7 : Int32)).toNatClampNeg))) hC hB hok.1 rfl d_Mo_advance_239 ?_
                replace hok := hok.2
                refine lv_iload hx hb d_Mo_advance_240 (lv_at hl 1 rfl) ?_
                refine lv_iadd hx hb d_Mo_advance_242 ?_
                refine lv_sipush (v := 255) hx hb d_Mo_advance_243 (by decide) ?_
                refine lv_iand hx hb d_Mo_advance_246 ?_
                refine lv_iadd hx hb d_Mo_advance_247 ?_
                refine ga_20 (x := (G 20 (((8 : Int32) + (((G 20 ((((G 17 ((G 20 264).toNatClampNeg)) >>> ((20 : Int32) &&& 31)) &&& (7 : Int32)).toNatClampNeg)) + (((G 17 ((G 20 264).toNatClampNeg)) <<< ((16 : Int32) &&& 31)) >>> ((16 : Int32) &&& 31))) &&& (255 : Int32))).toNatClampNeg))) hC hB hok.1 rfl d_Mo_advance_248 ?_
                replace hok := hok.2
                refine lv_goto (tgt := 287) hx hb d_Mo_advance_249 (by decide) ?_
                refine lv_istore (lv' := [(10, .int (G 20 (((8 : Int32) + (((G 20 ((((G 17 ((G 20 264).toNatClampNeg)) >>> ((20 : Int32) &&& 31)) &&& (7 : Int32)).toNatClampNeg)) + (((G 17 ((G 20 264).toNatClampNeg)) <<< ((16 : Int32) &&& 31)) >>> ((16 : Int32) &&& 31))) &&& (255 : Int32))).toNatClampNeg))), (9, .int (((G 20 264) + (1 : Int32)) &&& (63 : Int32))), (8, .int (((G 17 ((G 20 264).toNatClampNeg)) <<< ((16 : Int32) &&& 31)) >>> ((16 : Int32) &&& 31))), (7, .int (((G 17 ((G 20 264).toNatClampNeg)) >>> ((16 : Int32) &&& 31)) &&& (7 : Int32))), (6, .int (((G 17 ((G 20 264).toNatClampNeg)) >>> ((20 : Int32) &&& 31)) &&& (7 : Int32))), (5, .int (((G 17 ((G 20 264).toNatClampNeg)) >>> ((24 : Int32) &&& 31)) &&& (7 : Int32))), (4, .int (f_Mo_kindOf G (G 17 ((G 20 264).toNatClampNeg)))), (3, .int (G 17 ((G 20 264).toNatClampNeg))), (0, .ref (ad 16)), (1, .ref (ad 20)), (2, .int p2)]) hx hb d_Mo_advance_287 hl (by decide) rfl (fun ls hl => ?_)
                refine lv_aload_n hx hb d_Mo_advance_289 rfl (lv_at hl 9 rfl) ?_
                refine lv_sipush (v := 265) hx hb d_Mo_advance_290 (by decide) ?_
                refine lv_dup2_11 hx hb d_Mo_advance_293 rfl rfl ?_
                refine ga_20 (x := (G 20 265)) hC hB (by unfold vp_in; decide) rfl d_Mo_advance_294 ?_
                refine lv_iload hx hb d_Mo_advance_295 (lv_at hl 6 rfl) ?_
                refine lv_bipush (v := 8) hx hb d_Mo_advance_297 (by decide) ?_
                refine lv_icmp_ne (tgt := 306) hx hb d_Mo_advance_299 (by decide) (fun c12 => ?_) (fun c12 => ?_)
                · replace hf := hf.trans (if_neg c12)
                  replace hok := hok.2 c12
                  refine lv_iconst (v := 0) hx hb d_Mo_advance_306 (by decide) ?_
                  refine lv_iadd hx hb d_Mo_advance_307 ?_
                  refine gs_20 hC hB (by unfold vp_in; decide) d_Mo_advance_308 (fun H locs hB => ?_)
                  replace hB : gB s0 s D cI cL ad (g_up (g_up G 16 14 (-1)) 20 265 ((G 20 265) + (0 : Int32))) O H locs := hB
                  refine lv_aload_n hx hb d_Mo_advance_309 rfl (lv_at hl 9 rfl) ?_
                  refine lv_iload hx hb d_Mo_advance_310 (lv_at hl 5 rfl) ?_
                  refine lv_iload hx hb d_Mo_advance_312 (lv_at hl 0 rfl) ?_
                  refine gs_20 hC hB hok.1 d_Mo_advance_314 (fun H locs hB => ?_)
                  replace hok := hok.2
                  refine lv_aload_n hx hb d_Mo_advance_315 rfl (lv_at hl 8 rfl) ?_
                  refine lv_iload hx hb d_Mo_advance_316 (lv_at hl 5 rfl) ?_
                  refine gp_16_14 hC hB fl_Mo_72 d_Mo_advance_318 (fun H locs hB => ?_)
                  refine lv_aload_n hx hb d_Mo_advance_321 rfl (lv_at hl 9 rfl) ?_
                  refine lv_sipush (v := 264) hx hb d_Mo_advance_322 (by decide) ?_
                  refine lv_iload hx hb d_Mo_advance_325 (lv_at hl 1 rfl) ?_
                  refine gs_20 hC hB (by unfold vp_in; decide) d_Mo_advance_327 (fun H locs hB => ?_)
                  replace hB : gB s0 s D cI cL ad (g_up (g_up (g_up (g_up (g_up G 16 14 (-1)) 20 265 ((G 20 265) + (0 : Int32))) 20 ((((G 17 ((G 20 264).toNatClampNeg)) >>> ((24 : Int32) &&& 31)) &&& (7 : Int32)).toNatClampNeg) (G 20 (((8 : Int32) + (((G 20 ((((G 17 ((G 20 264).toNatClampNeg)) >>> ((20 : Int32) &&& 31)) &&& (7 : Int32)).toNatClampNeg)) + (((G 17 ((G 20 264).toNatClampNeg)) <<< ((16 : Int32) &&& 31)) >>> ((16 : Int32) &&& 31))) &&& (255 : Int32))).toNatClampNeg))) 16 14 (((G 17 ((G 20 264).toNatClampNeg)) >>> ((24 : Int32) &&& 31)) &&& (7 : Int32))) 20 264 (((G 20 264) + (1 : Int32)) &&& (63 : Int32))) O H locs := hB
                  refine lv_iconst (v := 1) hx hb d_Mo_advance_328 (by decide) ?_
                  exact g_zret hC hB hr hlk (by decide) (by decide) (by decide) (by rw [hf]) (by rw [hf]) d_Mo_advance_329
                · replace hf := hf.trans (if_pos c12)
                  replace hok := hok.1 c12
                  refine lv_iconst (v := 1) hx hb d_Mo_advance_302 (by decide) ?_
                  refine lv_goto (tgt := 307) hx hb d_Mo_advance_303 (by decide) ?_
                  refine lv_iadd hx hb d_Mo_advance_307 ?_
                  refine gs_20 hC hB (by unfold vp_in; decide) d_Mo_advance_308 (fun H locs hB => ?_)
                  replace hB : gB s0 s D cI cL ad (g_up (g_up G 16 14 (-1)) 20 265 ((G 20 265) + (1 : Int32))) O H locs := hB
                  refine lv_aload_n hx hb d_Mo_advance_309 rfl (lv_at hl 9 rfl) ?_
                  refine lv_iload hx hb d_Mo_advance_310 (lv_at hl 5 rfl) ?_
                  refine lv_iload hx hb d_Mo_advance_312 (lv_at hl 0 rfl) ?_
                  refine gs_20 hC hB hok.1 d_Mo_advance_314 (fun H locs hB => ?_)
                  replace hok := hok.2
                  refine lv_aload_n hx hb d_Mo_advance_315 rfl (lv_at hl 8 rfl) ?_
                  refine lv_iload hx hb d_Mo_advance_316 (lv_at hl 5 rfl) ?_
                  refine gp_16_14 hC hB fl_Mo_72 d_Mo_advance_318 (fun H locs hB => ?_)
                  refine lv_aload_n hx hb d_Mo_advance_321 rfl (lv_at hl 9 rfl) ?_
                  refine lv_sipush (v := 264) hx hb d_Mo_advance_322 (by decide) ?_
                  refine lv_iload hx hb d_Mo_advance_325 (lv_at hl 1 rfl) ?_
                  refine gs_20 hC hB (by unfold vp_in; decide) d_Mo_advance_327 (fun H locs hB => ?_)
                  replace hB : gB s0 s D cI cL ad (g_up (g_up (g_up (g_up (g_up G 16 14 (-1)) 20 265 ((G 20 265) + (1 : Int32))) 20 ((((G 17 ((G 20 264).toNatClampNeg)) >>> ((24 : Int32) &&& 31)) &&& (7 : Int32)).toNatClampNeg) (G 20 (((8 : Int32) + (((G 20 ((((G 17 ((G 20 264).toNatClampNeg)) >>> ((20 : Int32) &&& 31)) &&& (7 : Int32)).toNatClampNeg)) + (((G 17 ((G 20 264).toNatClampNeg)) <<< ((16 : Int32) &&& 31)) >>> ((16 : Int32) &&& 31))) &&& (255 : Int32))).toNatClampNeg))) 16 14 (((G 17 ((G 20 264).toNatClampNeg)) >>> ((24 : Int32) &&& 31)) &&& (7 : Int32))) 20 264 (((G 20 264) + (1 : Int32)) &&& (63 : Int32))) O H locs := hB
                  refine lv_iconst (v := 1) hx hb d_Mo_advance_328 (by decide) ?_
                  exact g_zret hC hB hr hlk (by decide) (by decide) (by decide) (by rw [hf]) (by rw [hf]) d_Mo_advance_329
            · replace hf := hf.trans (if_pos c7)
              replace hok := hok.1 c7
              refine lv_aload_n hx hb d_Mo_advance_196 rfl (lv_at hl 7 rfl) ?_
              refine lv_bipush (v := 8) hx hb d_Mo_advance_197 (by decide) ?_
              refine lv_aload_n hx hb d_Mo_advance_199 rfl (lv_at hl 8 rfl) ?_
              refine lv_iload hx hb d_Mo_advance_200 (lv_at hl 3 rfl) ?_
              refine ga_20 (x := (G 20 ((((G 17 ((G 20 264).toNatClampNeg)) >>> ((20 : Int32) &&& 31)) &&& (7 : Int32)).toNatClampNeg))) hC hB hok.1 rfl d_Mo_advance_202 ?_
              replace hok := hok.2
              refine lv_iload hx hb d_Mo_advance_203 (lv_at hl 1 rfl) ?_
              refine lv_iadd hx hb d_Mo_advance_205 ?_
              refine lv_sipush (v := 255) hx hb d_Mo_advance_206 (by decide) ?_
              refine lv_iand hx hb d_Mo_advance_209 ?_
              refine lv_iadd hx hb d_Mo_advance_210 ?_
              refine gp_16_14 hC hB fl_Mo_72 d_Mo_advance_211 (fun H locs hB => ?_)
              refine lv_aload_n hx hb d_Mo_advance_214 rfl (lv_at hl 8 rfl) ?_
              refine lv_aload_n hx hb d_Mo_advance_215 rfl (lv_at hl 7 rfl) ?_
              refine gg_16_14 (x := (8 : Int32) + (((G 20 ((((G 17 ((G 20 264).toNatClampNeg)) >>> ((20 : Int32) &&& 31)) &&& (7 : Int32)).toNatClampNeg)) + (((G 17 ((G 20 264).toNatClampNeg)) <<< ((16 : Int32) &&& 31)) >>> ((16 : Int32) &&& 31))) &&& (255 : Int32))) hC hB rfl fl_Mo_72 d_Mo_advance_216 ?_
              refine lv_aload_n hx hb d_Mo_advance_219 rfl (lv_at hl 8 rfl) ?_
              refine lv_iload hx hb d_Mo_advance_220 (lv_at hl 4 rfl) ?_
              refine ga_20 (x := (G 20 ((((G 17 ((G 20 264).toNatClampNeg)) >>> ((24 : Int32) &&& 31)) &&& (7 : Int32)).toNatClampNeg))) hC hB hok.1 rfl d_Mo_advance_222 ?_
              replace hok := hok.2
              refine gs_20 hC hB hok.1 d_Mo_advance_223 (fun H locs hB => ?_)
              replace hok := hok.2
              refine lv_goto (tgt := 321) hx hb d_Mo_advance_224 (by decide) ?_
              refine lv_aload_n hx hb d_Mo_advance_321 rfl (lv_at hl 8 rfl) ?_
              refine lv_sipush (v := 264) hx hb d_Mo_advance_322 (by decide) ?_
              refine lv_iload hx hb d_Mo_advance_325 (lv_at hl 0 rfl) ?_
              refine gs_20 hC hB (by unfold vp_in; decide) d_Mo_advance_327 (fun H locs hB => ?_)
              replace hB : gB s0 s D cI cL ad (g_up (g_up (g_up (g_up G 16 14 (-1)) 16 14 ((8 : Int32) + (((G 20 ((((G 17 ((G 20 264).toNatClampNeg)) >>> ((20 : Int32) &&& 31)) &&& (7 : Int32)).toNatClampNeg)) + (((G 17 ((G 20 264).toNatClampNeg)) <<< ((16 : Int32) &&& 31)) >>> ((16 : Int32) &&& 31))) &&& (255 : Int32)))) 20 (((8 : Int32) + (((G 20 ((((G 17 ((G 20 264).toNatClampNeg)) >>> ((20 : Int32) &&& 31)) &&& (7 : Int32)).toNatClampNeg)) + (((G 17 ((G 20 264).toNatClampNeg)) <<< ((16 : Int32) &&& 31)) >>> ((16 : Int32) &&& 31))) &&& (255 : Int32))).toNatClampNeg) (G 20 ((((G 17 ((G 20 264).toNatClampNeg)) >>> ((24 : Int32) &&& 31)) &&& (7 : Int32)).toNatClampNeg))) 20 264 (((G 20 264) + (1 : Int32)) &&& (63 : Int32))) O H locs := hB
              refine lv_iconst (v := 1) hx hb d_Mo_advance_328 (by decide) ?_
              exact g_zret hC hB hr hlk (by decide) (by decide) (by decide) (by rw [hf]) (by rw [hf]) d_Mo_advance_329
          · replace hf := hf.trans (if_pos c6)
            replace hok := hok.1 c6
            refine lv_aload_n hx hb d_Mo_advance_159 rfl (lv_at hl 8 rfl) ?_
            refine lv_sipush (v := 266) hx hb d_Mo_advance_160 (by decide) ?_
            refine lv_dup2_11 hx hb d_Mo_advance_163 rfl rfl ?_
            refine ga_20 (x := (G 20 266)) hC hB (by unfold vp_in; decide) rfl d_Mo_advance_164 ?_
            refine lv_iconst (v := 1) hx hb d_Mo_advance_165 (by decide) ?_
            refine lv_iadd hx hb d_Mo_advance_166 ?_
            refine gs_20 hC hB (by unfold vp_in; decide) d_Mo_advance_167 (fun H locs hB => ?_)
            replace hB : gB s0 s D cI cL ad (g_up (g_up G 16 14 (-1)) 20 266 ((G 20 266) + (1 : Int32))) O H locs := hB
            refine lv_aload_n hx hb d_Mo_advance_168 rfl (lv_at hl 8 rfl) ?_
            refine lv_sipush (v := 267) hx hb d_Mo_advance_169 (by decide) ?_
            refine lv_bipush (v := 31) hx hb d_Mo_advance_172 (by decide) ?_
            refine lv_aload_n hx hb d_Mo_advance_174 rfl (lv_at hl 8 rfl) ?_
            refine lv_sipush (v := 267) hx hb d_Mo_advance_175 (by decide) ?_
            refine ga_20 (x := (G 20 267)) hC hB (by unfold vp_in; decide) rfl d_Mo_advance_178 ?_
            refine lv_imul hx hb d_Mo_advance_179 ?_
            refine lv_aload_n hx hb d_Mo_advance_180 rfl (lv_at hl 8 rfl) ?_
            refine lv_iload hx hb d_Mo_advance_181 (lv_at hl 4 rfl) ?_
            refine ga_20 (x := ((g_up (g_up G 16 14 (-1)) 20 266 ((G 20 266) + (1 : Int32))) 20 ((((G 17 ((G 20 264).toNatClampNeg)) >>> ((24 : Int32) &&& 31)) &&& (7 : Int32)).toNatClampNeg))) hC hB hok.1 rfl d_Mo_advance_183 ?_
            replace hok := hok.2
            refine lv_iadd hx hb d_Mo_advance_184 ?_
            refine gs_20 hC hB (by unfold vp_in; decide) d_Mo_advance_185 (fun H locs hB => ?_)
            replace hB : gB s0 s D cI cL ad (g_up (g_up (g_up G 16 14 (-1)) 20 266 ((G 20 266) + (1 : Int32))) 20 267 (((31 : Int32) * (G 20 267)) + ((g_up (g_up G 16 14 (-1)) 20 266 ((G 20 266) + (1 : Int32))) 20 ((((G 17 ((G 20 264).toNatClampNeg)) >>> ((24 : Int32) &&& 31)) &&& (7 : Int32)).toNatClampNeg)))) O H locs := hB
            refine lv_goto (tgt := 321) hx hb d_Mo_advance_186 (by decide) ?_
            refine lv_aload_n hx hb d_Mo_advance_321 rfl (lv_at hl 8 rfl) ?_
            refine lv_sipush (v := 264) hx hb d_Mo_advance_322 (by decide) ?_
            refine lv_iload hx hb d_Mo_advance_325 (lv_at hl 0 rfl) ?_
            refine gs_20 hC hB (by unfold vp_in; decide) d_Mo_advance_327 (fun H locs hB => ?_)
            replace hB : gB s0 s D cI cL ad (g_up (g_up (g_up (g_up G 16 14 (-1)) 20 266 ((G 20 266) + (1 : Int32))) 20 267 (((31 : Int32) * (G 20 267)) + ((g_up (g_up G 16 14 (-1)) 20 266 ((G 20 266) + (1 : Int32))) 20 ((((G 17 ((G 20 264).toNatClampNeg)) >>> ((24 : Int32) &&& 31)) &&& (7 : Int32)).toNatClampNeg)))) 20 264 (((G 20 264) + (1 : Int32)) &&& (63 : Int32))) O H locs := hB
            refine lv_iconst (v := 1) hx hb d_Mo_advance_328 (by decide) ?_
            exact g_zret hC hB hr hlk (by decide) (by decide) (by decide) (by rw [hf]) (by rw [hf]) d_Mo_advance_329
        · replace hf := hf.trans (if_pos c5)
          replace hok := hok.1 c5
          refine lv_aload_n hx hb d_Mo_advance_124 rfl (lv_at hl 8 rfl) ?_
          refine lv_iload hx hb d_Mo_advance_125 (lv_at hl 4 rfl) ?_
          refine ga_20 (x := (G 20 ((((G 17 ((G 20 264).toNatClampNeg)) >>> ((24 : Int32) &&& 31)) &&& (7 : Int32)).toNatClampNeg))) hC hB hok.1 rfl d_Mo_advance_127 ?_
          replace hok := hok.2
          refine lv_if_eq (tgt := 145) hx hb d_Mo_advance_128 (by decide) (fun c13 => ?_) (fun c13 => ?_)
          · replace hf := hf.trans (if_pos c13)
            refine lv_iload hx hb d_Mo_advance_145 (lv_at hl 0 rfl) ?_
            refine lv_istore (lv' := [(9, .int (((G 20 264) + (1 : Int32)) &&& (63 : Int32))), (8, .int (((G 17 ((G 20 264).toNatClampNeg)) <<< ((16 : Int32) &&& 31)) >>> ((16 : Int32) &&& 31))), (7, .int (((G 17 ((G 20 264).toNatClampNeg)) >>> ((16 : Int32) &&& 31)) &&& (7 : Int32))), (6, .int (((G 17 ((G 20 264).toNatClampNeg)) >>> ((20 : Int32) &&& 31)) &&& (7 : Int32))), (5, .int (((G 17 ((G 20 264).toNatClampNeg)) >>> ((24 : Int32) &&& 31)) &&& (7 : Int32))), (4, .int (f_Mo_kindOf G (G 17 ((G 20 264).toNatClampNeg)))), (3, .int (G 17 ((G 20 264).toNatClampNeg))), (0, .ref (ad 16)), (1, .ref (ad 20)), (2, .int p2)]) hx hb d_Mo_advance_147 hl (by decide) rfl (fun ls hl => ?_)
            refine lv_goto (tgt := 321) hx hb d_Mo_advance_149 (by decide) ?_
            refine lv_aload_n hx hb d_Mo_advance_321 rfl (lv_at hl 8 rfl) ?_
            refine lv_sipush (v := 264) hx hb d_Mo_advance_322 (by decide) ?_
            refine lv_iload hx hb d_Mo_advance_325 (lv_at hl 0 rfl) ?_
            refine gs_20 hC hB (by unfold vp_in; decide) d_Mo_advance_327 (fun H locs hB => ?_)
            replace hB : gB s0 s D cI cL ad (g_up (g_up G 16 14 (-1)) 20 264 (((G 20 264) + (1 : Int32)) &&& (63 : Int32))) O H locs := hB
            refine lv_iconst (v := 1) hx hb d_Mo_advance_328 (by decide) ?_
            exact g_zret hC hB hr hlk (by decide) (by decide) (by decide) (by rw [hf]) (by rw [hf]) d_Mo_advance_329
          · replace hf := hf.trans (if_neg c13)
            refine lv_aload_n hx hb d_Mo_advance_131 rfl (lv_at hl 8 rfl) ?_
            refine lv_sipush (v := 264) hx hb d_Mo_advance_132 (by decide) ?_
            refine ga_20 (x := (G 20 264)) hC hB (by unfold vp_in; decide) rfl d_Mo_advance_135 ?_
            refine lv_iload hx hb d_Mo_advance_136 (lv_at hl 1 rfl) ?_
            refine lv_iadd hx hb d_Mo_advance_138 ?_
            refine lv_bipush (v := 63) hx hb d_Mo_advance_139 (by decide) ?_
            refine lv_iand hx hb d_Mo_advance_141 ?_
            refine lv_goto (tgt := 147) hx hb d_Mo_advance_142 (by decide) ?_
            refine lv_istore (lv' := [(9, .int (((G 20 264) + (((G 17 ((G 20 264).toNatClampNeg)) <<< ((16 : Int32) &&& 31)) >>> ((16 : Int32) &&& 31))) &&& (63 : Int32))), (8, .int (((G 17 ((G 20 264).toNatClampNeg)) <<< ((16 : Int32) &&& 31)) >>> ((16 : Int32) &&& 31))), (7, .int (((G 17 ((G 20 264).toNatClampNeg)) >>> ((16 : Int32) &&& 31)) &&& (7 : Int32))), (6, .int (((G 17 ((G 20 264).toNatClampNeg)) >>> ((20 : Int32) &&& 31)) &&& (7 : Int32))), (5, .int (((G 17 ((G 20 264).toNatClampNeg)) >>> ((24 : Int32) &&& 31)) &&& (7 : Int32))), (4, .int (f_Mo_kindOf G (G 17 ((G 20 264).toNatClampNeg)))), (3, .int (G 17 ((G 20 264).toNatClampNeg))), (0, .ref (ad 16)), (1, .ref (ad 20)), (2, .int p2)]) hx hb d_Mo_advance_147 hl (by decide) rfl (fun ls hl => ?_)
            refine lv_goto (tgt := 321) hx hb d_Mo_advance_149 (by decide) ?_
            refine lv_aload_n hx hb d_Mo_advance_321 rfl (lv_at hl 8 rfl) ?_
            refine lv_sipush (v := 264) hx hb d_Mo_advance_322 (by decide) ?_
            refine lv_iload hx hb d_Mo_advance_325 (lv_at hl 0 rfl) ?_
            refine gs_20 hC hB (by unfold vp_in; decide) d_Mo_advance_327 (fun H locs hB => ?_)
            replace hB : gB s0 s D cI cL ad (g_up (g_up G 16 14 (-1)) 20 264 (((G 20 264) + (((G 17 ((G 20 264).toNatClampNeg)) <<< ((16 : Int32) &&& 31)) >>> ((16 : Int32) &&& 31))) &&& (63 : Int32))) O H locs := hB
            refine lv_iconst (v := 1) hx hb d_Mo_advance_328 (by decide) ?_
            exact g_zret hC hB hr hlk (by decide) (by decide) (by decide) (by rw [hf]) (by rw [hf]) d_Mo_advance_329
      · replace hf := hf.trans (if_neg c4)
        replace hok := hok.2 c4
        refine lv_aload_n hx hb d_Mo_advance_88 rfl (lv_at hl 7 rfl) ?_
        refine lv_sipush (v := 268) hx hb d_Mo_advance_89 (by decide) ?_
        refine lv_iload hx hb d_Mo_advance_92 (lv_at hl 4 rfl) ?_
        refine lv_if_ne (tgt := 101) hx hb d_Mo_advance_94 (by decide) (fun c14 => ?_) (fun c14 => ?_)
        · replace hf := hf.trans (if_neg c14)
          refine lv_iconst (v := 2) hx hb d_Mo_advance_101 (by decide) ?_
          refine gs_20 hC hB (by unfold vp_in; decide) d_Mo_advance_102 (fun H locs hB => ?_)
          replace hB : gB s0 s D cI cL ad (g_up (g_up G 16 14 (-1)) 20 268 2) O H locs := hB
          refine lv_iconst (v := 1) hx hb d_Mo_advance_103 (by decide) ?_
          exact g_zret hC hB hr hlk (by decide) (by decide) (by decide) (by rw [hf]) (by rw [hf]) d_Mo_advance_104
        · replace hf := hf.trans (if_pos c14)
          refine lv_iconst (v := 1) hx hb d_Mo_advance_97 (by decide) ?_
          refine lv_goto (tgt := 102) hx hb d_Mo_advance_98 (by decide) ?_
          refine gs_20 hC hB (by unfold vp_in; decide) d_Mo_advance_102 (fun H locs hB => ?_)
          replace hB : gB s0 s D cI cL ad (g_up (g_up G 16 14 (-1)) 20 268 1) O H locs := hB
          refine lv_iconst (v := 1) hx hb d_Mo_advance_103 (by decide) ?_
          exact g_zret hC hB hr hlk (by decide) (by decide) (by decide) (by rw [hf]) (by rw [hf]) d_Mo_advance_104
  · replace hf := hf.trans (if_pos c1)
    replace hok := hok.1 c1
    refine lv_aload_n hx hb d_Mo_advance_65 rfl (lv_at hl 7 rfl) ?_
    refine lv_sipush (v := 265) hx hb d_Mo_advance_66 (by decide) ?_
    refine ga_20 (x := (G 20 265)) hC hB (by unfold vp_in; decide) rfl d_Mo_advance_69 ?_
    refine lv_iload_n hx hb d_Mo_advance_70 rfl (lv_at hl 8 rfl) ?_
    refine lv_icmp_lt (tgt := 76) hx hb d_Mo_advance_71 (by decide) (fun c15 => ?_) (fun c15 => ?_)
    · replace hf := hf.trans (if_pos c15)
      replace hok := hok.1 c15
      refine lv_iload hx hb d_Mo_advance_76 (lv_at hl 4 rfl) ?_
      refine lv_if_eq (tgt := 88) hx hb d_Mo_advance_78 (by decide) (fun c16 => ?_) (fun c16 => ?_)
      · replace hf := hf.trans (if_pos c16)
        replace hok := hok.1 c16
        refine lv_aload_n hx hb d_Mo_advance_88 rfl (lv_at hl 7 rfl) ?_
        refine lv_sipush (v := 268) hx hb d_Mo_advance_89 (by decide) ?_
        refine lv_iload hx hb d_Mo_advance_92 (lv_at hl 4 rfl) ?_
        refine lv_if_ne (tgt := 101) hx hb d_Mo_advance_94 (by decide) (fun c17 => ?_) (fun c17 => ?_)
        · replace hf := hf.trans (if_neg c17)
          refine lv_iconst (v := 2) hx hb d_Mo_advance_101 (by decide) ?_
          refine gs_20 hC hB (by unfold vp_in; decide) d_Mo_advance_102 (fun H locs hB => ?_)
          replace hB : gB s0 s D cI cL ad (g_up (g_up G 16 14 (-1)) 20 268 2) O H locs := hB
          refine lv_iconst (v := 1) hx hb d_Mo_advance_103 (by decide) ?_
          exact g_zret hC hB hr hlk (by decide) (by decide) (by decide) (by rw [hf]) (by rw [hf]) d_Mo_advance_104
        · replace hf := hf.trans (if_pos c17)
          refine lv_iconst (v := 1) hx hb d_Mo_advance_97 (by decide) ?_
          refine lv_goto (tgt := 102) hx hb d_Mo_advance_98 (by decide) ?_
          refine gs_20 hC hB (by unfold vp_in; decide) d_Mo_advance_102 (fun H locs hB => ?_)
          replace hB : gB s0 s D cI cL ad (g_up (g_up G 16 14 (-1)) 20 268 1) O H locs := hB
          refine lv_iconst (v := 1) hx hb d_Mo_advance_103 (by decide) ?_
          exact g_zret hC hB hr hlk (by decide) (by decide) (by decide) (by rw [hf]) (by rw [hf]) d_Mo_advance_104
      · replace hf := hf.trans (if_neg c16)
        replace hok := hok.2 c16
        refine lv_iload hx hb d_Mo_advance_81 (lv_at hl 4 rfl) ?_
        refine lv_bipush (v := 12) hx hb d_Mo_advance_83 (by decide) ?_
        refine lv_icmp_le (tgt := 105) hx hb d_Mo_advance_85 (by decide) (fun c18 => ?_) (fun c18 => ?_)
        · replace hf := hf.trans (if_pos c18)
          replace hok := hok.1 c18
          refine lv_aload_n hx hb d_Mo_advance_105 rfl (lv_at hl 7 rfl) ?_
          refine lv_sipush (v := 264) hx hb d_Mo_advance_106 (by decide) ?_
          refine ga_20 (x := (G 20 264)) hC hB (by unfold vp_in; decide) rfl d_Mo_advance_109 ?_
          refine lv_iconst (v := 1) hx hb d_Mo_advance_110 (by decide) ?_
          refine lv_iadd hx hb d_Mo_advance_111 ?_
          refine lv_bipush (v := 63) hx hb d_Mo_advance_112 (by decide) ?_
          refine lv_iand hx hb d_Mo_advance_114 ?_
          refine lv_istore (lv' := [(9, .int (((G 20 264) + (1 : Int32)) &&& (63 : Int32))), (8, .int (((G 17 ((G 20 264).toNatClampNeg)) <<< ((16 : Int32) &&& 31)) >>> ((16 : Int32) &&& 31))), (7, .int (((G 17 ((G 20 264).toNatClampNeg)) >>> ((16 : Int32) &&& 31)) &&& (7 : Int32))), (6, .int (((G 17 ((G 20 264).toNatClampNeg)) >>> ((20 : Int32) &&& 31)) &&& (7 : Int32))), (5, .int (((G 17 ((G 20 264).toNatClampNeg)) >>> ((24 : Int32) &&& 31)) &&& (7 : Int32))), (4, .int (f_Mo_kindOf G (G 17 ((G 20 264).toNatClampNeg)))), (3, .int (G 17 ((G 20 264).toNatClampNeg))), (0, .ref (ad 16)), (1, .ref (ad 20)), (2, .int p2)]) hx hb d_Mo_advance_115 hl (by decide) rfl (fun ls hl => ?_)
          refine lv_iload hx hb d_Mo_advance_117 (lv_at hl 5 rfl) ?_
          refine lv_bipush (v := 7) hx hb d_Mo_advance_119 (by decide) ?_
          refine lv_icmp_ne (tgt := 152) hx hb d_Mo_advance_121 (by decide) (fun c19 => ?_) (fun c19 => ?_)
          · replace hf := hf.trans (if_neg c19)
            replace hok := hok.2 c19
            refine lv_iload hx hb d_Mo_advance_152 (lv_at hl 5 rfl) ?_
            refine lv_bipush (v := 9) hx hb d_Mo_advance_154 (by decide) ?_
            refine lv_icmp_ne (tgt := 189) hx hb d_Mo_advance_156 (by decide) (fun c20 => ?_) (fun c20 => ?_)
            · replace hf := hf.trans (if_neg c20)
              replace hok := hok.2 c20
              refine lv_iload hx hb d_Mo_advance_189 (lv_at hl 5 rfl) ?_
              refine lv_bipush (v := 6) hx hb d_Mo_advance_191 (by decide) ?_
              refine lv_icmp_ne (tgt := 227) hx hb d_Mo_advance_193 (by decide) (fun c21 => ?_) (fun c21 => ?_)
              · replace hf := hf.trans (if_neg c21)
                replace hok := hok.2 c21
                refine lv_iload hx hb d_Mo_advance_227 (lv_at hl 5 rfl) ?_
                refine lv_iconst (v := 5) hx hb d_Mo_advance_229 (by decide) ?_
                refine lv_icmp_ne (tgt := 252) hx hb d_Mo_advance_230 (by decide) (fun c22 => ?_) (fun c22 => ?_)
                · replace hf := hf.trans (if_neg c22)
                  replace hok := hok.2 c22
                  refine lv_iload hx hb d_Mo_advance_252 (lv_at hl 5 rfl) ?_
                  refine lv_bipush (v := 8) hx hb d_Mo_advance_254 (by decide) ?_
                  refine lv_icmp_ne (tgt := 272) hx hb d_Mo_advance_256 (by decide) (fun c23 => ?_) (fun c23 => ?_)
                  · replace hf := hf.trans (if_neg c23)
                    replace hok := hok.2 c23
                    refine lv_iload hx hb d_Mo_advance_272 (lv_at hl 5 rfl) ?_
                    refine lv_aload_n hx hb d_Mo_advance_274 rfl (lv_at hl 8 rfl) ?_
                    refine lv_iload hx hb d_Mo_advance_275 (lv_at hl 3 rfl) ?_
                    refine ga_20 (x := (G 20 ((((G 17 ((G 20 264).toNatClampNeg)) >>> ((20 : Int32) &&& 31)) &&& (7 : Int32)).toNatClampNeg))) hC hB hok.1 rfl d_Mo_advance_277 ?_
                    replace hok := hok.2
                    refine lv_aload_n hx hb d_Mo_advance_278 rfl (lv_at hl 8 rfl) ?_
                    refine lv_iload hx hb d_Mo_advance_279 (lv_at hl 2 rfl) ?_
                    refine ga_20 (x := (G 20 ((((G 17 ((G 20 264).toNatClampNeg)) >>> ((16 : Int32) &&& 31)) &&& (7 : Int32)).toNatClampNeg))) hC hB hok.1 rfl d_Mo_advance_281 ?_
                    replace hok := hok.2
                    refine lv_iload hx hb d_Mo_advance_282 (lv_at hl 1 rfl) ?_
                    refine g_callSi (As := [.int (f_Mo_kindOf G (G 17 ((G 20 264).toNatClampNeg))), .int (G 20 ((((G 17 ((G 20 264).toNatClampNeg)) >>> ((20 : Int32) &&& 31)) &&& (7 : Int32)).toNatClampNeg)), .int (G 20 ((((G 17 ((G 20 264).toNatClampNeg)) >>> ((16 : Int32) &&& 31)) &&& (7 : Int32)).toNatClampNeg)), .int (((G 17 ((G 20 264).toNatClampNeg)) <<< ((16 : Int32) &&& 31)) >>> ((16 : Int32) &&& 31))]) (rest := []) hC hB (c_Mo_result l (g_up G 16 14 (-1)) (f_Mo_kindOf G (G 17 ((G 20 264).toNatClampNeg))) (G 20 ((((G 17 ((G 20 264).toNatClampNeg)) >>> ((20 : Int32) &&& 31)) &&& (7 : Int32)).toNatClampNeg)) (G 20 ((((G 17 ((G 20 264).toNatClampNeg)) >>> ((16 : Int32) &&& 31)) &&& (7 : Int32)).toNatClampNeg)) (((G 17 ((G 20 264).toNatClampNeg)) <<< ((16 : Int32) &&& 31)) >>> ((16 : Int32) &&& 31)) O) rfl key_Mo_result rfl sta_Mo_result ml_Mo_75 rfl hl.1 ⟨Nat.le_of_ble_eq_true rfl, Nat.le_of_ble_eq_true rfl, Nat.le_of_ble_eq_true rfl, Nat.le_of_ble_eq_true rfl⟩ d_Mo_advance_284 (fun H locs hB => ?_)
                    refine lv_istore (lv' := [(10, .int (f_Mo_result (g_up G 16 14 (-1)) (f_Mo_kindOf G (G 17 ((G 20 264).toNatClampNeg))) (G 20 ((((G 17 ((G 20 264).toNatClampNeg)) >>> ((20 : Int32) &&& 31)) &&& (7 : Int32)).toNatClampNeg)) (G 20 ((((G 17 ((G 20 264).toNatClampNeg)) >>> ((16 : Int32) &&& 31)) &&& (7 : Int32)).toNatClampNeg)) (((G 17 ((G 20 264).toNatClampNeg)) <<< ((16 : Int32) &&& 31)) >>> ((16 : Int32) &&& 31)))), (9, .int (((G 20 264) + (1 : Int32)) &&& (63 : Int32))), (8, .int (((G 17 ((G 20 264).toNatClampNeg)) <<< ((16 : Int32) &&& 31)) >>> ((16 : Int32) &&& 31))), (7, .int (((G 17 ((G 20 264).toNatClampNeg)) >>> ((16 : Int32) &&& 31)) &&& (7 : Int32))), (6, .int (((G 17 ((G 20 264).toNatClampNeg)) >>> ((20 : Int32) &&& 31)) &&& (7 : Int32))), (5, .int (((G 17 ((G 20 264).toNatClampNeg)) >>> ((24 : Int32) &&& 31)) &&& (7 : Int32))), (4, .int (f_Mo_kindOf G (G 17 ((G 20 264).toNatClampNeg)))), (3, .int (G 17 ((G 20 264).toNatClampNeg))), (0, .ref (ad 16)), (1, .ref (ad 20)), (2, .int p2)]) hx hb d_Mo_advance_287 hl (by decide) rfl (fun ls hl => ?_)
                    refine lv_aload_n hx hb d_Mo_advance_289 rfl (lv_at hl 9 rfl) ?_
                    refine lv_sipush (v := 265) hx hb d_Mo_advance_290 (by decide) ?_
                    refine lv_dup2_11 hx hb d_Mo_advance_293 rfl rfl ?_
                    refine ga_20 (x := (G 20 265)) hC hB (by unfold vp_in; decide) rfl d_Mo_advance_294 ?_
                    refine lv_iload hx hb d_Mo_advance_295 (lv_at hl 6 rfl) ?_
                    refine lv_bipush (v := 8) hx hb d_Mo_advance_297 (by decide) ?_
                    refine lv_icmp_ne (tgt := 306) hx hb d_Mo_advance_299 (by decide) (fun c24 => ?_) (fun c24 => ?_)
                    · replace hf := hf.trans (if_neg c24)
                      replace hok := hok.2 c24
                      refine lv_iconst (v := 0) hx hb d_Mo_advance_306 (by decide) ?_
                      refine lv_iadd hx hb d_Mo_advance_307 ?_
                      refine gs_20 hC hB (by unfold vp_in; decide) d_Mo_advance_308 (fun H locs hB => ?_)
                      replace hB : gB s0 s D cI cL ad (g_up (g_up G 16 14 (-1)) 20 265 ((G 20 265) + (0 : Int32))) O H locs := hB
                      refine lv_aload_n hx hb d_Mo_advance_309 rfl (lv_at hl 9 rfl) ?_
                      refine lv_iload hx hb d_Mo_advance_310 (lv_at hl 5 rfl) ?_
                      refine lv_iload hx hb d_Mo_advance_312 (lv_at hl 0 rfl) ?_
                      refine gs_20 hC hB hok.1 d_Mo_advance_314 (fun H locs hB => ?_)
                      replace hok := hok.2
                      refine lv_aload_n hx hb d_Mo_advance_315 rfl (lv_at hl 8 rfl) ?_
                      refine lv_iload hx hb d_Mo_advance_316 (lv_at hl 5 rfl) ?_
                      refine gp_16_14 hC hB fl_Mo_72 d_Mo_advance_318 (fun H locs hB => ?_)
                      refine lv_aload_n hx hb d_Mo_advance_321 rfl (lv_at hl 9 rfl) ?_
                      refine lv_sipush (v := 264) hx hb d_Mo_advance_322 (by decide) ?_
                      refine lv_iload hx hb d_Mo_advance_325 (lv_at hl 1 rfl) ?_
                      refine gs_20 hC hB (by unfold vp_in; decide) d_Mo_advance_327 (fun H locs hB => ?_)
                      replace hB : gB s0 s D cI cL ad (g_up (g_up (g_up (g_up (g_up G 16 14 (-1)) 20 265 ((G 20 265) + (0 : Int32))) 20 ((((G 17 ((G 20 264).toNatClampNeg)) >>> ((24 : Int32) &&& 31)) &&& (7 : Int32)).toNatClampNeg) (f_Mo_result (g_up G 16 14 (-1)) (f_Mo_kindOf G (G 17 ((G 20 264).toNatClampNeg))) (G 20 ((((G 17 ((G 20 264).toNatClampNeg)) >>> ((20 : Int32) &&& 31)) &&& (7 : Int32)).toNatClampNeg)) (G 20 ((((G 17 ((G 20 264).toNatClampNeg)) >>> ((16 : Int32) &&& 31)) &&& (7 : Int32)).toNatClampNeg)) (((G 17 ((G 20 264).toNatClampNeg)) <<< ((16 : Int32) &&& 31)) >>> ((16 : Int32) &&& 31)))) 16 14 (((G 17 ((G 20 264).toNatClampNeg)) >>> ((24 : Int32) &&& 31)) &&& (7 : Int32))) 20 264 (((G 20 264) + (1 : Int32)) &&& (63 : Int32))) O H locs := hB
                      refine lv_iconst (v := 1) hx hb d_Mo_advance_328 (by decide) ?_
                      exact g_zret hC hB hr hlk (by decide) (by decide) (by decide) (by rw [hf]) (by rw [hf]) d_Mo_advance_329
                    · replace hf := hf.trans (if_pos c24)
                      replace hok := hok.1 c24
                      refine lv_iconst (v := 1) hx hb d_Mo_advance_302 (by decide) ?_
                      refine lv_goto (tgt := 307) hx hb d_Mo_advance_303 (by decide) ?_
                      refine lv_iadd hx hb d_Mo_advance_307 ?_
                      refine gs_20 hC hB (by unfold vp_in; decide) d_Mo_advance_308 (fun H locs hB => ?_)
                      replace hB : gB s0 s D cI cL ad (g_up (g_up G 16 14 (-1)) 20 265 ((G 20 265) + (1 : Int32))) O H locs := hB
                      refine lv_aload_n hx hb d_Mo_advance_309 rfl (lv_at hl 9 rfl) ?_
                      refine lv_iload hx hb d_Mo_advance_310 (lv_at hl 5 rfl) ?_
                      refine lv_iload hx hb d_Mo_advance_312 (lv_at hl 0 rfl) ?_
                      refine gs_20 hC hB hok.1 d_Mo_advance_314 (fun H locs hB => ?_)
                      replace hok := hok.2
                      refine lv_aload_n hx hb d_Mo_advance_315 rfl (lv_at hl 8 rfl) ?_
                      refine lv_iload hx hb d_Mo_advance_316 (lv_at hl 5 rfl) ?_
                      refine gp_16_14 hC hB fl_Mo_72 d_Mo_advance_318 (fun H locs hB => ?_)
                      refine lv_aload_n hx hb d_Mo_advance_321 rfl (lv_at hl 9 rfl) ?_
                      refine lv_sipush (v := 264) hx hb d_Mo_advance_322 (by decide) ?_
                      refine lv_iload hx hb d_Mo_advance_325 (lv_at hl 1 rfl) ?_
                      refine gs_20 hC hB (by unfold vp_in; decide) d_Mo_advance_327 (fun H locs hB => ?_)
                      replace hB : gB s0 s D cI cL ad (g_up (g_up (g_up (g_up (g_up G 16 14 (-1)) 20 265 ((G 20 265) + (1 : Int32))) 20 ((((G 17 ((G 20 264).toNatClampNeg)) >>> ((24 : Int32) &&& 31)) &&& (7 : Int32)).toNatClampNeg) (f_Mo_result (g_up G 16 14 (-1)) (f_Mo_kindOf G (G 17 ((G 20 264).toNatClampNeg))) (G 20 ((((G 17 ((G 20 264).toNatClampNeg)) >>> ((20 : Int32) &&& 31)) &&& (7 : Int32)).toNatClampNeg)) (G 20 ((((G 17 ((G 20 264).toNatClampNeg)) >>> ((16 : Int32) &&& 31)) &&& (7 : Int32)).toNatClampNeg)) (((G 17 ((G 20 264).toNatClampNeg)) <<< ((16 : Int32) &&& 31)) >>> ((16 : Int32) &&& 31)))) 16 14 (((G 17 ((G 20 264).toNatClampNeg)) >>> ((24 : Int32) &&& 31)) &&& (7 : Int32))) 20 264 (((G 20 264) + (1 : Int32)) &&& (63 : Int32))) O H locs := hB
                      refine lv_iconst (v := 1) hx hb d_Mo_advance_328 (by decide) ?_
                      exact g_zret hC hB hr hlk (by decide) (by decide) (by decide) (by rw [hf]) (by rw [hf]) d_Mo_advance_329
                  · replace hf := hf.trans (if_pos c23)
                    replace hok := hok.1 c23
                    refine lv_aload_n hx hb d_Mo_advance_259 rfl (lv_at hl 7 rfl) ?_
                    refine gr_16_5 hC hB fl_Mo_13 d_Mo_advance_260 ?_
                    refine lv_aload_n hx hb d_Mo_advance_263 rfl (lv_at hl 8 rfl) ?_
                    refine lv_sipush (v := 265) hx hb d_Mo_advance_264 (by decide) ?_
                    refine ga_20 (x := (G 20 265)) hC hB (by unfold vp_in; decide) rfl d_Mo_advance_267 ?_
                    refine ga_18 (x := (G 18 ((G 20 265).toNatClampNeg))) hC hB hok.1 rfl d_Mo_advance_268 ?_
                    replace hok := hok.2
                    refine lv_goto (tgt := 287) hx hb d_Mo_advance_269 (by decide) ?_
                    refine lv_istore (lv' := [(10, .int (G 18 ((G 20 265).toNatClampNeg))), (9, .int (((G 20 264) + (1 : Int32)) &&& (63 : Int32))), (8, .int (((G 17 ((G 20 264).toNatClampNeg)) <<< ((16 : Int32) &&& 31)) >>> ((16 : Int32) &&& 31))), (7, .int (((G 17 ((G 20 264).toNatClampNeg)) >>> ((16 : Int32) &&& 31)) &&& (7 : Int32))), (6, .int (((G 17 ((G 20 264).toNatClampNeg)) >>> ((20 : Int32) &&& 31)) &&& (7 : Int32))), (5, .int (((G 17 ((G 20 264).toNatClampNeg)) >>> ((24 : Int32) &&& 31)) &&& (7 : Int32))), (4, .int (f_Mo_kindOf G (G 17 ((G 20 264).toNatClampNeg)))), (3, .int (G 17 ((G 20 264).toNatClampNeg))), (0, .ref (ad 16)), (1, .ref (ad 20)), (2, .int p2)]) hx hb d_Mo_advance_287 hl (by decide) rfl (fun ls hl => ?_)
                    refine lv_aload_n hx hb d_Mo_advance_289 rfl (lv_at hl 9 rfl) ?_
                    refine lv_sipush (v := 265) hx hb d_Mo_advance_290 (by decide) ?_
                    refine lv_dup2_11 hx hb d_Mo_advance_293 rfl rfl ?_
                    refine ga_20 (x := (G 20 265)) hC hB (by unfold vp_in; decide) rfl d_Mo_advance_294 ?_
                    refine lv_iload hx hb d_Mo_advance_295 (lv_at hl 6 rfl) ?_
                    refine lv_bipush (v := 8) hx hb d_Mo_advance_297 (by decide) ?_
                    refine lv_icmp_ne (tgt := 306) hx hb d_Mo_advance_299 (by decide) (fun c25 => ?_) (fun c25 => ?_)
                    · replace hf := hf.trans (if_neg c25)
                      replace hok := hok.2 c25
                      refine lv_iconst (v := 0) hx hb d_Mo_advance_306 (by decide) ?_
                      refine lv_iadd hx hb d_Mo_advance_307 ?_
                      refine gs_20 hC hB (by unfold vp_in; decide) d_Mo_advance_308 (fun H locs hB => ?_)
                      replace hB : gB s0 s D cI cL ad (g_up (g_up G 16 14 (-1)) 20 265 ((G 20 265) + (0 : Int32))) O H locs := hB
                      refine lv_aload_n hx hb d_Mo_advance_309 rfl (lv_at hl 9 rfl) ?_
                      refine lv_iload hx hb d_Mo_advance_310 (lv_at hl 5 rfl) ?_
                      refine lv_iload hx hb d_Mo_advance_312 (lv_at hl 0 rfl) ?_
                      refine gs_20 hC hB hok.1 d_Mo_advance_314 (fun H locs hB => ?_)
                      replace hok := hok.2
                      refine lv_aload_n hx hb d_Mo_advance_315 rfl (lv_at hl 8 rfl) ?_
                      refine lv_iload hx hb d_Mo_advance_316 (lv_at hl 5 rfl) ?_
                      refine gp_16_14 hC hB fl_Mo_72 d_Mo_advance_318 (fun H locs hB => ?_)
                      refine lv_aload_n hx hb d_Mo_advance_321 rfl (lv_at hl 9 rfl) ?_
                      refine lv_sipush (v := 264) hx hb d_Mo_advance_322 (by decide) ?_
                      refine lv_iload hx hb d_Mo_advance_325 (lv_at hl 1 rfl) ?_
                      refine gs_20 hC hB (by unfold vp_in; decide) d_Mo_advance_327 (fun H locs hB => ?_)
                      replace hB : gB s0 s D cI cL ad (g_up (g_up (g_up (g_up (g_up G 16 14 (-1)) 20 265 ((G 20 265) + (0 : Int32))) 20 ((((G 17 ((G 20 264).toNatClampNeg)) >>> ((24 : Int32) &&& 31)) &&& (7 : Int32)).toNatClampNeg) (G 18 ((G 20 265).toNatClampNeg))) 16 14 (((G 17 ((G 20 264).toNatClampNeg)) >>> ((24 : Int32) &&& 31)) &&& (7 : Int32))) 20 264 (((G 20 264) + (1 : Int32)) &&& (63 : Int32))) O H locs := hB
                      refine lv_iconst (v := 1) hx hb d_Mo_advance_328 (by decide) ?_
                      exact g_zret hC hB hr hlk (by decide) (by decide) (by decide) (by rw [hf]) (by rw [hf]) d_Mo_advance_329
                    · replace hf := hf.trans (if_pos c25)
                      replace hok := hok.1 c25
                      refine lv_iconst (v := 1) hx hb d_Mo_advance_302 (by decide) ?_
                      refine lv_goto (tgt := 307) hx hb d_Mo_advance_303 (by decide) ?_
                      refine lv_iadd hx hb d_Mo_advance_307 ?_
                      refine gs_20 hC hB (by unfold vp_in; decide) d_Mo_advance_308 (fun H locs hB => ?_)
                      replace hB : gB s0 s D cI cL ad (g_up (g_up G 16 14 (-1)) 20 265 ((G 20 265) + (1 : Int32))) O H locs := hB
                      refine lv_aload_n hx hb d_Mo_advance_309 rfl (lv_at hl 9 rfl) ?_
                      refine lv_iload hx hb d_Mo_advance_310 (lv_at hl 5 rfl) ?_
                      refine lv_iload hx hb d_Mo_advance_312 (lv_at hl 0 rfl) ?_
                      refine gs_20 hC hB hok.1 d_Mo_advance_314 (fun H locs hB => ?_)
                      replace hok := hok.2
                      refine lv_aload_n hx hb d_Mo_advance_315 rfl (lv_at hl 8 rfl) ?_
                      refine lv_iload hx hb d_Mo_advance_316 (lv_at hl 5 rfl) ?_
                      refine gp_16_14 hC hB fl_Mo_72 d_Mo_advance_318 (fun H locs hB => ?_)
                      refine lv_aload_n hx hb d_Mo_advance_321 rfl (lv_at hl 9 rfl) ?_
                      refine lv_sipush (v := 264) hx hb d_Mo_advance_322 (by decide) ?_
                      refine lv_iload hx hb d_Mo_advance_325 (lv_at hl 1 rfl) ?_
                      refine gs_20 hC hB (by unfold vp_in; decide) d_Mo_advance_327 (fun H locs hB => ?_)
                      replace hB : gB s0 s D cI cL ad (g_up (g_up (g_up (g_up (g_up G 16 14 (-1)) 20 265 ((G 20 265) + (1 : Int32))) 20 ((((G 17 ((G 20 264).toNatClampNeg)) >>> ((24 : Int32) &&& 31)) &&& (7 : Int32)).toNatClampNeg) (G 18 ((G 20 265).toNatClampNeg))) 16 14 (((G 17 ((G 20 264).toNatClampNeg)) >>> ((24 : Int32) &&& 31)) &&& (7 : Int32))) 20 264 (((G 20 264) + (1 : Int32)) &&& (63 : Int32))) O H locs := hB
                      refine lv_iconst (v := 1) hx hb d_Mo_advance_328 (by decide) ?_
                      exact g_zret hC hB hr hlk (by decide) (by decide) (by decide) (by rw [hf]) (by rw [hf]) d_Mo_advance_329
                · replace hf := hf.trans (if_pos c22)
                  replace hok := hok.1 c22
                  refine lv_aload_n hx hb d_Mo_advance_233 rfl (lv_at hl 8 rfl) ?_
                  refine lv_bipush (v := 8) hx hb d_Mo_advance_234 (by decide) ?_
                  refine lv_aload_n hx hb d_Mo_advance_236 rfl (lv_at hl 8 rfl) ?_
                  refine lv_iload hx hb d_Mo_advance_237 (lv_at hl 3 rfl) ?_
                  refine ga_20 (x := (G 20 ((((G 17 ((G 20 264).toNatClampNeg)) >>> ((20 : Int32) &&& 31)) &&& (7 : Int32)).toNatClampNeg))) hC hB hok.1 rfl d_Mo_advance_239 ?_
                  replace hok := hok.2
                  refine lv_iload hx hb d_Mo_advance_240 (lv_at hl 1 rfl) ?_
                  refine lv_iadd hx hb d_Mo_advance_242 ?_
                  refine lv_sipush (v := 255) hx hb d_Mo_advance_243 (by decide) ?_
                  refine lv_iand hx hb d_Mo_advance_246 ?_
                  refine lv_iadd hx hb d_Mo_advance_247 ?_
                  refine ga_20 (x := (G 20 (((8 : Int32) + (((G 20 ((((G 17 ((G 20 264).toNatClampNeg)) >>> ((20 : Int32) &&& 31)) &&& (7 : Int32)).toNatClampNeg)) + (((G 17 ((G 20 264).toNatClampNeg)) <<< ((16 : Int32) &&& 31)) >>> ((16 : Int32) &&& 31))) &&& (255 : Int32))).toNatClampNeg))) hC hB hok.1 rfl d_Mo_advance_248 ?_
                  replace hok := hok.2
                  refine lv_goto (tgt := 287) hx hb d_Mo_advance_249 (by decide) ?_
                  refine lv_istore (lv' := [(10, .int (G 20 (((8 : Int32) + (((G 20 ((((G 17 ((G 20 264).toNatClampNeg)) >>> ((20 : Int32) &&& 31)) &&& (7 : Int32)).toNatClampNeg)) + (((G 17 ((G 20 264).toNatClampNeg)) <<< ((16 : Int32) &&& 31)) >>> ((16 : Int32) &&& 31))) &&& (255 : Int32))).toNatClampNeg))), (9, .int (((G 20 264) + (1 : Int32)) &&& (63 : Int32))), (8, .int (((G 17 ((G 20 264).toNatClampNeg)) <<< ((16 : Int32) &&& 31)) >>> ((16 : Int32) &&& 31))), (7, .int (((G 17 ((G 20 264).toNatClampNeg)) >>> ((16 : Int32) &&& 31)) &&& (7 : Int32))), (6, .int (((G 17 ((G 20 264).toNatClampNeg)) >>> ((20 : Int32) &&& 31)) &&& (7 : Int32))), (5, .int (((G 17 ((G 20 264).toNatClampNeg)) >>> ((24 : Int32) &&& 31)) &&& (7 : Int32))), (4, .int (f_Mo_kindOf G (G 17 ((G 20 264).toNatClampNeg)))), (3, .int (G 17 ((G 20 264).toNatClampNeg))), (0, .ref (ad 16)), (1, .ref (ad 20)), (2, .int p2)]) hx hb d_Mo_advance_287 hl (by decide) rfl (fun ls hl => ?_)
                  refine lv_aload_n hx hb d_Mo_advance_289 rfl (lv_at hl 9 rfl) ?_
                  refine lv_sipush (v := 265) hx hb d_Mo_advance_290 (by decide) ?_
                  refine lv_dup2_11 hx hb d_Mo_advance_293 rfl rfl ?_
                  refine ga_20 (x := (G 20 265)) hC hB (by unfold vp_in; decide) rfl d_Mo_advance_294 ?_
                  refine lv_iload hx hb d_Mo_advance_295 (lv_at hl 6 rfl) ?_
                  refine lv_bipush (v := 8) hx hb d_Mo_advance_297 (by decide) ?_
                  refine lv_icmp_ne (tgt := 306) hx hb d_Mo_advance_299 (by decide) (fun c26 => ?_) (fun c26 => ?_)
                  · replace hf := hf.trans (if_neg c26)
                    replace hok := hok.2 c26
                    refine lv_iconst (v := 0) hx hb d_Mo_advance_306 (by decide) ?_
                    refine lv_iadd hx hb d_Mo_advance_307 ?_
                    refine gs_20 hC hB (by unfold vp_in; decide) d_Mo_advance_308 (fun H locs hB => ?_)
                    replace hB : gB s0 s D cI cL ad (g_up (g_up G 16 14 (-1)) 20 265 ((G 20 265) + (0 : Int32))) O H locs := hB
                    refine lv_aload_n hx hb d_Mo_advance_309 rfl (lv_at hl 9 rfl) ?_
                    refine lv_iload hx hb d_Mo_advance_310 (lv_at hl 5 rfl) ?_
                    refine lv_iload hx hb d_Mo_advance_312 (lv_at hl 0 rfl) ?_
                    refine gs_20 hC hB hok.1 d_Mo_advance_314 (fun H locs hB => ?_)
                    replace hok := hok.2
                    refine lv_aload_n hx hb d_Mo_advance_315 rfl (lv_at hl 8 rfl) ?_
                    refine lv_iload hx hb d_Mo_advance_316 (lv_at hl 5 rfl) ?_
                    refine gp_16_14 hC hB fl_Mo_72 d_Mo_advance_318 (fun H locs hB => ?_)
                    refine lv_aload_n hx hb d_Mo_advance_321 rfl (lv_at hl 9 rfl) ?_
                    refine lv_sipush (v := 264) hx hb d_Mo_advance_322 (by decide) ?_
                    refine lv_iload hx hb d_Mo_advance_325 (lv_at hl 1 rfl) ?_
                    refine gs_20 hC hB (by unfold vp_in; decide) d_Mo_advance_327 (fun H locs hB => ?_)
                    replace hB : gB s0 s D cI cL ad (g_up (g_up (g_up (g_up (g_up G 16 14 (-1)) 20 265 ((G 20 265) + (0 : Int32))) 20 ((((G 17 ((G 20 264).toNatClampNeg)) >>> ((24 : Int32) &&& 31)) &&& (7 : Int32)).toNatClampNeg) (G 20 (((8 : Int32) + (((G 20 ((((G 17 ((G 20 264).toNatClampNeg)) >>> ((20 : Int32) &&& 31)) &&& (7 : Int32)).toNatClampNeg)) + (((G 17 ((G 20 264).toNatClampNeg)) <<< ((16 : Int32) &&& 31)) >>> ((16 : Int32) &&& 31))) &&& (255 : Int32))).toNatClampNeg))) 16 14 (((G 17 ((G 20 264).toNatClampNeg)) >>> ((24 : Int32) &&& 31)) &&& (7 : Int32))) 20 264 (((G 20 264) + (1 : Int32)) &&& (63 : Int32))) O H locs := hB
                    refine lv_iconst (v := 1) hx hb d_Mo_advance_328 (by decide) ?_
                    exact g_zret hC hB hr hlk (by decide) (by decide) (by decide) (by rw [hf]) (by rw [hf]) d_Mo_advance_329
                  · replace hf := hf.trans (if_pos c26)
                    replace hok := hok.1 c26
                    refine lv_iconst (v := 1) hx hb d_Mo_advance_302 (by decide) ?_
                    refine lv_goto (tgt := 307) hx hb d_Mo_advance_303 (by decide) ?_
                    refine lv_iadd hx hb d_Mo_advance_307 ?_
                    refine gs_20 hC hB (by unfold vp_in; decide) d_Mo_advance_308 (fun H locs hB => ?_)
                    replace hB : gB s0 s D cI cL ad (g_up (g_up G 16 14 (-1)) 20 265 ((G 20 265) + (1 : Int32))) O H locs := hB
                    refine lv_aload_n hx hb d_Mo_advance_309 rfl (lv_at hl 9 rfl) ?_
                    refine lv_iload hx hb d_Mo_advance_310 (lv_at hl 5 rfl) ?_
                    refine lv_iload hx hb d_Mo_advance_312 (lv_at hl 0 rfl) ?_
                    refine gs_20 hC hB hok.1 d_Mo_advance_314 (fun H locs hB => ?_)
                    replace hok := hok.2
                    refine lv_aload_n hx hb d_Mo_advance_315 rfl (lv_at hl 8 rfl) ?_
                    refine lv_iload hx hb d_Mo_advance_316 (lv_at hl 5 rfl) ?_
                    refine gp_16_14 hC hB fl_Mo_72 d_Mo_advance_318 (fun H locs hB => ?_)
                    refine lv_aload_n hx hb d_Mo_advance_321 rfl (lv_at hl 9 rfl) ?_
                    refine lv_sipush (v := 264) hx hb d_Mo_advance_322 (by decide) ?_
                    refine lv_iload hx hb d_Mo_advance_325 (lv_at hl 1 rfl) ?_
                    refine gs_20 hC hB (by unfold vp_in; decide) d_Mo_advance_327 (fun H locs hB => ?_)
                    replace hB : gB s0 s D cI cL ad (g_up (g_up (g_up (g_up (g_up G 16 14 (-1)) 20 265 ((G 20 265) + (1 : Int32))) 20 ((((G 17 ((G 20 264).toNatClampNeg)) >>> ((24 : Int32) &&& 31)) &&& (7 : Int32)).toNatClampNeg) (G 20 (((8 : Int32) + (((G 20 ((((G 17 ((G 20 264).toNatClampNeg)) >>> ((20 : Int32) &&& 31)) &&& (7 : Int32)).toNatClampNeg)) + (((G 17 ((G 20 264).toNatClampNeg)) <<< ((16 : Int32) &&& 31)) >>> ((16 : Int32) &&& 31))) &&& (255 : Int32))).toNatClampNeg))) 16 14 (((G 17 ((G 20 264).toNatClampNeg)) >>> ((24 : Int32) &&& 31)) &&& (7 : Int32))) 20 264 (((G 20 264) + (1 : Int32)) &&& (63 : Int32))) O H locs := hB
                    refine lv_iconst (v := 1) hx hb d_Mo_advance_328 (by decide) ?_
                    exact g_zret hC hB hr hlk (by decide) (by decide) (by decide) (by rw [hf]) (by rw [hf]) d_Mo_advance_329
              · replace hf := hf.trans (if_pos c21)
                replace hok := hok.1 c21
                refine lv_aload_n hx hb d_Mo_advance_196 rfl (lv_at hl 7 rfl) ?_
                refine lv_bipush (v := 8) hx hb d_Mo_advance_197 (by decide) ?_
                refine lv_aload_n hx hb d_Mo_advance_199 rfl (lv_at hl 8 rfl) ?_
                refine lv_iload hx hb d_Mo_advance_200 (lv_at hl 3 rfl) ?_
                refine ga_20 (x := (G 20 ((((G 17 ((G 20 264).toNatClampNeg)) >>> ((20 : Int32) &&& 31)) &&& (7 : Int32)).toNatClampNeg))) hC hB hok.1 rfl d_Mo_advance_202 ?_
                replace hok := hok.2
                refine lv_iload hx hb d_Mo_advance_203 (lv_at hl 1 rfl) ?_
                refine lv_iadd hx hb d_Mo_advance_205 ?_
                refine lv_sipush (v := 255) hx hb d_Mo_advance_206 (by decide) ?_
                refine lv_iand hx hb d_Mo_advance_209 ?_
                refine lv_iadd hx hb d_Mo_advance_210 ?_
                refine gp_16_14 hC hB fl_Mo_72 d_Mo_advance_211 (fun H locs hB => ?_)
                refine lv_aload_n hx hb d_Mo_advance_214 rfl (lv_at hl 8 rfl) ?_
                refine lv_aload_n hx hb d_Mo_advance_215 rfl (lv_at hl 7 rfl) ?_
                refine gg_16_14 (x := (8 : Int32) + (((G 20 ((((G 17 ((G 20 264).toNatClampNeg)) >>> ((20 : Int32) &&& 31)) &&& (7 : Int32)).toNatClampNeg)) + (((G 17 ((G 20 264).toNatClampNeg)) <<< ((16 : Int32) &&& 31)) >>> ((16 : Int32) &&& 31))) &&& (255 : Int32))) hC hB rfl fl_Mo_72 d_Mo_advance_216 ?_
                refine lv_aload_n hx hb d_Mo_advance_219 rfl (lv_at hl 8 rfl) ?_
                refine lv_iload hx hb d_Mo_advance_220 (lv_at hl 4 rfl) ?_
                refine ga_20 (x := (G 20 ((((G 17 ((G 20 264).toNatClampNeg)) >>> ((24 : Int32) &&& 31)) &&& (7 : Int32)).toNatClampNeg))) hC hB hok.1 rfl d_Mo_advance_222 ?_
                replace hok := hok.2
                refine gs_20 hC hB hok.1 d_Mo_advance_223 (fun H locs hB => ?_)
                replace hok := hok.2
                refine lv_goto (tgt := 321) hx hb d_Mo_advance_224 (by decide) ?_
                refine lv_aload_n hx hb d_Mo_advance_321 rfl (lv_at hl 8 rfl) ?_
                refine lv_sipush (v := 264) hx hb d_Mo_advance_322 (by decide) ?_
                refine lv_iload hx hb d_Mo_advance_325 (lv_at hl 0 rfl) ?_
                refine gs_20 hC hB (by unfold vp_in; decide) d_Mo_advance_327 (fun H locs hB => ?_)
                replace hB : gB s0 s D cI cL ad (g_up (g_up (g_up (g_up G 16 14 (-1)) 16 14 ((8 : Int32) + (((G 20 ((((G 17 ((G 20 264).toNatClampNeg)) >>> ((20 : Int32) &&& 31)) &&& (7 : Int32)).toNatClampNeg)) + (((G 17 ((G 20 264).toNatClampNeg)) <<< ((16 : Int32) &&& 31)) >>> ((16 : Int32) &&& 31))) &&& (255 : Int32)))) 20 (((8 : Int32) + (((G 20 ((((G 17 ((G 20 264).toNatClampNeg)) >>> ((20 : Int32) &&& 31)) &&& (7 : Int32)).toNatClampNeg)) + (((G 17 ((G 20 264).toNatClampNeg)) <<< ((16 : Int32) &&& 31)) >>> ((16 : Int32) &&& 31))) &&& (255 : Int32))).toNatClampNeg) (G 20 ((((G 17 ((G 20 264).toNatClampNeg)) >>> ((24 : Int32) &&& 31)) &&& (7 : Int32)).toNatClampNeg))) 20 264 (((G 20 264) + (1 : Int32)) &&& (63 : Int32))) O H locs := hB
                refine lv_iconst (v := 1) hx hb d_Mo_advance_328 (by decide) ?_
                exact g_zret hC hB hr hlk (by decide) (by decide) (by decide) (by rw [hf]) (by rw [hf]) d_Mo_advance_329
            · replace hf := hf.trans (if_pos c20)
              replace hok := hok.1 c20
              refine lv_aload_n hx hb d_Mo_advance_159 rfl (lv_at hl 8 rfl) ?_
              refine lv_sipush (v := 266) hx hb d_Mo_advance_160 (by decide) ?_
              refine lv_dup2_11 hx hb d_Mo_advance_163 rfl rfl ?_
              refine ga_20 (x := (G 20 266)) hC hB (by unfold vp_in; decide) rfl d_Mo_advance_164 ?_
              refine lv_iconst (v := 1) hx hb d_Mo_advance_165 (by decide) ?_
              refine lv_iadd hx hb d_Mo_advance_166 ?_
              refine gs_20 hC hB (by unfold vp_in; decide) d_Mo_advance_167 (fun H locs hB => ?_)
              replace hB : gB s0 s D cI cL ad (g_up (g_up G 16 14 (-1)) 20 266 ((G 20 266) + (1 : Int32))) O H locs := hB
              refine lv_aload_n hx hb d_Mo_advance_168 rfl (lv_at hl 8 rfl) ?_
              refine lv_sipush (v := 267) hx hb d_Mo_advance_169 (by decide) ?_
              refine lv_bipush (v := 31) hx hb d_Mo_advance_172 (by decide) ?_
              refine lv_aload_n hx hb d_Mo_advance_174 rfl (lv_at hl 8 rfl) ?_
              refine lv_sipush (v := 267) hx hb d_Mo_advance_175 (by decide) ?_
              refine ga_20 (x := (G 20 267)) hC hB (by unfold vp_in; decide) rfl d_Mo_advance_178 ?_
              refine lv_imul hx hb d_Mo_advance_179 ?_
              refine lv_aload_n hx hb d_Mo_advance_180 rfl (lv_at hl 8 rfl) ?_
              refine lv_iload hx hb d_Mo_advance_181 (lv_at hl 4 rfl) ?_
              refine ga_20 (x := ((g_up (g_up G 16 14 (-1)) 20 266 ((G 20 266) + (1 : Int32))) 20 ((((G 17 ((G 20 264).toNatClampNeg)) >>> ((24 : Int32) &&& 31)) &&& (7 : Int32)).toNatClampNeg))) hC hB hok.1 rfl d_Mo_advance_183 ?_
              replace hok := hok.2
              refine lv_iadd hx hb d_Mo_advance_184 ?_
              refine gs_20 hC hB (by unfold vp_in; decide) d_Mo_advance_185 (fun H locs hB => ?_)
              replace hB : gB s0 s D cI cL ad (g_up (g_up (g_up G 16 14 (-1)) 20 266 ((G 20 266) + (1 : Int32))) 20 267 (((31 : Int32) * (G 20 267)) + ((g_up (g_up G 16 14 (-1)) 20 266 ((G 20 266) + (1 : Int32))) 20 ((((G 17 ((G 20 264).toNatClampNeg)) >>> ((24 : Int32) &&& 31)) &&& (7 : Int32)).toNatClampNeg)))) O H locs := hB
              refine lv_goto (tgt := 321) hx hb d_Mo_advance_186 (by decide) ?_
              refine lv_aload_n hx hb d_Mo_advance_321 rfl (lv_at hl 8 rfl) ?_
              refine lv_sipush (v := 264) hx hb d_Mo_advance_322 (by decide) ?_
              refine lv_iload hx hb d_Mo_advance_325 (lv_at hl 0 rfl) ?_
              refine gs_20 hC hB (by unfold vp_in; decide) d_Mo_advance_327 (fun H locs hB => ?_)
              replace hB : gB s0 s D cI cL ad (g_up (g_up (g_up (g_up G 16 14 (-1)) 20 266 ((G 20 266) + (1 : Int32))) 20 267 (((31 : Int32) * (G 20 267)) + ((g_up (g_up G 16 14 (-1)) 20 266 ((G 20 266) + (1 : Int32))) 20 ((((G 17 ((G 20 264).toNatClampNeg)) >>> ((24 : Int32) &&& 31)) &&& (7 : Int32)).toNatClampNeg)))) 20 264 (((G 20 264) + (1 : Int32)) &&& (63 : Int32))) O H locs := hB
              refine lv_iconst (v := 1) hx hb d_Mo_advance_328 (by decide) ?_
              exact g_zret hC hB hr hlk (by decide) (by decide) (by decide) (by rw [hf]) (by rw [hf]) d_Mo_advance_329
          · replace hf := hf.trans (if_pos c19)
            replace hok := hok.1 c19
            refine lv_aload_n hx hb d_Mo_advance_124 rfl (lv_at hl 8 rfl) ?_
            refine lv_iload hx hb d_Mo_advance_125 (lv_at hl 4 rfl) ?_
            refine ga_20 (x := (G 20 ((((G 17 ((G 20 264).toNatClampNeg)) >>> ((24 : Int32) &&& 31)) &&& (7 : Int32)).toNatClampNeg))) hC hB hok.1 rfl d_Mo_advance_127 ?_
            replace hok := hok.2
            refine lv_if_eq (tgt := 145) hx hb d_Mo_advance_128 (by decide) (fun c27 => ?_) (fun c27 => ?_)
            · replace hf := hf.trans (if_pos c27)
              refine lv_iload hx hb d_Mo_advance_145 (lv_at hl 0 rfl) ?_
              refine lv_istore (lv' := [(9, .int (((G 20 264) + (1 : Int32)) &&& (63 : Int32))), (8, .int (((G 17 ((G 20 264).toNatClampNeg)) <<< ((16 : Int32) &&& 31)) >>> ((16 : Int32) &&& 31))), (7, .int (((G 17 ((G 20 264).toNatClampNeg)) >>> ((16 : Int32) &&& 31)) &&& (7 : Int32))), (6, .int (((G 17 ((G 20 264).toNatClampNeg)) >>> ((20 : Int32) &&& 31)) &&& (7 : Int32))), (5, .int (((G 17 ((G 20 264).toNatClampNeg)) >>> ((24 : Int32) &&& 31)) &&& (7 : Int32))), (4, .int (f_Mo_kindOf G (G 17 ((G 20 264).toNatClampNeg)))), (3, .int (G 17 ((G 20 264).toNatClampNeg))), (0, .ref (ad 16)), (1, .ref (ad 20)), (2, .int p2)]) hx hb d_Mo_advance_147 hl (by decide) rfl (fun ls hl => ?_)
              refine lv_goto (tgt := 321) hx hb d_Mo_advance_149 (by decide) ?_
              refine lv_aload_n hx hb d_Mo_advance_321 rfl (lv_at hl 8 rfl) ?_
              refine lv_sipush (v := 264) hx hb d_Mo_advance_322 (by decide) ?_
              refine lv_iload hx hb d_Mo_advance_325 (lv_at hl 0 rfl) ?_
              refine gs_20 hC hB (by unfold vp_in; decide) d_Mo_advance_327 (fun H locs hB => ?_)
              replace hB : gB s0 s D cI cL ad (g_up (g_up G 16 14 (-1)) 20 264 (((G 20 264) + (1 : Int32)) &&& (63 : Int32))) O H locs := hB
              refine lv_iconst (v := 1) hx hb d_Mo_advance_328 (by decide) ?_
              exact g_zret hC hB hr hlk (by decide) (by decide) (by decide) (by rw [hf]) (by rw [hf]) d_Mo_advance_329
            · replace hf := hf.trans (if_neg c27)
              refine lv_aload_n hx hb d_Mo_advance_131 rfl (lv_at hl 8 rfl) ?_
              refine lv_sipush (v := 264) hx hb d_Mo_advance_132 (by decide) ?_
              refine ga_20 (x := (G 20 264)) hC hB (by unfold vp_in; decide) rfl d_Mo_advance_135 ?_
              refine lv_iload hx hb d_Mo_advance_136 (lv_at hl 1 rfl) ?_
              refine lv_iadd hx hb d_Mo_advance_138 ?_
              refine lv_bipush (v := 63) hx hb d_Mo_advance_139 (by decide) ?_
              refine lv_iand hx hb d_Mo_advance_141 ?_
              refine lv_goto (tgt := 147) hx hb d_Mo_advance_142 (by decide) ?_
              refine lv_istore (lv' := [(9, .int (((G 20 264) + (((G 17 ((G 20 264).toNatClampNeg)) <<< ((16 : Int32) &&& 31)) >>> ((16 : Int32) &&& 31))) &&& (63 : Int32))), (8, .int (((G 17 ((G 20 264).toNatClampNeg)) <<< ((16 : Int32) &&& 31)) >>> ((16 : Int32) &&& 31))), (7, .int (((G 17 ((G 20 264).toNatClampNeg)) >>> ((16 : Int32) &&& 31)) &&& (7 : Int32))), (6, .int (((G 17 ((G 20 264).toNatClampNeg)) >>> ((20 : Int32) &&& 31)) &&& (7 : Int32))), (5, .int (((G 17 ((G 20 264).toNatClampNeg)) >>> ((24 : Int32) &&& 31)) &&& (7 : Int32))), (4, .int (f_Mo_kindOf G (G 17 ((G 20 264).toNatClampNeg)))), (3, .int (G 17 ((G 20 264).toNatClampNeg))), (0, .ref (ad 16)), (1, .ref (ad 20)), (2, .int p2)]) hx hb d_Mo_advance_147 hl (by decide) rfl (fun ls hl => ?_)
              refine lv_goto (tgt := 321) hx hb d_Mo_advance_149 (by decide) ?_
              refine lv_aload_n hx hb d_Mo_advance_321 rfl (lv_at hl 8 rfl) ?_
              refine lv_sipush (v := 264) hx hb d_Mo_advance_322 (by decide) ?_
              refine lv_iload hx hb d_Mo_advance_325 (lv_at hl 0 rfl) ?_
              refine gs_20 hC hB (by unfold vp_in; decide) d_Mo_advance_327 (fun H locs hB => ?_)
              replace hB : gB s0 s D cI cL ad (g_up (g_up G 16 14 (-1)) 20 264 (((G 20 264) + (((G 17 ((G 20 264).toNatClampNeg)) <<< ((16 : Int32) &&& 31)) >>> ((16 : Int32) &&& 31))) &&& (63 : Int32))) O H locs := hB
              refine lv_iconst (v := 1) hx hb d_Mo_advance_328 (by decide) ?_
              exact g_zret hC hB hr hlk (by decide) (by decide) (by decide) (by rw [hf]) (by rw [hf]) d_Mo_advance_329
        · replace hf := hf.trans (if_neg c18)
          replace hok := hok.2 c18
          refine lv_aload_n hx hb d_Mo_advance_88 rfl (lv_at hl 7 rfl) ?_
          refine lv_sipush (v := 268) hx hb d_Mo_advance_89 (by decide) ?_
          refine lv_iload hx hb d_Mo_advance_92 (lv_at hl 4 rfl) ?_
          refine lv_if_ne (tgt := 101) hx hb d_Mo_advance_94 (by decide) (fun c28 => ?_) (fun c28 => ?_)
          · replace hf := hf.trans (if_neg c28)
            refine lv_iconst (v := 2) hx hb d_Mo_advance_101 (by decide) ?_
            refine gs_20 hC hB (by unfold vp_in; decide) d_Mo_advance_102 (fun H locs hB => ?_)
            replace hB : gB s0 s D cI cL ad (g_up (g_up G 16 14 (-1)) 20 268 2) O H locs := hB
            refine lv_iconst (v := 1) hx hb d_Mo_advance_103 (by decide) ?_
            exact g_zret hC hB hr hlk (by decide) (by decide) (by decide) (by rw [hf]) (by rw [hf]) d_Mo_advance_104
          · replace hf := hf.trans (if_pos c28)
            refine lv_iconst (v := 1) hx hb d_Mo_advance_97 (by decide) ?_
            refine lv_goto (tgt := 102) hx hb d_Mo_advance_98 (by decide) ?_
            refine gs_20 hC hB (by unfold vp_in; decide) d_Mo_advance_102 (fun H locs hB => ?_)
            replace hB : gB s0 s D cI cL ad (g_up (g_up G 16 14 (-1)) 20 268 1) O H locs := hB
            refine lv_iconst (v := 1) hx hb d_Mo_advance_103 (by decide) ?_
            exact g_zret hC hB hr hlk (by decide) (by decide) (by decide) (by rw [hf]) (by rw [hf]) d_Mo_advance_104
    · replace hf := hf.trans (if_neg c15)
      replace hok := hok.2 c15
      refine lv_iconst (v := 0) hx hb d_Mo_advance_74 (by decide) ?_
      exact g_zret hC hB hr hlk (by decide) (by decide) (by decide) (by rw [hf]) (by rw [hf]) d_Mo_advance_75
