theorem pure_all (xs : Nat → Int32) (L : Nat) (hL : L ≤ 2050) : ok_law 3000 xs L 520 (G00 (if 0 < L then xs 0 else 0) (if 1 < L then xs 1 else 0)) 0 2 := sorry
