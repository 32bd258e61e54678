theorem lstart_ok (L : Nat) (hL : L ≤ 2560) (xs : Nat → Int32) : qX2_init (fun x => qX3_init (fun y => ∃ n, lq L xs n 0 x y)) := sorry
