theorem pure_all (xs : Nat → Int32) (n : Nat) (h : n ≤ 512) : lawStart xs n := sorry
