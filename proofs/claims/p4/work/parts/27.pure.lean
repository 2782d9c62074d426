theorem io_pure (L : Nat) (xs : Nat → Int32) (hL : L ≤ 2560) (fp fm : Nat → Int32) (hp : ∀ j, j < 8 → fp j = 3) (hm : ∀ j, j < 8 → fm j = 3) : ∃ n, wl_L_law_18 L xs n (io_s0 fp fm) 0 := sorry
