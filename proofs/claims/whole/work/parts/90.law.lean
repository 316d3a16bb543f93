theorem xz_law (L : Nat) (xs : Nat → Int32) (hL : L ≤ 2048) : ∃ (n : Nat) (hp' : xm_H), xm_ex L xs n 167 0 ([.float 0] ++ List.replicate (4 - 1) .null) [] [] = some (some (.int 1), hp') ∧ hp'.length ≤ 600000 ∧ xm_sz hp' ≤ 7302250 := by
  sorry
