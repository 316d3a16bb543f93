/-! the builtin count of bits -/
theorem wj_bc {L : Nat} {xs : Nat → Int32} {Q : Option Value → xm_H → Prop} {hp : xm_H} {P : Nat → Prop} (hQ : Q (some (.int (nI (cnt P 30)))) hp) : xc L xs 166 [.int (mk P)] hp Q := by
  sorry
