theorem ch_all (M : Nat) (h : M < 297) : ckH M = true := sorry
theorem ck_all (M : Nat) (h : M < 297) (pc : Nat) : ckI M pc = true := sorry
theorem ck_299 (pc : Nat) : ckI 299 pc = true := sorry
theorem ckx_297 (pc : Nat) : ckI 297 pc = true ∨ (pg 297 pc).1 = 46 := sorry
theorem ckx_298 (pc : Nat) : ckI 298 pc = true ∨ (pg 298 pc).1 = 46 := sorry
theorem ch7 (M : Nat) (h : M < 297) : rtg (mR M) ≠ 7 := sorry
