/-- THE STATEMENT IS FALSE: the law's run on 180 zeros returns 1 and makes more than the 103 cells that the statement allows -/
theorem p29_refuted : RefutedClaimed_1_1 ∧ RefutedClaimed_1_2 ∧ ¬ Claimed_1_1 ∧ ¬ Claimed_1_2 := zs_falls (b := 0) rfl zs_atStart zs_roomy rfl zs_ints
