/-! more pure rows -/
theorem tmod_in (y : Int) : -1000000 < y.tmod 1000000 ∧ y.tmod 1000000 < 1000000 := by
  have h := Int.natAbs_tmod y 1000000
  have e3 : (1000000 : Int).natAbs = 1000000 := rfl
  rw [e3] at h
  have := Nat.mod_lt y.natAbs (show 1000000 > 0 by decide)
  omega
