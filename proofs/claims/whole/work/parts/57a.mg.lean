theorem half_c3 {z : Int} (hz : 0 ≤ z) : (if (z.natAbs : Int) / 2 = 0 then 0 else c3 z 0) = c3 (z / 2) 0 := by
  by_cases q : (z.natAbs : Int) / 2 = 0
  · rw [if_pos q, c3_eq (by omega)]
  · rw [if_neg q, c3_gt (by omega), c3_gt (by omega)]
theorem hf_pow {x : Int} {j : Nat} (h : x % 2 = 0) : x / 2 * 2 ^ (j + 1) = x * 2 ^ j := by
  have e : x = 2 * (x / 2) := by omega
  rw [p2_s]
  generalize x / 2 = y at *
  subst e
  grind
