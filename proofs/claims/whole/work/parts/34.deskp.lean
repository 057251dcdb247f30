/-! pure rows for the desk -/
theorem kp_same {Y Y1 : Nat → Int} {x z z1 : Int} (hz : z1 = z) (hs : ∀ i, i < 16 → Y1 i = Y i) : (kp Y1 x z1).1 = (kp Y x z).1 ∧ ∀ i, i < 16 → (kp Y1 x z1).2 i = (kp Y x z).2 i := by
  subst hz
  by_cases q : (z1.natAbs : Int) < 1000000 ^ 50
  · rw [kp_y q, kp_y q]
    refine ⟨rfl, fun i hi => ?_⟩
    show upI Y1 x.toNat z1 i = upI Y x.toNat z1 i
    by_cases q2 : i = x.toNat
    · rw [q2, upI_self, upI_self]
    · rw [upI_ne _ _ q2, upI_ne _ _ q2]; exact hs i hi
  · rw [kp_n q, kp_n q]
    exact ⟨rfl, fun i hi => hs i hi⟩
theorem mulbd {a b : Int} (ha : (a.natAbs : Int) < 1000000 ^ 50) (hb : (b.natAbs : Int) < 1000000 ^ 50) : ((a * b).natAbs : Int) < 1000000 ^ 100 := by
  rw [Int.natAbs_mul, Int.natCast_mul]
  have h := mul_lt_lt (by omega) ha (by omega) hb
  rw [← bp_add] at h
  exact h
theorem b100 : (1000000 : Int) ^ 100 + 1000000 ^ 100 < 1000000 ^ 103 := by decide
theorem b50 : (1000000 : Int) ^ 50 < 1000000 ^ 100 ∧ (1000000 : Int) ^ 50 + 1000000 ^ 50 < 1000000 ^ 103 ∧ (10 : Int) < 1000000 ^ 50 := by decide
theorem absadd (a b : Int) : ((a + b).natAbs : Int) ≤ (a.natAbs : Int) + (b.natAbs : Int) ∧ ((a - b).natAbs : Int) ≤ (a.natAbs : Int) + (b.natAbs : Int) := by omega
