theorem kz2_y {Y : Nat → Int} {a b p q : Int} (h1 : ((lwN p q).natAbs : Int) < 1000000 ^ 50) (h2 : ((lwD p q).natAbs : Int) < 1000000 ^ 50) : kp2 Y a b p q = (1, upI (upI Y a.toNat (lwN p q)) b.toNat (lwD p q)) := by unfold kp2; rw [if_pos ⟨h1, h2⟩]
theorem kz2_n {Y : Nat → Int} {a b p q : Int} (h : ¬ (((lwN p q).natAbs : Int) < 1000000 ^ 50 ∧ ((lwD p q).natAbs : Int) < 1000000 ^ 50)) : kp2 Y a b p q = (-1, Y) := by unfold kp2; rw [if_neg h]
theorem kp2_cong {Y Y1 : Nat → Int} {a b p q : Int} (hs : ∀ i, i < 16 → Y1 i = Y i) : (kp2 Y1 a b p q).1 = (kp2 Y a b p q).1 ∧ ∀ i, i < 16 → (kp2 Y1 a b p q).2 i = (kp2 Y a b p q).2 i := by
  by_cases h : ((lwN p q).natAbs : Int) < 1000000 ^ 50 ∧ ((lwD p q).natAbs : Int) < 1000000 ^ 50
  · rw [kz2_y h.1 h.2, kz2_y h.1 h.2]
    refine ⟨rfl, fun i hi => ?_⟩
    show upI (upI Y1 a.toNat _) b.toNat _ i = upI (upI Y a.toNat _) b.toNat _ i
    by_cases e1 : i = b.toNat
    · rw [e1, upI_self, upI_self]
    · rw [upI_ne _ _ e1, upI_ne _ _ e1]
      by_cases e2 : i = a.toNat
      · rw [e2, upI_self, upI_self]
      · rw [upI_ne _ _ e2, upI_ne _ _ e2]; exact hs i hi
  · rw [kz2_n h, kz2_n h]
    exact ⟨rfl, hs⟩
theorem lwN_in {p q : Int} (hq : q ≠ 0) : ((lwN p q).natAbs : Int) = ((p.tdiv (Int.gcd p q)).natAbs : Int) ∧ c3 p 0 * c3 q 0 = c3 (lwN p q) 0 := by
  have hg : 0 < (Int.gcd p q : Int) := by have := Int.gcd_pos_of_ne_zero_right p hq; omega
  have e : p.tdiv (Int.gcd p q) * (Int.gcd p q : Int) = p := Int.tdiv_mul_cancel (Int.gcd_dvd_left p q)
  unfold lwN
  generalize (Int.gcd p q : Int) = g at *
  generalize p.tdiv g = n at *
  have s1 : c3 p 0 = c3 n 0 := by
    rcases Int.lt_trichotomy n 0 with h | h | h
    · have := Int.mul_neg_of_neg_of_pos h hg
      rw [c3_lt h, c3_lt (by omega)]
    · rw [h, Int.zero_mul] at e
      rw [← e, h]
    · have := Int.mul_pos h hg
      rw [c3_gt h, c3_gt (by omega)]
  have s2 := c3_sg n
  have s3 := c3_sg (-n)
  rw [s1]
  rcases c3_sg q with ⟨h, h'⟩ | ⟨h, h'⟩ | ⟨h, h'⟩
  · rw [if_pos h', h]
    omega
  · exact absurd h' hq
  · rw [if_neg (by omega), h]
    omega
theorem lwD_in {p q : Int} : (((q.tdiv (Int.gcd p q)).natAbs : Nat) : Int) = lwD p q := by
  rw [td_abs]
  unfold lwD
  rw [Int.natAbs_natCast]
/-! digits -/
theorem sp_step {m e1 ek rk P left t : Int} (h : m = 10 * (e1 - (ek + rk * P)) + left * (P * 65536) + (ek + rk * P)) (ht : t = left * 2 ^ 16 + rk) : m = 10 * (e1 + (t / 10 - rk) * P - ek) + t % 10 * P + ek := by
  have e2 : t = 10 * (t / 10) + t % 10 := by omega
  generalize t / 10 = a at *
  generalize t % 10 = b at *
  have e3 : b = left * 65536 + rk - 10 * a := by omega
  subst e3
  rw [h]
  grind
theorem tp_lt {n : Nat} {m : Int} (h1 : 10 ^ n ≤ m) (h2 : m < 1000000 ^ 50) : n < 300 := by
  rcases Nat.lt_or_ge n 300 with q | q
  · exact q
  · have := tp_le q
    rw [bp_tp] at h2
    exact absurd (Int.lt_of_le_of_lt (Int.le_trans this h1) h2) (Int.lt_irrefl _)
theorem div_ne {m : Int} {n : Nat} (h0 : 0 ≤ m) : m / 10 ^ n ≠ 0 ↔ 10 ^ n ≤ m := by
  have p := tp_pos n
  constructor
  · intro h
    rcases Int.lt_or_le m (10 ^ n) with q | q
    · exact absurd (Int.ediv_eq_zero_of_lt h0 q) h
    · exact q
  · intro h e
    have h1 := Int.mul_ediv_add_emod m (10 ^ n)
    have h2 := Int.emod_lt_of_pos m p
    rw [e, Int.mul_zero] at h1
    omega
theorem div_next (m : Int) (n : Nat) : m / 10 ^ n / 10 = m / 10 ^ (n + 1) := by
  rw [tp_s, Int.ediv_ediv_of_nonneg (Int.le_of_lt (tp_pos n))]
theorem isnd_of {m : Int} {n : Nat} (h0 : 0 ≤ m) (hn : 1 ≤ n) (hz : m / 10 ^ n = 0) (h2 : 2 ≤ n → m / 10 ^ (n - 1) ≠ 0) : isnd m n := by
  have hlt : m < 10 ^ n := by
    rcases Int.lt_or_le m (10 ^ n) with q | q
    · exact q
    · exact absurd hz ((div_ne h0).mpr q)
  rcases Nat.lt_or_ge n 2 with q | q
  · obtain rfl : n = 1 := by omega
    by_cases z : m = 0
    · exact Or.inl ⟨z, rfl⟩
    · exact Or.inr ⟨hn, by show (10 : Int) ^ 0 ≤ m; rw [Int.pow_zero]; omega, hlt⟩
  · exact Or.inr ⟨hn, (div_ne h0).mp (h2 q), hlt⟩
/-! remainders by bits, the low part -/
theorem md_step {p P m b : Int} (e : p = 2 * P + b) : (2 * (P % m) + b) % m = p % m := by
  have h := Int.mul_ediv_add_emod P m
  have e2 : p = 2 * (P % m) + b + m * (2 * (P / m)) := by
    rw [e]
    have : m * (2 * (P / m)) = 2 * (m * (P / m)) := by grind
    omega
  rw [e2, Int.add_mul_emod_self_left]
theorem md_neg {X m : Int} : (m - X % m) % m = (-X) % m := by
  have h := Int.mul_ediv_add_emod X m
  have e2 : -X = m - X % m + m * (-(X / m) - 1) := by
    have : m * (-(X / m) - 1) = -(m * (X / m)) - m := by grind
    omega
  rw [e2, Int.add_mul_emod_self_left]
theorem lI_mod (x k : Int) : lI (x + 18446744073709551616 * k) = lI x := by
  apply Int64.toBitVec_inj.mp
  apply BitVec.eq_of_toNat_eq
  show (BitVec.ofInt 64 (x + 18446744073709551616 * k)).toNat = (BitVec.ofInt 64 x).toNat
  rw [BitVec.toNat_ofInt, BitVec.toNat_ofInt]
  congr 1
  show (x + 18446744073709551616 * k) % 18446744073709551616 = x % 18446744073709551616
  omega
