theorem MM.fix {kA : Nat → ClassId} {f0 f1 : mw_M} {o li si su di : Nat} {L S L' S' G' U' Z : Nat → Int} {t : Nat} {z : Int} (hZ : ∀ r, r < 25 → r ≠ t → hz L S r (Z r)) (h2 : MS kA f0 f1 o li si su di L' S' G' U') (hL' : lr L') (ro : ∀ r, r < 25 → r ≠ t → mg L' r = mg L r) (hs : ∀ r, r < 25 → r ≠ t → S' r = S r) (hv : mg L' t = (z.natAbs : Int)) (hs2 : S' t = c3 z 0) : MM kA f0 f1 o li si su di (upI Z t z) :=
  ⟨L', S', G', U', h2, hL', fun r hr => by
    by_cases q : r = t
    · subst q; rw [upI_self]; exact ⟨hv, hs2⟩
    · rw [upI_ne _ _ q]; exact ⟨(ro r hr q).trans (hZ r hr q).1, (hs r hr q).trans (hZ r hr q).2⟩⟩
theorem clr_bit {x : Int} {i : Nat} (h0 : 0 ≤ x) (hb : x / 2 ^ i % 2 = 1) : 0 ≤ x - 2 ^ i ∧ (x - 2 ^ i) / 2 ^ i % 2 = 0 := by
  have p := p2_pos i
  have e : (x - 2 ^ i) / 2 ^ i = x / 2 ^ i - 1 := by
    have := Int.add_mul_ediv_right x (-1) (show (2 : Int) ^ i ≠ 0 by omega)
    rw [Int.neg_mul, Int.one_mul] at this
    rw [Int.sub_eq_add_neg, this]
    omega
  refine ⟨?_, by omega⟩
  rcases Int.lt_or_le x (2 ^ i) with q | q
  · rw [Int.ediv_eq_zero_of_lt h0 q] at hb
    omega
  · omega
theorem set_bit {m q : Int} {i : Nat} (h : m = q * 2 ^ (i + 1)) : (m + 2 ^ i) / 2 ^ i % 2 = 1 := by
  have p := p2_pos i
  have e : m + 2 ^ i = (2 * q + 1) * 2 ^ i := by rw [h, p2_s]; grind
  rw [e, Int.mul_ediv_cancel _ (by omega)]
  omega
theorem b512 : (1000000 : Int) ^ 50 < 2 ^ 512 * 2 ^ 512 ∧ (2 : Int) ^ 512 * 2 ^ 512 < 65536 ^ 140 := by decide +kernel
theorem sq140 {x : Int} (h0 : 0 ≤ x) (h : x ≤ 2 ^ 512) : ((x * x).natAbs : Int) < 65536 ^ 140 := by
  have h1 := Int.mul_le_mul h h h0 (Int.le_of_lt (p2_pos 512))
  have h2 := Int.mul_nonneg h0 h0
  have e : ((x * x).natAbs : Int) = x * x := by omega
  rw [e]
  exact Int.lt_of_le_of_lt h1 b512.2
theorem sq_abs (x : Int) : ((x * x).natAbs : Int) = x * x := by
  have : 0 ≤ x * x := by
    rcases Int.le_total 0 x with q | q
    · exact Int.mul_nonneg q q
    · exact Int.mul_nonneg_of_nonpos_of_nonpos q q
  omega
theorem pow_long {a : Int} {k e : Nat} (hk : k ≤ e) (h : ¬ ((a ^ k).natAbs : Int) < 1000000 ^ 50) : ¬ ((a ^ e).natAbs : Int) < 1000000 ^ 50 := by
  intro q
  apply h
  rw [Int.natAbs_pow] at q ⊢
  refine Int.lt_of_le_of_lt (Int.ofNat_le.mpr ?_) q
  rcases Nat.eq_zero_or_pos a.natAbs with z | z
  · exfalso
    apply h
    rw [Int.natAbs_pow, z]
    have : 0 ^ k ≤ 1 := by
      cases k with
      | zero => decide
      | succ n => rw [Nat.zero_pow (Nat.succ_pos n)]; decide
    exact Int.lt_of_le_of_lt (Int.ofNat_le.mpr this) (by decide)
  · exact Nat.pow_le_pow_right z hk
