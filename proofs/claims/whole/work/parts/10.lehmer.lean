/-! LEHMER'S WAY: Euclid's steps on the leading parts alone -/
/-- X, Y: the leading parts; U, V: the numbers; a, b, c, d, x, y: as the steps have them -/
def lh (X Y U V a b c d x y : Int) : Prop :=
  (x = a * X + b * Y ∧ y = c * X + d * Y) ∧
  ((0 ≤ a ∧ b ≤ 0 ∧ c ≤ 0 ∧ 0 ≤ d ∧ a * d - b * c = 1) ∨ (a ≤ 0 ∧ 0 ≤ b ∧ 0 ≤ c ∧ d ≤ 0 ∧ a * d - b * c = -1)) ∧
  (0 ≤ y ∧ y ≤ x ∧ 0 ≤ y + c ∧ 0 ≤ y + d ∧ 0 ≤ x + a ∧ 0 ≤ x + b) ∧
  (-x ≤ c ∧ c ≤ x ∧ -x ≤ d ∧ d ≤ x) ∧
  (-1000000000 ≤ a ∧ a ≤ 1000000000 ∧ -1000000000 ≤ b ∧ b ≤ 1000000000 ∧ -1000000000 ≤ c ∧ c ≤ 1000000000 ∧ -1000000000 ≤ d ∧ d ≤ 1000000000) ∧
  (0 ≤ c * U + d * V ∧ c * U + d * V ≤ a * U + b * V) ∧
  Int.gcd (a * U + b * V) (c * U + d * V) = Int.gcd U V ∧
  ((a = 1 ∧ b = 0 ∧ c = 0 ∧ d = 1) ∨ 2 * ((a * U + b * V) * (c * U + d * V)) ≤ U * V)
theorem sq_le {k x X : Int} (hk : 0 ≤ k) (hkx : k ≤ x) (h : k * x ≤ X) (hX : X < 1000000000000000000) : k ≤ 1000000000 := by
  rcases Int.lt_or_le 1000000000 k with q | q
  · have h1 : k * k ≤ k * x := Int.mul_le_mul_of_nonneg_left hkx hk
    have h2 : 1000000000 * 1000000000 ≤ k * k := Int.mul_le_mul (by omega) (by omega) (by omega) (by omega)
    omega
  · exact q
theorem eu_gcd (u v q : Int) : Int.gcd v (u - q * v) = Int.gcd u v := by
  rw [Int.gcd_sub_mul_right_right, Int.gcd_comm]
theorem eu_half {u v w q : Int} (hv : 0 ≤ v) (huv : v ≤ u) (hw : w = u - q * v) (h0 : 0 ≤ w) (h1 : w < v) (hq : 0 ≤ q) : 2 * (v * w) ≤ u * v := by
  have q1 : 1 ≤ q := by
    rcases Int.lt_or_le 0 q with h | h
    · omega
    · obtain rfl : q = 0 := by omega
      omega
  have h2 : 1 * v ≤ q * v := Int.mul_le_mul_of_nonneg_right q1 hv
  have h3 : v * (2 * w) ≤ v * u := Int.mul_le_mul_of_nonneg_left (by omega) hv
  have h4 : v * (2 * w) = 2 * (v * w) := by grind
  have h5 : v * u = u * v := Int.mul_comm _ _
  omega
theorem lh_init {X Y U V : Int} (hY : 0 ≤ Y) (hXY : Y ≤ X) (hX : 1 ≤ X) (hV : 0 ≤ V) (hUV : V ≤ U) : lh X Y U V 1 0 0 1 X Y := by
  refine ⟨⟨by omega, by omega⟩, Or.inl ⟨by decide, by decide, by decide, by decide, by decide⟩, by omega, by omega, by decide, ?_, ?_, Or.inl ⟨rfl, rfl, rfl, rfl⟩⟩
  · rw [Int.one_mul, Int.zero_mul, Int.one_mul, Int.zero_mul]; omega
  · rw [Int.one_mul, Int.zero_mul, Int.one_mul, Int.zero_mul, Int.add_zero, Int.zero_add]
theorem k_nn {K z : Int} (hK : 0 < K) (h : 0 ≤ K * z) : 0 ≤ z := by
  rcases Int.lt_or_le z 0 with q | q
  · have := Int.mul_neg_of_pos_of_neg hK q
    omega
  · exact q
theorem k_lt {K z w : Int} (hK : 0 < K) (h : K * z < K * w) : z < w := Int.lt_of_mul_lt_mul_left h (Int.le_of_lt hK)
/-- a quotient that both ways to cut the numbers off agree on is the quotient -/
theorem lh_step {X Y U V K P u0 v0 a b c d x y q : Int} (hK : 0 < K) (hU : K * U = X * P + u0) (hV : K * V = Y * P + v0) (hP : 0 < P) (hu : 0 ≤ u0 ∧ u0 < P) (hv : 0 ≤ v0 ∧ v0 < P) (hX : X < 1000000000000000000) (hY : Y < 1000000000000000000) (h : lh X Y U V a b c d x y) (hc : 0 < y + c) (hd : 0 < y + d) (hq1 : q = (x + a) / (y + c)) (hq2 : q = (x + b) / (y + d)) : lh X Y U V c d (a - q * c) (b - q * d) y (x - q * y) := by
  obtain ⟨⟨ex, ey⟩, hs, ⟨y0, yx, yc, yd, xa, xb⟩, -, hb, ⟨v1, v2⟩, hg, hm⟩ := h
  have q0 : 0 ≤ q := by rw [hq1]; exact Int.ediv_nonneg xa (by omega)
  have a1 : q * (y + c) ≤ x + a := by rw [hq1]; exact Int.ediv_mul_le _ (by omega)
  have a2 : x + a < (q + 1) * (y + c) := by rw [hq1]; exact Int.lt_ediv_add_one_mul_self _ hc
  have b1 : q * (y + d) ≤ x + b := by rw [hq2]; exact Int.ediv_mul_le _ (by omega)
  have b2 : x + b < (q + 1) * (y + d) := by rw [hq2]; exact Int.lt_ediv_add_one_mul_self _ hd
  clear hq1 hq2
  rw [Int.mul_add] at a1 b1
  rw [Int.add_mul, Int.one_mul, Int.mul_add] at a2 b2
  obtain ⟨c', ec⟩ : ∃ c', c' = a - q * c := ⟨_, rfl⟩
  obtain ⟨d', ed⟩ : ∃ d', d' = b - q * d := ⟨_, rfl⟩
  obtain ⟨y', ey'⟩ : ∃ y', y' = x - q * y := ⟨_, rfl⟩
  have k1 : 0 ≤ y' + c' := by omega
  have k2 : 0 ≤ y' + d' := by omega
  have k3 : y' + c' < y + c := by omega
  have k4 : y' + d' < y + d := by omega
  rw [← ec, ← ed, ← ey']
  have ey2 : y' = c' * X + d' * Y := by rw [ey', ec, ed, ex, ey]; grind
  have edet : c * d' - d * c' = -(a * d - b * c) := by rw [ec, ed]; grind
  have w1 : c' * U + d' * V = (a * U + b * V) - q * (c * U + d * V) := by rw [ec, ed]; grind
  have w2 : K * (c' * U + d' * V) = y' * P + (c' * u0 + d' * v0) := by
    have e1 : K * (c' * U + d' * V) = c' * (K * U) + d' * (K * V) := by grind
    rw [e1, hU, hV, ey2]; grind
  have w3 : K * (c * U + d * V) = y * P + (c * u0 + d * v0) := by
    have e1 : K * (c * U + d * V) = c * (K * U) + d * (K * V) := by grind
    rw [e1, hU, hV, ey]; grind
  -- the sizes, by the two patterns of signs
  have core : (0 ≤ c' * U + d' * V) ∧ (c' * U + d' * V < c * U + d * V) ∧ 0 ≤ y' ∧ y' ≤ y ∧ (-y ≤ c' ∧ c' ≤ y ∧ -y ≤ d' ∧ d' ≤ y) ∧ ((0 ≤ c ∧ d ≤ 0 ∧ c' ≤ 0 ∧ 0 ≤ d' ∧ c * d' - d * c' = 1) ∨ (c ≤ 0 ∧ 0 ≤ d ∧ 0 ≤ c' ∧ d' ≤ 0 ∧ c * d' - d * c' = -1)) ∧ (-1000000000 ≤ c' ∧ c' ≤ 1000000000 ∧ -1000000000 ≤ d' ∧ d' ≤ 1000000000) := by
    rcases hs with ⟨s1, s2, s3, s4, s5⟩ | ⟨s1, s2, s3, s4, s5⟩
    · have qc : q * c ≤ 0 := Int.mul_nonpos_of_nonneg_of_nonpos q0 s3
      have qd : 0 ≤ q * d := Int.mul_nonneg q0 s4
      have c0 : 0 ≤ c' := by omega
      have d0 : d' ≤ 0 := by omega
      have f1 : d' * P ≤ d' * v0 := Int.mul_le_mul_of_nonpos_left d0 (by omega)
      have f2 : 0 ≤ c' * u0 := Int.mul_nonneg c0 hu.1
      have f3 : 0 ≤ (y' + d') * P := Int.mul_nonneg k2 (by omega)
      have f4 : (y' + d') * P = y' * P + d' * P := Int.add_mul _ _ _
      have g1 : (c - c') * P ≤ (c - c') * u0 := Int.mul_le_mul_of_nonpos_left (by omega) (by omega)
      have g2 : 0 ≤ (d - d') * v0 := Int.mul_nonneg (by omega) hv.1
      have g3 : 1 * P ≤ (y + c - (y' + c')) * P := Int.mul_le_mul_of_nonneg_right (by omega) (by omega)
      have g4 : (y + c - (y' + c')) * P = y * P - y' * P + (c - c') * P := by grind
      have g5 : (c - c') * u0 = c * u0 - c' * u0 := Int.sub_mul _ _ _
      have g6 : (d - d') * v0 = d * v0 - d' * v0 := Int.sub_mul _ _ _
      have n1 : Y = (c') * y + (-c) * y' := by rw [ey, ey2]; grind
      have n2 : X = (-d') * y + d * y' := by rw [ey, ey2]; grind
      have y'0 : 0 ≤ y' := by omega
      have m1 : 0 ≤ (-c) * y' := Int.mul_nonneg (by omega) y'0
      have m2 : 0 ≤ d * y' := Int.mul_nonneg s4 y'0
      have r1 := sq_le c0 (show c' ≤ y by omega) (show c' * y ≤ Y by omega) hY
      have r2 := sq_le (show 0 ≤ -d' by omega) (show -d' ≤ y by omega) (show -d' * y ≤ X by omega) hX
      refine ⟨k_nn hK (by omega), k_lt hK (by omega), y'0, by omega, by omega, Or.inr ⟨s3, s4, c0, d0, by omega⟩, by omega⟩
    · have qc : 0 ≤ q * c := Int.mul_nonneg q0 s3
      have qd : q * d ≤ 0 := Int.mul_nonpos_of_nonneg_of_nonpos q0 s4
      have c0 : c' ≤ 0 := by omega
      have d0 : 0 ≤ d' := by omega
      have f1 : c' * P ≤ c' * u0 := Int.mul_le_mul_of_nonpos_left c0 (by omega)
      have f2 : 0 ≤ d' * v0 := Int.mul_nonneg d0 hv.1
      have f3 : 0 ≤ (y' + c') * P := Int.mul_nonneg k1 (by omega)
      have f4 : (y' + c') * P = y' * P + c' * P := Int.add_mul _ _ _
      have g1 : (d - d') * P ≤ (d - d') * v0 := Int.mul_le_mul_of_nonpos_left (by omega) (by omega)
      have g2 : 0 ≤ (c - c') * u0 := Int.mul_nonneg (by omega) hu.1
      have g3 : 1 * P ≤ (y + d - (y' + d')) * P := Int.mul_le_mul_of_nonneg_right (by omega) (by omega)
      have g4 : (y + d - (y' + d')) * P = y * P - y' * P + (d - d') * P := by grind
      have g5 : (c - c') * u0 = c * u0 - c' * u0 := Int.sub_mul _ _ _
      have g6 : (d - d') * v0 = d * v0 - d' * v0 := Int.sub_mul _ _ _
      have n1 : Y = (-c') * y + c * y' := by rw [ey, ey2]; grind
      have n2 : X = d' * y + (-d) * y' := by rw [ey, ey2]; grind
      have y'0 : 0 ≤ y' := by omega
      have m1 : 0 ≤ c * y' := Int.mul_nonneg s3 y'0
      have m2 : 0 ≤ (-d) * y' := Int.mul_nonneg (by omega) y'0
      have r1 := sq_le (show 0 ≤ -c' by omega) (show -c' ≤ y by omega) (show -c' * y ≤ Y by omega) hY
      have r2 := sq_le d0 (show d' ≤ y by omega) (show d' * y ≤ X by omega) hX
      refine ⟨k_nn hK (by omega), k_lt hK (by omega), y'0, by omega, by omega, Or.inl ⟨s3, s4, c0, d0, by omega⟩, by omega⟩
  obtain ⟨t1, t2, t3, t4, t5, t6, t7⟩ := core
  unfold lh
  refine ⟨⟨ey, ey2⟩, t6, by omega, t5, by omega, ⟨t1, by omega⟩, ?_, ?_⟩
  · rw [← hg, w1]
    exact eu_gcd _ _ _
  · right
    have hlast := eu_half v1 v2 w1 t1 t2 q0
    have hp : 0 ≤ (c * U + d * V) * (c' * U + d' * V) := Int.mul_nonneg v1 t1
    rcases hm with ⟨rfl, rfl, rfl, rfl⟩ | hm
    · rw [Int.one_mul, Int.zero_mul, Int.one_mul, Int.zero_mul, Int.add_zero, Int.zero_add] at hlast
      rw [Int.zero_mul, Int.one_mul, Int.zero_add]
      exact hlast
    · have hp2 : 0 ≤ (a * U + b * V) * (c * U + d * V) := Int.mul_nonneg (by omega) v1
      omega
