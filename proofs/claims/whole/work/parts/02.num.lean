/-! NUMBERS: an int and a long as the integer that they hold -/
def iI (z : Int) : Int32 := Int32.ofInt z
def lI (z : Int) : Int64 := Int64.ofInt z
theorem iI_add (a b : Int) : iI a + iI b = iI (a + b) := (Int32.ofInt_add a b).symm
theorem iI_sub (a b : Int) : iI a - iI b = iI (a - b) := (Int32.ofInt_sub a b).symm
theorem iI_mul (a b : Int) : iI a * iI b = iI (a * b) := (Int32.ofInt_mul a b).symm
theorem iI_neg (a : Int) : -iI a = iI (-a) := (Int32.ofInt_neg a).symm
theorem lI_add (a b : Int) : lI a + lI b = lI (a + b) := (Int64.ofInt_add a b).symm
theorem lI_sub (a b : Int) : lI a - lI b = lI (a - b) := (Int64.ofInt_sub a b).symm
theorem lI_mul (a b : Int) : lI a * lI b = lI (a * b) := (Int64.ofInt_mul a b).symm
theorem lI_neg (a : Int) : -lI a = lI (-a) := (Int64.ofInt_neg a).symm
theorem iI_toInt {z : Int} (h : -2147483648 ≤ z ∧ z ≤ 2147483647) : (iI z).toInt = z := Int32.toInt_ofInt_of_le (by omega) (by omega)
theorem lI_toInt {z : Int} (h : -9223372036854775808 ≤ z ∧ z ≤ 9223372036854775807) : (lI z).toInt = z := Int64.toInt_ofInt_of_le (by omega) (by omega)
theorem iI_self (x : Int32) : iI x.toInt = x := Int32.ofInt_toInt x
theorem lI_self (x : Int64) : lI x.toInt = x := Int64.ofInt_toInt x
theorem iI_ex (x : Int32) : ∃ z : Int, (-2147483648 ≤ z ∧ z ≤ 2147483647) ∧ x = iI z := by
  have h1 := x.le_toInt
  have h2 := x.toInt_lt
  exact ⟨x.toInt, by omega, (iI_self x).symm⟩
theorem lI_ex (x : Int64) : ∃ z : Int, (-9223372036854775808 ≤ z ∧ z ≤ 9223372036854775807) ∧ x = lI z := by
  have h1 := x.le_toInt
  have h2 := x.toInt_lt
  exact ⟨x.toInt, by omega, (lI_self x).symm⟩
theorem iI_lt {a b : Int} (h : (-2147483648 ≤ a ∧ a ≤ 2147483647) ∧ (-2147483648 ≤ b ∧ b ≤ 2147483647)) : iI a < iI b ↔ a < b := by
  rw [Int32.lt_iff_toInt_lt, iI_toInt h.1, iI_toInt h.2]
theorem iI_le {a b : Int} (h : (-2147483648 ≤ a ∧ a ≤ 2147483647) ∧ (-2147483648 ≤ b ∧ b ≤ 2147483647)) : iI a ≤ iI b ↔ a ≤ b := by
  rw [Int32.le_iff_toInt_le, iI_toInt h.1, iI_toInt h.2]
theorem iI_eq {a b : Int} (h : (-2147483648 ≤ a ∧ a ≤ 2147483647) ∧ (-2147483648 ≤ b ∧ b ≤ 2147483647)) : iI a = iI b ↔ a = b := by
  rw [← Int32.toInt_inj, iI_toInt h.1, iI_toInt h.2]
theorem lI_lt {a b : Int} (h : (-9223372036854775808 ≤ a ∧ a ≤ 9223372036854775807) ∧ (-9223372036854775808 ≤ b ∧ b ≤ 9223372036854775807)) : lI a < lI b ↔ a < b := by
  rw [Int64.lt_iff_toInt_lt, lI_toInt h.1, lI_toInt h.2]
theorem lI_le {a b : Int} (h : (-9223372036854775808 ≤ a ∧ a ≤ 9223372036854775807) ∧ (-9223372036854775808 ≤ b ∧ b ≤ 9223372036854775807)) : lI a ≤ lI b ↔ a ≤ b := by
  rw [Int64.le_iff_toInt_le, lI_toInt h.1, lI_toInt h.2]
theorem lI_eq {a b : Int} (h : (-9223372036854775808 ≤ a ∧ a ≤ 9223372036854775807) ∧ (-9223372036854775808 ≤ b ∧ b ≤ 9223372036854775807)) : lI a = lI b ↔ a = b := by
  rw [← Int64.toInt_inj, lI_toInt h.1, lI_toInt h.2]
theorem tdiv_in {a b : Int} (hb : 0 < b) : (0 ≤ a → 0 ≤ a.tdiv b ∧ a.tdiv b ≤ a) ∧ (a ≤ 0 → a ≤ a.tdiv b ∧ a.tdiv b ≤ 0) := by
  constructor
  · intro ha
    rw [Int.tdiv_eq_ediv_of_nonneg ha]
    exact ⟨Int.ediv_nonneg ha (by omega), Int.ediv_le_self b ha⟩
  · intro ha
    have e : a.tdiv b = -((-a) / b) := by
      rw [← Int.tdiv_eq_ediv_of_nonneg (by omega : (0 : Int) ≤ -a), Int.neg_tdiv, Int.neg_neg]
    have h1 := Int.ediv_le_self b (by omega : (0 : Int) ≤ -a)
    have h2 : 0 ≤ (-a) / b := Int.ediv_nonneg (by omega) (by omega)
    omega
theorem iI_divT {a b : Int} (h : (-2147483648 ≤ a ∧ a ≤ 2147483647) ∧ (0 < b ∧ b ≤ 2147483647)) : iI a / iI b = iI (a.tdiv b) := by
  have hin := tdiv_in (a := a) (b := b) h.2.1
  have hr : -2147483648 ≤ a.tdiv b ∧ a.tdiv b ≤ 2147483647 := by
    rcases Int.le_total 0 a with q | q
    · have := hin.1 q; omega
    · have := hin.2 q; omega
  rw [← Int32.toInt_inj, Int32.toInt_div, iI_toInt h.1, iI_toInt ⟨by omega, by omega⟩, iI_toInt hr]
  exact Int.bmod_eq_of_le (by omega) (by omega)
theorem lI_divT {a b : Int} (h : (-9223372036854775808 ≤ a ∧ a ≤ 9223372036854775807) ∧ (0 < b ∧ b ≤ 9223372036854775807)) : lI a / lI b = lI (a.tdiv b) := by
  have hin := tdiv_in (a := a) (b := b) h.2.1
  have hr : -9223372036854775808 ≤ a.tdiv b ∧ a.tdiv b ≤ 9223372036854775807 := by
    rcases Int.le_total 0 a with q | q
    · have := hin.1 q; omega
    · have := hin.2 q; omega
  rw [← Int64.toInt_inj, Int64.toInt_div, lI_toInt h.1, lI_toInt ⟨by omega, by omega⟩, lI_toInt hr]
  exact Int.bmod_eq_of_le (by omega) (by omega)
theorem iI_div {a b : Int} (h : (0 ≤ a ∧ a ≤ 2147483647) ∧ (0 < b ∧ b ≤ 2147483647)) : iI a / iI b = iI (a / b) := by
  rw [iI_divT ⟨⟨by omega, h.1.2⟩, h.2⟩, Int.tdiv_eq_ediv_of_nonneg h.1.1]
theorem lI_div {a b : Int} (h : (0 ≤ a ∧ a ≤ 9223372036854775807) ∧ (0 < b ∧ b ≤ 9223372036854775807)) : lI a / lI b = lI (a / b) := by
  rw [lI_divT ⟨⟨by omega, h.1.2⟩, h.2⟩, Int.tdiv_eq_ediv_of_nonneg h.1.1]
theorem iI_rem {a b : Int} (h : (0 ≤ a ∧ a ≤ 2147483647) ∧ (0 < b ∧ b ≤ 2147483647)) : iI a - iI a / iI b * iI b = iI (a % b) := by
  rw [iI_div h, iI_mul, iI_sub]
  congr 1
  have := Int.mul_ediv_add_emod a b
  rw [Int.mul_comm] at this
  omega
theorem lI_rem {a b : Int} (h : (0 ≤ a ∧ a ≤ 9223372036854775807) ∧ (0 < b ∧ b ≤ 9223372036854775807)) : lI a - lI a / lI b * lI b = lI (a % b) := by
  rw [lI_div h, lI_mul, lI_sub]
  congr 1
  have := Int.mul_ediv_add_emod a b
  rw [Int.mul_comm] at this
  omega
theorem lI_remT {a b : Int} (h : (-9223372036854775808 ≤ a ∧ a ≤ 9223372036854775807) ∧ (0 < b ∧ b ≤ 9223372036854775807)) : lI a - lI a / lI b * lI b = lI (a.tmod b) := by
  rw [lI_divT h, lI_mul, lI_sub]
  congr 1
  have := Int.mul_tdiv_add_tmod a b
  rw [Int.mul_comm] at this
  omega
theorem iI_l {a : Int} (h : -2147483648 ≤ a ∧ a ≤ 2147483647) : (iI a).toInt64 = lI a := by
  rw [← Int64.toInt_inj, Int32.toInt_toInt64, iI_toInt h, lI_toInt ⟨by omega, by omega⟩]
theorem lI_i (a : Int) : (lI a).toInt32 = iI a := Int64.toInt32_ofInt
theorem iI_clamp {i : Nat} (h : i ≤ 2147483647) : (iI (i : Int)).toNatClampNeg = i := by
  show (iI (i : Int)).toInt.toNat = i
  rw [iI_toInt ⟨by omega, by omega⟩]
  omega
theorem iI_in {i n : Nat} (h : i < n) (hn : n ≤ 2147483647) : vp_in (iI (i : Int)) n := by
  rw [vp_in_iff, iI_toInt ⟨by omega, by omega⟩]
  omega
theorem iI_pos {i : Nat} (h : i ≤ 2147483647) : ¬ iI (i : Int) < 0 := by
  rw [show (0 : Int32) = iI 0 from rfl, iI_lt ⟨⟨by omega, by omega⟩, by decide⟩]
  omega
theorem lcm_lt {x y : Int64} : lg_cmp x y < 0 ↔ x < y := lg_cmp_lt x y
theorem lcm_gt {x y : Int64} : 0 < lg_cmp x y ↔ y < x := lg_cmp_gt x y
theorem lcm_eq {x y : Int64} : lg_cmp x y = 0 ↔ x = y := by
  unfold lg_cmp
  by_cases h1 : x > y
  · simp only [h1, if_true]
    exact ⟨fun h => absurd h (by decide), fun h => by subst h; exact absurd h1 Int64.lt_irrefl⟩
  · by_cases h2 : x = y
    · simp [h2]
    · simp only [h1, h2, if_false]
      exact ⟨fun h => absurd h (by decide), fun h => h.elim⟩
