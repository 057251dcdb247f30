/-! POSITIONS: the value of a row of parts, base a million -/
def dv (g : Nat → Int) : Nat → Int
  | 0 => 0
  | n + 1 => dv g n + g n * 1000000 ^ n
theorem dv_0 (g : Nat → Int) : dv g 0 = 0 := rfl
theorem dv_s (g : Nat → Int) (n : Nat) : dv g (n + 1) = dv g n + g n * 1000000 ^ n := rfl
theorem bp_s (n : Nat) : (1000000 : Int) ^ (n + 1) = 1000000 ^ n * 1000000 := Int.pow_succ _ _
theorem bp_pos (n : Nat) : (0 : Int) < 1000000 ^ n := Int.pow_pos (by decide)
theorem bp_le {a b : Nat} (h : a ≤ b) : (1000000 : Int) ^ a ≤ 1000000 ^ b := by
  induction h with
  | refl => exact Int.le_refl _
  | step h ih =>
    rename_i k
    have e := bp_s k
    have h2 := bp_pos k
    show (1000000 : Int) ^ a ≤ 1000000 ^ (k + 1)
    omega
theorem bp_add (a b : Nat) : (1000000 : Int) ^ (a + b) = 1000000 ^ a * 1000000 ^ b := Int.pow_add _ _ _
theorem dv_congr {g h : Nat → Int} {n : Nat} (e : ∀ i, i < n → g i = h i) : dv g n = dv h n := by
  induction n with
  | zero => rfl
  | succ n ih => rw [dv_s, dv_s, ih (fun i hi => e i (by omega)), e n (by omega)]
/-- its parts are parts -/
def dg (g : Nat → Int) (n : Nat) : Prop := ∀ i, i < n → 0 ≤ g i ∧ g i < 1000000
theorem dg.sub {g : Nat → Int} {n k : Nat} (h : dg g n) (hk : k ≤ n) : dg g k := fun i hi => h i (by omega)
theorem dg.up {g : Nat → Int} {n k : Nat} {x : Int} (h : dg g n) (hx : 0 ≤ x ∧ x < 1000000) : dg (upI g k x) n := fun i hi => by
  by_cases q : i = k
  · subst q; rw [upI_self]; exact hx
  · rw [upI_ne _ _ q]; exact h i hi
theorem dg.up_s {g : Nat → Int} {n : Nat} {x : Int} (h : dg g n) (hx : 0 ≤ x ∧ x < 1000000) : dg (upI g n x) (n + 1) := fun i hi => by
  by_cases q : i = n
  · subst q; rw [upI_self]; exact hx
  · rw [upI_ne _ _ q]; exact h i (by omega)
theorem dv_up_ge {g : Nat → Int} {n k : Nat} {x : Int} (h : n ≤ k) : dv (upI g k x) n = dv g n := dv_congr fun i hi => upI_ne _ _ (by omega)
theorem dv_up_s {g : Nat → Int} {n : Nat} {x : Int} : dv (upI g n x) (n + 1) = dv g n + x * 1000000 ^ n := by
  rw [dv_s, dv_up_ge (Nat.le_refl n), upI_self]
theorem dv_up {g : Nat → Int} {n k : Nat} {x : Int} (h : k < n) : dv (upI g k x) n = dv g n + (x - g k) * 1000000 ^ k := by
  induction n with
  | zero => omega
  | succ n ih =>
    rcases Nat.lt_or_ge k n with q | q
    · rw [dv_s, dv_s, ih q, upI_ne _ _ (by omega)]
      omega
    · obtain rfl : k = n := by omega
      rw [dv_up_s, dv_s, Int.sub_mul]
      omega
theorem dv_nn {g : Nat → Int} {n : Nat} (h : dg g n) : 0 ≤ dv g n := by
  induction n with
  | zero => exact Int.le_refl _
  | succ n ih =>
    have h1 := ih (h.sub (by omega))
    have h2 := Int.mul_nonneg (h n (by omega)).1 (Int.le_of_lt (bp_pos n))
    rw [dv_s]
    omega
theorem dv_lt {g : Nat → Int} {n : Nat} (h : dg g n) : dv g n < 1000000 ^ n := by
  induction n with
  | zero => show (0 : Int) < 1; decide
  | succ n ih =>
    have h1 := ih (h.sub (by omega))
    have h2 : g n * 1000000 ^ n ≤ 999999 * 1000000 ^ n := Int.mul_le_mul_of_nonneg_right (by have := (h n (by omega)).2; omega) (Int.le_of_lt (bp_pos n))
    have e := bp_s n
    rw [dv_s]
    omega
theorem dv_ge {g : Nat → Int} {n : Nat} (h : dg g (n + 1)) (ht : g n ≠ 0) : 1000000 ^ n ≤ dv g (n + 1) := by
  have h1 := dv_nn (h.sub (Nat.le_succ n))
  have h0 := (h n (by omega)).1
  have h2 : 1 * 1000000 ^ n ≤ g n * 1000000 ^ n := Int.mul_le_mul_of_nonneg_right (by omega) (Int.le_of_lt (bp_pos n))
  rw [dv_s]
  omega
theorem dv_trim {g : Nat → Int} {n k : Nat} (hk : n ≤ k) (h : ∀ i, n ≤ i → i < k → g i = 0) : dv g k = dv g n := by
  induction hk with
  | refl => rfl
  | step hk ih =>
    rename_i k
    rw [show dv g k.succ = dv g k + g k * 1000000 ^ k from rfl, h k hk (by omega), Int.zero_mul, Int.add_zero]
    exact ih (fun i h1 h2 => h i h1 (by omega))
theorem dv_split (g : Nat → Int) (n m : Nat) : dv g (n + m) = dv g n + 1000000 ^ n * dv (fun i => g (n + i)) m := by
  induction m with
  | zero => rw [Nat.add_zero, dv_0, Int.mul_zero, Int.add_zero]
  | succ m ih =>
    rw [← Nat.add_assoc, dv_s, ih, dv_s, bp_add, Int.mul_add]
    have : g (n + m) * (1000000 ^ n * 1000000 ^ m) = 1000000 ^ n * (g (n + m) * 1000000 ^ m) := by
      rw [← Int.mul_assoc, Int.mul_comm (g (n + m)), Int.mul_assoc]
    omega
/-- the parts below a size, nothing above it -/
def pz (g : Nat → Int) (n : Nat) : Nat → Int := fun i => if i < n then g i else 0
theorem pz_lt {g : Nat → Int} {n i : Nat} (h : i < n) : pz g n i = g i := by simp [pz, h]
theorem pz_ge {g : Nat → Int} {n i : Nat} (h : n ≤ i) : pz g n i = 0 := by simp [pz, Nat.not_lt.mpr h]
theorem pz_dg {g : Nat → Int} {n : Nat} (h : dg g n) (k : Nat) : dg (pz g n) k := fun i _ => by
  by_cases q : i < n
  · rw [pz_lt q]; exact h i q
  · rw [pz_ge (by omega)]; decide
theorem dv_pz {g : Nat → Int} {n k : Nat} (h : n ≤ k) : dv (pz g n) k = dv g n := by
  rw [dv_trim h (fun i h1 _ => pz_ge h1)]
  exact dv_congr fun i hi => pz_lt hi
/-- a row of parts, its size and its sign hold the number z -/
def rp (g : Nat → Int) (n : Nat) (b : Int) (z : Int) : Prop := n ≤ 104 ∧ dg g n ∧ (0 < n → g (n - 1) ≠ 0) ∧ ((b = 0 ∧ z = dv g n) ∨ (b = 1 ∧ 0 < n ∧ z = - dv g n))
theorem rp.pos {g : Nat → Int} {n : Nat} {b z : Int} (h : rp g n b z) (hn : 0 < n) : 1000000 ^ (n - 1) ≤ dv g n := by
  obtain ⟨h1, h2, h3, h4⟩ := h
  obtain ⟨k, rfl⟩ : ∃ k, n = k + 1 := ⟨n - 1, by omega⟩
  exact dv_ge h2 (h3 hn)
theorem rp.nat {g : Nat → Int} {n : Nat} {b z : Int} (h : rp g n b z) : (z.natAbs : Int) = dv g n := by
  have h5 := dv_nn h.2.1
  rcases h.2.2.2 with ⟨_, e⟩ | ⟨_, _, e⟩ <;> omega
theorem rp.zero {g : Nat → Int} {n : Nat} {b z : Int} (h : rp g n b z) : z = 0 ↔ n = 0 := by
  constructor
  · intro e
    rcases Nat.eq_zero_or_pos n with q | q
    · exact q
    · have h1 := h.pos q
      have h2 := bp_pos (n - 1)
      have h3 := h.nat
      omega
  · intro e
    subst e
    have h3 := h.nat
    rw [dv_0] at h3
    omega
theorem rp.b0 {g : Nat → Int} {n : Nat} {b z : Int} (h : rp g n b z) : (b = 0 ↔ 0 ≤ z) ∧ (b = 1 ↔ z < 0) ∧ (b = 0 ∨ b = 1) := by
  have h5 := dv_nn h.2.1
  rcases h.2.2.2 with ⟨e1, e⟩ | ⟨e1, h6, e⟩
  · omega
  · have h1 := h.pos h6
    have h2 := bp_pos (n - 1)
    omega
theorem rp.size {g : Nat → Int} {n : Nat} {b z : Int} (h : rp g n b z) (k : Nat) : n ≤ k ↔ (z.natAbs : Int) < 1000000 ^ k := by
  rw [h.nat]
  constructor
  · intro hk
    have h1 := dv_lt h.2.1
    have h2 := bp_le hk
    omega
  · intro hk
    rcases Nat.lt_or_ge k n with q | q
    · have h1 := h.pos (by omega)
      have h2 := bp_le (show k ≤ n - 1 by omega)
      omega
    · exact q
theorem rp.congr {g g' : Nat → Int} {n : Nat} {b z : Int} (h : rp g n b z) (e : ∀ i, i < n → g' i = g i) : rp g' n b z := by
  obtain ⟨h1, h2, h3, h4⟩ := h
  refine ⟨h1, fun i hi => by rw [e i hi]; exact h2 i hi, fun hn => by rw [e _ (by omega)]; exact h3 hn, ?_⟩
  rw [dv_congr e]
  exact h4
/-- two rows of the same number are the same -/
theorem dv_inj {g h : Nat → Int} {n : Nat} (hg : dg g n) (hh : dg h n) (e : dv g n = dv h n) : ∀ i, i < n → g i = h i := by
  induction n with
  | zero => intro i hi; omega
  | succ n ih =>
    rw [dv_s, dv_s] at e
    have a1 := dv_nn (hg.sub (Nat.le_succ n))
    have a2 := dv_lt (hg.sub (Nat.le_succ n))
    have b1 := dv_nn (hh.sub (Nat.le_succ n))
    have b2 := dv_lt (hh.sub (Nat.le_succ n))
    have ht : g n = h n := by
      rcases Int.lt_trichotomy (g n) (h n) with q | q | q
      · have := Int.mul_le_mul_of_nonneg_right (show g n + 1 ≤ h n by omega) (Int.le_of_lt (bp_pos n))
        rw [Int.add_mul, Int.one_mul] at this
        omega
      · exact q
      · have := Int.mul_le_mul_of_nonneg_right (show h n + 1 ≤ g n by omega) (Int.le_of_lt (bp_pos n))
        rw [Int.add_mul, Int.one_mul] at this
        omega
    rw [ht] at e
    intro i hi
    rcases Nat.lt_or_ge i n with q | q
    · exact ih (hg.sub (Nat.le_succ n)) (hh.sub (Nat.le_succ n)) (by omega) i q
    · rw [show i = n by omega]; exact ht
/-- the first part from above that differs tells which is more -/
theorem dv_cmp {g h : Nat → Int} {n k : Nat} (hg : dg g n) (hh : dg h n) (hk : k < n) (he : ∀ i, k < i → i < n → g i = h i) (hlt : g k < h k) : dv g n < dv h n := by
  induction n with
  | zero => omega
  | succ n ih =>
    rw [dv_s, dv_s]
    rcases Nat.lt_or_ge k n with q | q
    · have := ih (hg.sub (Nat.le_succ n)) (hh.sub (Nat.le_succ n)) q (fun i h1 h2 => he i h1 (by omega))
      rw [he n q (by omega)]
      omega
    · have hkn : k = n := by omega
      subst hkn
      have a2 := dv_lt (hg.sub (Nat.le_succ k))
      have b1 := dv_nn (hh.sub (Nat.le_succ k))
      have := Int.mul_le_mul_of_nonneg_right (show g k + 1 ≤ h k by omega) (Int.le_of_lt (bp_pos k))
      rw [Int.add_mul, Int.one_mul] at this
      omega
/-! PRODUCTS, column by column -/
/-- the sum of the first i products of column k -/
def co (x y : Nat → Int) (k : Nat) : Nat → Int
  | 0 => 0
  | i + 1 => co x y k i + (if i ≤ k then x i * y (k - i) else 0)
/-- the sum of the first n rows, each cut off at place k -/
def rs (x y : Nat → Int) (k : Nat) : Nat → Int
  | 0 => 0
  | n + 1 => rs x y k n + x n * (1000000 ^ n * dv y (k - n))
theorem rs_s (x y : Nat → Int) (k n : Nat) : rs x y (k + 1) n = rs x y k n + 1000000 ^ k * co x y k n := by
  induction n with
  | zero => simp [rs, co]
  | succ n ih =>
    show rs x y (k + 1) n + x n * (1000000 ^ n * dv y (k + 1 - n)) = rs x y k n + x n * (1000000 ^ n * dv y (k - n)) + 1000000 ^ k * (co x y k n + if n ≤ k then x n * y (k - n) else 0)
    rw [ih]
    by_cases h : n ≤ k
    · rw [if_pos h, show k + 1 - n = (k - n) + 1 by omega, dv_s]
      have e : (1000000 : Int) ^ k = 1000000 ^ n * 1000000 ^ (k - n) := by rw [← bp_add]; congr 1; omega
      rw [e]
      grind
    · rw [if_neg h, show k + 1 - n = 0 by omega, show k - n = 0 by omega]
      grind
theorem rs_0 (x y : Nat → Int) (n : Nat) : rs x y 0 n = 0 := by
  induction n with
  | zero => rfl
  | succ n ih =>
    show rs x y 0 n + x n * (1000000 ^ n * dv y (0 - n)) = 0
    rw [ih, Nat.zero_sub, dv_0]
    simp
theorem rs_all {x y : Nat → Int} {k n m : Nat} (h : n + m ≤ k) : rs x (pz y m) k n = dv x n * dv y m := by
  induction n with
  | zero => show (0 : Int) = 0 * _; rw [Int.zero_mul]
  | succ n ih =>
    show rs x (pz y m) k n + x n * (1000000 ^ n * dv (pz y m) (k - n)) = _
    rw [ih (by omega), dv_pz (by omega), dv_s]
    grind
theorem co_lo {x y : Nat → Int} {m k i : Nat} (h : i + m ≤ k + 1) : co x (pz y m) k i = 0 := by
  induction i with
  | zero => rfl
  | succ i ih =>
    show co x (pz y m) k i + (if i ≤ k then x i * pz y m (k - i) else 0) = 0
    rw [ih (by omega), pz_ge (by omega)]
    simp
theorem co_hi {x y : Nat → Int} {k i n : Nat} (h : k < i) (hn : i ≤ n) : co x y k n = co x y k i := by
  induction hn with
  | refl => rfl
  | step hn ih =>
    rename_i n
    have h9 : i ≤ n := hn
    show co x y k n + (if n ≤ k then x n * y (k - n) else 0) = _
    rw [ih, if_neg (by omega), Int.add_zero]
theorem co_in {x y : Nat → Int} {m k i : Nat} (h : i ≤ k) (hm : k < i + m) : co x (pz y m) k (i + 1) = co x (pz y m) k i + x i * y (k - i) := by
  show co x (pz y m) k i + (if i ≤ k then x i * pz y m (k - i) else 0) = _
  rw [if_pos h, pz_lt (by omega)]
theorem co_bound {x y : Nat → Int} {n m k i : Nat} (hx : dg x n) (hy : dg y m) (hi : i ≤ n) : 0 ≤ co x (pz y m) k i ∧ co x (pz y m) k i ≤ (i : Int) * 999998000001 := by
  induction i with
  | zero => exact ⟨Int.le_refl _, by simp [co]⟩
  | succ i ih =>
    have h1 := ih (by omega)
    have h2 := hx i (by omega)
    have h3 := pz_dg hy (k - i + 1) (k - i) (by omega)
    show 0 ≤ co x (pz y m) k i + (if i ≤ k then x i * pz y m (k - i) else 0) ∧ co x (pz y m) k i + (if i ≤ k then x i * pz y m (k - i) else 0) ≤ _
    by_cases h : i ≤ k
    · rw [if_pos h]
      have h4 := Int.mul_nonneg h2.1 h3.1
      have h5 := Int.mul_le_mul (show x i ≤ 999999 by omega) (show pz y m (k - i) ≤ 999999 by omega) h3.1 (by decide)
      omega
    · rw [if_neg h]
      omega
