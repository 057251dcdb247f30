theorem hf_step {w e0 z P x q tt : Int} (hv : 2 * w = e0 - z + x % 2 * P) (ht : 2 * tt = x - x % 2 + 65536 * q) : 2 * (w + tt * P) = e0 + x * P - z + q * (P * 65536) := by
  have e : 2 * (tt * P) = (2 * tt) * P := by rw [Int.mul_assoc]
  rw [Int.mul_add, e, ht, hv]
  grind
theorem hf_0 (L : Nat → Int) (t : Nat) : 2 * ev (fun i => L (140 * t + i)) 0 = ev (fun i => L (140 * t + i)) 0 - L (140 * t) % 2 + qz (fun i => L (140 * t + i)) 140 0 % 2 * 65536 ^ 0 := by
  rw [ev_0, qz_lt (by decide), Int.pow_zero, Nat.add_zero]
  omega
theorem u63 {u : Int} (h : 0 ≤ u ∧ u ≤ 9223372036854775808) {j : Nat} (hj : 4 ≤ j) : u % 65536 ^ j = u := by
  have h1 := ep_le hj
  have e4 : (65536 : Int) ^ 4 = 18446744073709551616 := by decide
  exact Int.emod_eq_of_lt h.1 (by omega)
/-! products -/
def ub (U : Nat → Int) (i w : Nat) : Prop := ∀ k, k < 280 → 0 ≤ U k ∧ U k ≤ ((i + if k < w then 1 else 0 : Nat) : Int) * 4294836225
theorem mul255 {x y : Int} (hx : 0 ≤ x ∧ x < 65536) (hy : 0 ≤ y ∧ y < 65536) : 0 ≤ x * y ∧ x * y ≤ 4294836225 := by
  refine ⟨Int.mul_nonneg hx.1 hy.1, ?_⟩
  have h1 : x * y ≤ 65535 * y := Int.mul_le_mul_of_nonneg_right (by omega) hy.1
  omega
theorem ub.up {U : Nat → Int} {i w : Nat} {x y : Int} (h : ub U i w) (hw : i ≤ w) (hx : 0 ≤ x ∧ x < 65536) (hy : 0 ≤ y ∧ y < 65536) : ub (upI U w (U w + x * y)) i (w + 1) := fun k hk => by
  have m := mul255 hx hy
  have b := h k hk
  by_cases q : k = w
  · subst q
    rw [upI_self, if_pos (Nat.lt_succ_self k)]
    rw [if_neg (Nat.lt_irrefl k)] at b
    omega
  · rw [upI_ne _ _ q]
    refine ⟨b.1, ?_⟩
    by_cases q2 : k < w
    · rw [if_pos (by omega)]
      rw [if_pos q2] at b
      exact b.2
    · rw [if_neg (by omega)]
      rw [if_neg q2] at b
      exact b.2
theorem ub.start {U : Nat → Int} {i : Nat} (h : ub U i 0) : ub U i i := fun k hk => by
  have b := h k hk
  rw [if_neg (Nat.not_lt_zero k)] at b
  refine ⟨b.1, ?_⟩
  split <;> omega
theorem ub.next {U : Nat → Int} {i w : Nat} (h : ub U i w) : ub U (i + 1) 0 := fun k hk => by
  have b := h k hk
  rw [if_neg (Nat.not_lt_zero k)]
  refine ⟨b.1, ?_⟩
  split at b <;> omega
theorem ub.le {U : Nat → Int} {i w k : Nat} (h : ub U i w) (hi : i ≤ 139) (hk : k < 280) : 0 ≤ U k ∧ U k ≤ 601277071500 := by
  have b := h k hk
  split at b <;> omega
theorem ub.le' {U : Nat → Int} {k : Nat} (h : ub U 140 0) (hk : k < 280) : 0 ≤ U k ∧ U k ≤ 601277071500 := by
  have b := h k hk
  rw [if_neg (Nat.not_lt_zero k)] at b
  omega
theorem mu_step {U : Nat → Int} {i j : Nat} {x y A b : Int} (hi : i < 140) (hj : j < 140) (hv : ev U 280 = A + x * 65536 ^ i * b) : ev (upI U (i + j) (U (i + j) + x * y)) 280 = A + x * 65536 ^ i * (b + y * 65536 ^ j) := by
  rw [ev_up (by omega), hv, ep_add, show U (i + j) + x * y - U (i + j) = x * y by omega]
  grind
theorem mu_end {U : Nat → Int} {m cy P : Int} (h : ub U 140 0) (hc : 0 ≤ cy) (hm : 0 ≤ m) (hP : ev U 280 = P) (hlt : P < 65536 ^ 140) (hv : m + cy * 65536 ^ 140 = ev U 140) : m = P := by
  have e := ev_split U 140 140
  have p0 := ep_pos 140
  have hn : ∀ n, n ≤ 140 → 0 ≤ ev (fun i => U (140 + i)) n := fun n hn => by
    induction n with
    | zero => exact Int.le_refl _
    | succ n ih =>
      have a := ih (by omega)
      have b := Int.mul_nonneg (h.le' (show 140 + n < 280 by omega)).1 (Int.le_of_lt (ep_pos n))
      rw [ev_s]
      show 0 ≤ _ + U (140 + n) * _
      omega
  have hh := hn 140 (Nat.le_refl _)
  generalize ev (fun i => U (140 + i)) 140 = t at e hh
  have e' : ev U 280 = ev U 140 + 65536 ^ 140 * t := e
  rw [e', ← hv] at hP
  have hs : (cy + t) * 65536 ^ 140 = P - m := by rw [Int.add_mul, Int.mul_comm t]; omega
  have z : cy + t = 0 := mt_zero p0 (by rw [hs]; have := Int.mul_nonneg (show 0 ≤ cy + t by omega) (Int.le_of_lt p0); omega) (by rw [hs]; omega)
  rw [z, Int.zero_mul] at hs
  omega
theorem mc_step {w P X u cy tt : Int} (hv : w + cy * P = X) (ht : tt = cy + u) : w + tt % 65536 * P + tt / 65536 * (P * 65536) = X + u * P := am_step hv (by omega)
theorem c3_sg (z : Int) : (c3 z 0 = -1 ∧ z < 0) ∨ (c3 z 0 = 0 ∧ z = 0) ∨ (c3 z 0 = 1 ∧ 0 < z) := by
  rcases Int.lt_trichotomy z 0 with q | q | q
  · exact Or.inl ⟨c3_lt q, q⟩
  · exact Or.inr (Or.inl ⟨c3_eq q, q⟩)
  · exact Or.inr (Or.inr ⟨c3_gt q, q⟩)
theorem c3_same {za zb : Int} (h : c3 za 0 = c3 zb 0) : c3 za 0 * c3 (za.natAbs : Int) (zb.natAbs : Int) = c3 za zb := by
  have s1 := c3_sg za
  have s2 := c3_sg zb
  rcases Int.lt_trichotomy za zb with q | q | q
  · rw [c3_lt q]
    rcases s1 with ⟨e, h1⟩ | ⟨e, h1⟩ | ⟨e, h1⟩
    · rw [e, c3_gt (by omega)]; decide
    · omega
    · rw [e, c3_lt (by omega)]; decide
  · rw [c3_eq q, q, c3_eq rfl, Int.mul_zero]
  · rw [c3_gt q]
    rcases s1 with ⟨e, h1⟩ | ⟨e, h1⟩ | ⟨e, h1⟩
    · rw [e, c3_lt (by omega)]; decide
    · omega
    · rw [e, c3_gt (by omega)]; decide
