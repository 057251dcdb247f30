/-! NEWTON'S STEPS down to a root: s the root of x, g the guess, k its next -/
/-- next is never below the root -/
theorem nw_ge {x s g : Int} (hg : 0 < g) (hs : s * s ≤ x) (hs0 : 0 ≤ s) : s ≤ (g + x / g) / 2 := by
  have h1 : 2 * s - g ≤ x / g := by
    rw [Int.le_ediv_iff_mul_le hg]
    have h2 : 0 ≤ (g - s) * (g - s) := by
      rcases Int.le_total 0 (g - s) with q | q
      · exact Int.mul_nonneg q q
      · have := Int.mul_nonneg (show 0 ≤ -(g - s) by omega) (show 0 ≤ -(g - s) by omega)
        rw [Int.neg_mul_neg] at this
        exact this
    have h3 : (2 * s - g) * g = s * s - (g - s) * (g - s) := by grind
    omega
  omega
/-- above the root it falls -/
theorem nw_lt {x s g : Int} (hg : s < g) (hs0 : 0 ≤ s) (hx : x < (s + 1) * (s + 1)) : (g + x / g) / 2 < g := by
  have h1 : x / g < g := by
    refine Int.ediv_lt_of_lt_mul (by omega) ?_
    have h2 : (s + 1) * (s + 1) ≤ g * g := Int.mul_le_mul (by omega) (by omega) (by omega) (by omega)
    omega
  omega
/-- at the root it stays -/
theorem nw_eq {x s : Int} (hs0 : 0 < s) (hs : s * s ≤ x) : s ≤ (s + x / s) / 2 := nw_ge hs0 hs (by omega)
/-- how near the next one is -/
theorem nw_near {x s g : Int} (hg : s ≤ g) (hs0 : 0 < s) (hs : s * s ≤ x) (hx : x < (s + 1) * (s + 1)) : 2 * s * ((g + x / g) / 2 - s) ≤ (g - s) * (g - s) + 2 * s := by
  have h0 := nw_ge (show 0 < g by omega) hs (by omega)
  have h1 : x / g * g ≤ x := Int.ediv_mul_le x (by omega)
  generalize x / g = w at h0 h1 ⊢
  obtain ⟨k, hk⟩ : ∃ k, k = (g + w) / 2 := ⟨_, rfl⟩
  rw [← hk] at h0 ⊢
  have h2 : 2 * k ≤ g + w := by omega
  have h3 : 2 * s * (k - s) ≤ 2 * g * (k - s) := Int.mul_le_mul_of_nonneg_right (by omega) (by omega)
  have h4 : g * (2 * k) ≤ g * (g + w) := Int.mul_le_mul_of_nonneg_left h2 (by omega)
  have h5 : 2 * g * (k - s) = g * (2 * k) - 2 * (g * s) := by grind
  have h6 : g * (g + w) = g * g + w * g := by grind
  have h7 : (g - s) * (g - s) = g * g - 2 * (g * s) + s * s := by grind
  have h8 : (s + 1) * (s + 1) = s * s + 2 * s + 1 := by grind
  omega
theorem nw_fast {s d d' M : Int} (hM : 4 ≤ M) (hd : 0 ≤ d) (hdd : d' ≤ d) (h : M * (d - 2) ≤ s) (hs : 0 ≤ s) (hn : 2 * s * d' ≤ d * d + 2 * s) : 2 * (M * M) * (d' - 2) ≤ s := by
  rcases Int.lt_or_le 2 d' with q | q
  · obtain ⟨t, ht⟩ : ∃ t, t = d - 2 := ⟨_, rfl⟩
    obtain ⟨w, hw⟩ : ∃ w, w = d' - 2 := ⟨_, rfl⟩
    rw [← ht] at h
    rw [← hw]
    have t1 : 1 ≤ t := by omega
    have m1 : 4 * t ≤ M * t := Int.mul_le_mul_of_nonneg_right hM (by omega)
    have s4 : 4 ≤ s := by omega
    have e1 : 2 * s * d' = 2 * (s * w) + 4 * s := by rw [show d' = w + 2 by omega]; grind
    have e2 : d * d = t * t + 4 * t + 4 := by rw [show d = t + 2 by omega]; grind
    have h1 : 2 * (s * w) ≤ t * t := by omega
    have h2 : (M * t) * (M * t) ≤ s * s := Int.mul_le_mul h h (Int.mul_nonneg (by omega) (by omega)) hs
    have h3 : (M * M) * (2 * (s * w)) ≤ (M * M) * (t * t) := Int.mul_le_mul_of_nonneg_left h1 (Int.mul_nonneg (by omega) (by omega))
    have e3 : (M * M) * (t * t) = (M * t) * (M * t) := by grind
    have e4 : (M * M) * (2 * (s * w)) = (2 * (M * M) * w) * s := by grind
    exact Int.le_of_mul_le_mul_right (by omega) (show 0 < s by omega)
  · have : 0 ≤ 2 * (M * M) := Int.mul_nonneg (by decide) (Int.mul_nonneg (by omega) (by omega))
    have := Int.mul_nonpos_of_nonneg_of_nonpos this (show d' - 2 ≤ 0 by omega)
    omega
/-- how near after so many steps -/
def nwM : Nat → Int
  | 0 => 1000
  | k + 1 => 2 * (nwM k * nwM k)
theorem nwM_ge (k : Nat) : 4 ≤ nwM k := by
  induction k with
  | zero => decide
  | succ k ih =>
    show 4 ≤ 2 * (nwM k * nwM k)
    have := Int.mul_le_mul ih ih (by decide) (by omega)
    omega
theorem nwM_6 : (1000000 : Int) ^ 26 < nwM 6 := by decide +kernel
/-- behind k steps the guess is s + d -/
def nwI (s d : Int) (k : Nat) : Prop := 0 ≤ d ∧ ((k ≤ 6 ∧ nwM k * (d - 2) ≤ s) ∨ (6 ≤ k ∧ d ≤ 8 - (k : Int)))
theorem nwI_step {s d d' : Int} {k : Nat} (hs : 0 ≤ s) (hs2 : s < 1000000 ^ 26) (h : nwI s d k) (h0 : 0 ≤ d') (hlt : d' < d) (hn : 2 * s * d' ≤ d * d + 2 * s) : nwI s d' (k + 1) := by
  refine ⟨h0, ?_⟩
  rcases h.2 with ⟨hk, h1⟩ | ⟨hk, h1⟩
  · rcases Nat.lt_or_ge k 6 with q | q
    · left
      exact ⟨by omega, nw_fast (nwM_ge k) h.1 (by omega) h1 hs hn⟩
    · right
      obtain rfl : k = 6 := by omega
      have h6 := nwM_6
      have d2 : d ≤ 2 := by
        rcases Int.lt_or_le 2 d with w | w
        · have := Int.mul_le_mul_of_nonneg_left (show 1 ≤ d - 2 by omega) (show 0 ≤ nwM 6 by omega)
          omega
        · exact w
      omega
  · right
    omega
theorem nwI_end {s d : Int} {k : Nat} (h : nwI s d k) (hk : 9 ≤ k) : False := by
  rcases h.2 with ⟨h1, -⟩ | ⟨-, h1⟩
  · omega
  · have := h.1; omega
theorem nwI_0 {s d : Int} (hd : 0 ≤ d) (h : 1000 * (d - 2) ≤ s) : nwI s d 0 := ⟨hd, Or.inl ⟨by decide, h⟩⟩
