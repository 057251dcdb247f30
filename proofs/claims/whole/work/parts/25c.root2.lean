/-! pure rows for roots of leading parts -/
def bt_ : Nat → Int
  | 0 => 0
  | k + 1 => 2 ^ k
theorem p2_le {a b : Nat} (h : a ≤ b) : (2 : Int) ^ a ≤ 2 ^ b := by
  induction h with
  | refl => exact Int.le_refl _
  | step h ih =>
    rename_i k
    have e : (2 : Int) ^ (k + 1) = 2 ^ k * 2 := Int.pow_succ _ _
    have h2 : (0 : Int) < 2 ^ k := Int.pow_pos (by decide)
    show (2 : Int) ^ a ≤ 2 ^ (k + 1)
    omega
theorem bt_in (j : Nat) (hj : j ≤ 30) : 0 ≤ bt_ j ∧ bt_ j ≤ 536870912 ∧ (bt_ j ≤ 0 ↔ j = 0) := by
  rcases j with _ | k
  · exact ⟨by decide, by decide, by decide⟩
  · show 0 ≤ (2 : Int) ^ k ∧ (2 : Int) ^ k ≤ 536870912 ∧ ((2 : Int) ^ k ≤ 0 ↔ k + 1 = 0)
    have p0 : (0 : Int) < 2 ^ k := Int.pow_pos (by decide)
    have p1 : (2 : Int) ^ k ≤ 2 ^ 29 := p2_le (by omega)
    have p2 : (2 : Int) ^ 29 = 536870912 := by decide
    omega
theorem bt_half (k : Nat) : (2 : Int) ^ k / 2 = bt_ k := by
  rcases k with _ | k
  · rfl
  · show (2 : Int) ^ (k + 1) / 2 = 2 ^ k
    rw [Int.pow_succ]
    omega
theorem wSt.row {cI : ClassId} {f0 f f1 : mw_M} {h r : Nat} {g g1 : Nat → Int} {n b : Int} (hT : wSt cI f0 h r f g n b) (h1 : f1 r = some (mw_ar cI 104 g1)) (h2 : ∀ q, q ≠ r → f1 q = f q) : wSt cI f0 h r f1 g1 n b :=
  ⟨by rw [h2 h hT.ne]; exact hT.1, h1, fun q a1 a2 => by rw [h2 q a2]; exact hT.2.2 q a1 a2⟩
theorem lead_in {g : Nat → Int} {n ct : Nat} (h : cn g n) (hn : 1 ≤ n) (hct : ct = if n < 2 then 0 else (n - 2) / 2 * 2) : 0 ≤ wv g ct (n - ct) ∧ wv g ct (n - ct) < 1000000000000000000 := by
  have hle : ct ≤ n ∧ n - ct ≤ 3 := by
    by_cases q : n < 2
    · rw [if_pos q] at hct; omega
    · rw [if_neg q] at hct; omega
  have hd : dw g ct (n - ct) := fun i h1 h2 => h.2.1 i (by omega)
  have h1 := wv_nn hd
  have h2 := wv_lt hd
  have h3 := bp_le hle.2
  have h4 : (1000000 : Int) ^ 3 = 1000000000000000000 := by decide
  omega
theorem ab_row {g : Nat → Int} {k : Nat} {ab : Int} (hab : 0 ≤ ab ∧ ab < 1000000000000) (hz : ∀ i, i < k → g i = 0) : dg (upI (upI g k (ab % 1000000)) (k + 1) (ab / 1000000)) (k + 2) ∧ dv (upI (upI g k (ab % 1000000)) (k + 1) (ab / 1000000)) (k + 2) = ab * 1000000 ^ k := by
  have d0 : dg g k := fun i hi => by rw [hz i hi]; decide
  have v0 : dv g k = 0 := by rw [dv_trim (Nat.zero_le k) (fun i _ hi => hz i hi), dv_0]
  refine ⟨(d0.up_s (by omega)).up_s (by omega), ?_⟩
  rw [show k + 2 = (k + 1) + 1 from rfl, dv_up_s, dv_up_s, v0, bp_s]
  have e := Int.mul_ediv_add_emod ab 1000000
  generalize ab / 1000000 = q at e ⊢
  generalize ab % 1000000 = w at e ⊢
  rw [← e]
  grind
theorem sq_lt {a b : Int} (ha : 0 ≤ a) (hb : 0 ≤ b) (h : a * a < b * b) : a < b := by
  rcases Int.lt_or_le a b with q | q
  · exact q
  · have := Int.mul_le_mul q q hb ha
    omega
/-- the start is above the root, and right in three digits -/
theorem above_root {g : Nat → Int} {n ct : Nat} {z t u ab : Int} (h : cn g n) (hn : 1 ≤ n) (hn2 : n ≤ 50) (hct : ct = if n < 2 then 0 else (n - 2) / 2 * 2) (ht : t = wv g ct (n - ct)) (u0 : 0 ≤ u) (u1 : u * u ≤ t) (u2 : t < (u + 1) * (u + 1)) (hab : ab = u + 1) (hz : z = dv g n) : ab * 1000000 ^ (ct / 2) < 1000000 ^ 27 ∧ ∀ s, 0 ≤ s → s * s ≤ z → z < (s + 1) * (s + 1) → s < ab * 1000000 ^ (ct / 2) ∧ 1000 * (ab * 1000000 ^ (ct / 2) - s - 2) ≤ s := by
  have l1 := lead_in h hn hct
  rw [← ht] at l1
  have hev : ct = ct / 2 + ct / 2 ∧ ct ≤ n ∧ ct / 2 ≤ 24 := by
    by_cases q : n < 2
    · rw [if_pos q] at hct; omega
    · rw [if_neg q] at hct; omega
  obtain ⟨P, hP⟩ : ∃ P : Int, P = 1000000 ^ (ct / 2) := ⟨_, rfl⟩
  have hPP : (1000000 : Int) ^ ct = P * P := by rw [hP, ← bp_add, ← hev.1]
  have hP0 : 0 < P := by rw [hP]; exact bp_pos _
  have e1 : z = dv g ct + P * P * t := by
    rw [hz, ht, ← hPP, ← dv_wv]
    congr 1
    omega
  have d0 := dv_nn (h.2.1.sub hev.2.1)
  have d1 := dv_lt (h.2.1.sub hev.2.1)
  rw [hPP] at d1
  rw [← hP]
  have u9 : u < 1000000000 := by
    refine sq_lt u0 (by decide) ?_
    have : (1000000000 : Int) * 1000000000 = 1000000000000000000 := by decide
    omega
  refine ⟨?_, fun s s0 s1 s2 => ?_⟩
  · have a1 : ab * P ≤ 1000000000 * P := Int.mul_le_mul_of_nonneg_right (by omega) (by omega)
    have a2 : P ≤ 1000000 ^ 24 := by rw [hP]; exact bp_le hev.2.2
    have a3 : (1000000 : Int) ^ 27 = 1000000 ^ 24 * 1000000000000000000 := by decide
    have a4 : (0 : Int) < 1000000 ^ 24 := bp_pos 24
    omega
  · have hPn := Int.mul_nonneg (Int.le_of_lt hP0) (Int.le_of_lt hP0)
    have t1 : (t + 1) * (P * P) ≤ ((u + 1) * (u + 1)) * (P * P) := Int.mul_le_mul_of_nonneg_right (by omega) hPn
    have t2 : (t + 1) * (P * P) = P * P * t + P * P := by grind
    have t3 : ((u + 1) * (u + 1)) * (P * P) = (ab * P) * (ab * P) := by rw [hab]; grind
    have abn : 0 ≤ ab * P := Int.mul_nonneg (by omega) (by omega)
    refine ⟨sq_lt s0 abn (by omega), ?_⟩
    have t4 : (u * u) * (P * P) ≤ t * (P * P) := Int.mul_le_mul_of_nonneg_right u1 hPn
    have t5 : (u * u) * (P * P) = (u * P) * (u * P) := by grind
    have t6 : t * (P * P) = P * P * t := Int.mul_comm _ _
    have upn : 0 ≤ u * P := Int.mul_nonneg u0 (by omega)
    have t7 : u * P < s + 1 := sq_lt upn (by omega) (by omega)
    have t8 : ab * P = u * P + P := by rw [hab]; grind
    by_cases q : n < 2
    · have c0 : ct = 0 := by rw [if_pos q] at hct; exact hct
      have P1 : P = 1 := by rw [hP, c0]; rfl
      omega
    · have tb : 1000000 ≤ t := by
        rw [if_neg q] at hct
        obtain ⟨k, hk⟩ : ∃ k, n - ct = k + 1 := ⟨n - ct - 1, by omega⟩
        have k1 : 1 ≤ k := by omega
        have hd : dw g ct k := fun i h1 h2 => h.2.1 i (by omega)
        have w1 := wv_nn hd
        have w2 := h.2.2 (by omega)
        have w3 := h.2.1 (n - 1) (by omega)
        have w4 : 1 * 1000000 ^ k ≤ g (ct + k) * 1000000 ^ k := Int.mul_le_mul_of_nonneg_right (by rw [show ct + k = n - 1 by omega]; omega) (Int.le_of_lt (bp_pos k))
        have w5 := bp_le k1
        rw [ht, hk, wv_s]
        have w6 : (1000000 : Int) ^ 1 = 1000000 := by decide
        omega
      have u1000 : 1000 ≤ u := by
        have q9 : (1000 : Int) < u + 1 := sq_lt (a := 1000) (b := u + 1) (by decide) (by omega) (by omega)
        omega
      have f1 : 1000 * P ≤ u * P := Int.mul_le_mul_of_nonneg_right u1000 (by omega)
      omega
