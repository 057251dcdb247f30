/-! LONG DIVISION: the guess from three leading parts over two -/
theorem qh_low {P V U lead head vl ul : Int} (hP : 0 < P) (hv : 0 ≤ vl) (hu : ul < P) (hl : 0 < lead) (eV : V = vl + lead * P) (eU : U = ul + head * P) (hU0 : 0 ≤ U) (hV : 0 < V) : U / V ≤ head / lead := by
  rw [Int.le_ediv_iff_mul_le hl]
  have hq0 : 0 ≤ U / V := Int.ediv_nonneg hU0 (by omega)
  have hq : U / V * V ≤ U := Int.ediv_mul_le U (by omega)
  generalize U / V = q at hq hq0 ⊢
  rcases Int.lt_or_le head (q * lead) with h | h
  · have h1 : (head + 1) * P ≤ q * lead * P := Int.mul_le_mul_of_nonneg_right (by omega) (by omega)
    have h2 : 0 ≤ q * vl := Int.mul_nonneg hq0 hv
    have h3 : q * V = q * vl + q * lead * P := by rw [eV]; grind
    have h4 : (head + 1) * P = head * P + P := by grind
    omega
  · exact h
theorem qh_hi {P V U lead head vl ul : Int} (hP : 0 < P) (hv : 0 ≤ vl) (hvP : vl < P) (hu0 : 0 ≤ ul) (hl : 1000000 ≤ lead) (hh0 : 0 ≤ head) (eV : V = vl + lead * P) (eU : U = ul + head * P) (hU : U < V * 1000000) (hV : 0 < V) : head / lead ≤ 1000000 ∧ head / lead ≤ U / V + 1 := by
  have h1 : head * P < ((lead + 1) * 1000000) * P := by
    have e1 : ((lead + 1) * 1000000) * P = (lead * P) * 1000000 + P * 1000000 := by grind
    have e2 : V * 1000000 = vl * 1000000 + (lead * P) * 1000000 := by rw [eV]; grind
    omega
  have h2 : head < (lead + 1) * 1000000 := Int.lt_of_mul_lt_mul_right h1 (by omega)
  have h3 : head / lead < 1000001 := Int.ediv_lt_of_lt_mul (by omega) (by omega)
  have h4 : 0 ≤ head / lead := Int.ediv_nonneg hh0 (by omega)
  have h5 : head / lead * lead ≤ head := Int.ediv_mul_le head (by omega)
  refine ⟨by omega, ?_⟩
  have h6 : head / lead - 1 ≤ U / V := by
    rw [Int.le_ediv_iff_mul_le hV]
    generalize head / lead = q at h3 h4 h5 ⊢
    have a1 : q * vl ≤ q * P := Int.mul_le_mul_of_nonneg_left (by omega) h4
    have a2 : q * P ≤ lead * P := Int.mul_le_mul_of_nonneg_right (by omega) (by omega)
    have a3 : q * lead * P ≤ head * P := Int.mul_le_mul_of_nonneg_right h5 (by omega)
    have a4 : (q - 1) * V = q * vl + q * lead * P - (vl + lead * P) := by rw [eV]; grind
    omega
  omega
/-- the two leading parts -/
def ld2 (g : Nat → Int) (n : Nat) : Int := if n = 0 then 0 else g (n - 1) * 1000000 + (if 2 ≤ n then g (n - 2) else 0)
theorem ld2_in {g : Nat → Int} {n : Nat} (h : cn g n) : 0 ≤ ld2 g n ∧ ld2 g n < 1000000000000 ∧ (ld2 g n = 0 ↔ n = 0) := by
  unfold ld2
  by_cases q : n = 0
  · rw [if_pos q]; omega
  · rw [if_neg q]
    have h1 := h.2.1 (n - 1) (by omega)
    have h2 := h.2.2 (by omega)
    by_cases q2 : 2 ≤ n
    · rw [if_pos q2]
      have h3 := h.2.1 (n - 2) (by omega)
      omega
    · rw [if_neg q2]
      omega
theorem qh {g gx : Nat → Int} {pl nx : Nat} {head : Int} (hn : 1 ≤ nx) (hx : cn gx nx) (hg : dg g (pl + nx + 1)) (hU : wv g pl (nx + 1) < dv gx nx * 1000000) (hh : head = (g (pl + nx) * 1000000 + g (pl + nx - 1)) * 1000000 + (if 2 ≤ pl + nx then g (pl + nx - 2) else 0)) : 0 ≤ head ∧ head < 1000000000000000000 ∧ wv g pl (nx + 1) / dv gx nx ≤ head / ld2 gx nx ∧ head / ld2 gx nx ≤ wv g pl (nx + 1) / dv gx nx + 1 ∧ head / ld2 gx nx ≤ 1000000 := by
  have hx0 := hx.2.2 (by omega)
  have hV : 0 < dv gx nx := by have := hx.pos (by omega); have := bp_pos (nx - 1); omega
  have d1 := hg (pl + nx) (by omega)
  have d2 := hg (pl + nx - 1) (by omega)
  have dU : dw g pl (nx + 1) := fun i h1 h2 => hg i (by omega)
  have hU0 := wv_nn dU
  have d3 : 0 ≤ (if 2 ≤ pl + nx then g (pl + nx - 2) else 0) ∧ (if 2 ≤ pl + nx then g (pl + nx - 2) else 0) < 1000000 := by
    by_cases q : 2 ≤ pl + nx
    · rw [if_pos q]; exact hg _ (by omega)
    · rw [if_neg q]; decide
  have hh0 : 0 ≤ head ∧ head < 1000000000000000000 := by omega
  refine ⟨hh0.1, hh0.2, ?_⟩
  rcases Nat.lt_or_ge nx 2 with q | q
  · obtain rfl : nx = 1 := by omega
    have x0 := hx.2.1 0 (by omega)
    have eV : dv gx 1 = gx 0 := by rw [dv_s, dv_0]; simp
    have eL : ld2 gx 1 = gx 0 * 1000000 := by simp [ld2]
    have eU : wv g pl (1 + 1) = g pl + g (pl + 1) * 1000000 := by rw [wv_s, wv_s, wv_0]; simp
    rw [eV] at hU hV ⊢
    rw [eL]
    generalize (if 2 ≤ pl + 1 then g (pl + 1 - 2) else 0) = un at hh d3
    rw [Nat.add_sub_cancel] at hh
    have eh : head = wv g pl (1 + 1) * 1000000 + un := by rw [eU]; omega
    generalize wv g pl (1 + 1) = U at hU hU0 eh ⊢
    generalize gx 0 = v at hU hV x0 ⊢
    have e1 : head / (v * 1000000) = U / v := by
      rw [Int.mul_comm v, ← Int.ediv_ediv_of_nonneg (by decide)]
      congr 1
      rw [eh]
      omega
    rw [e1]
    have e2 : U / v < 1000000 := Int.ediv_lt_of_lt_mul hV (by omega)
    omega
  · obtain ⟨k, rfl⟩ : ∃ k, nx = k + 2 := ⟨nx - 2, by omega⟩
    rw [if_pos (by omega)] at hh d3
    rw [show pl + (k + 2) - 1 = pl + (k + 1) by omega, show pl + (k + 2) - 2 = pl + k by omega] at hh
    have hv0 := dv_nn (hx.2.1.sub (show k ≤ k + 2 by omega))
    have hv1 := dv_lt (hx.2.1.sub (show k ≤ k + 2 by omega))
    have dW : dw g pl k := fun i h1 h2 => hg i (by omega)
    have hu0 := wv_nn dW
    have hu1 := wv_lt dW
    have eL : ld2 gx (k + 2) = gx (k + 1) * 1000000 + gx k := by simp [ld2]
    have x1 := hx.2.1 (k + 1) (by omega)
    have x2 := hx.2.1 k (by omega)
    have x3 : gx (k + 1) ≠ 0 := hx0
    have eV : dv gx (k + 2) = dv gx k + ld2 gx (k + 2) * 1000000 ^ k := by rw [eL, dv_s, dv_s, bp_s]; grind
    have eU : wv g pl (k + 2 + 1) = wv g pl k + head * 1000000 ^ k := by rw [hh, wv_s, wv_s, wv_s, bp_s, bp_s]; grind
    have hl : 1000000 ≤ ld2 gx (k + 2) := by rw [eL]; omega
    have r1 := qh_low (bp_pos k) hv0 hu1 (by omega) eV eU hU0 hV
    have r2 := qh_hi (bp_pos k) hv0 hv1 hu0 hl hh0.1 eV eU hU hV
    exact ⟨r1, r2.2, r2.1⟩
theorem t_zero {t P : Int} (hP : 0 < P) (h1 : -P < t * P) (h2 : t * P < P) : t = 0 := by
  rcases Int.lt_trichotomy t 0 with q | q | q
  · have : t * P ≤ (-1) * P := Int.mul_le_mul_of_nonneg_right (by omega) (by omega)
    omega
  · exact q
  · have : 1 * P ≤ t * P := Int.mul_le_mul_of_nonneg_right (by omega) (by omega)
    omega
theorem t_neg {t P : Int} (hP : 0 < P) (h2 : t * P < 0) : t < 0 := by
  rcases Int.lt_or_le t 0 with q | q
  · exact q
  · have := Int.mul_nonneg q (Int.le_of_lt hP)
    omega
theorem t_low {t P : Int} (hP : 0 < P) (h2 : -(2 * P) < t * P) : -1 ≤ t := by
  rcases Int.lt_or_le t (-1) with q | q
  · have : t * P ≤ (-2) * P := Int.mul_le_mul_of_nonneg_right (by omega) (by omega)
    omega
  · exact q
/-- behind the taking away of the guess -/
theorem tk_fit {U V q' W t P : Int} (hP : 0 < P) (hV : 0 < V) (hVP : V < P) (hW0 : 0 ≤ W) (hW : W < P) (e : W + t * P = U - q' * V) (h1 : U / V ≤ q') (h2 : q' ≤ U / V + 1) : (t = 0 ∧ q' = U / V ∧ W = U % V) ∨ (t = -1 ∧ q' = U / V + 1 ∧ W - P + V = U % V) := by
  have e1 := Int.mul_ediv_add_emod U V
  have e2 := Int.emod_nonneg U (show V ≠ 0 by omega)
  have e3 := Int.emod_lt_of_pos U hV
  rcases Int.lt_or_le (U / V) q' with q | q
  · right
    obtain rfl : q' = U / V + 1 := by omega
    have e4 : (U / V + 1) * V = V * (U / V) + V := by grind
    have t1 : t < 0 := t_neg hP (by omega)
    have t2 : -1 ≤ t := t_low hP (by omega)
    obtain rfl : t = -1 := by omega
    omega
  · left
    obtain rfl : q' = U / V := by omega
    have e4 : U / V * V = V * (U / V) := Int.mul_comm _ _
    have t1 : t = 0 := t_zero hP (by omega) (by omega)
    subst t1
    omega
/-- signs of a quotient and of what is left -/
theorem td_sgn {ga gb : Nat → Int} {na nb : Nat} {ba bb za zb q w : Int} (ha : rp ga na ba za) (hb : rp gb nb bb zb) (hq : dv ga na / dv gb nb = q) (hw : dv ga na % dv gb nb = w) : ((ba = bb → za.tdiv zb = q) ∧ (ba ≠ bb → za.tdiv zb = -q)) ∧ ((ba = 0 ∧ za.tmod zb = w) ∨ (ba = 1 ∧ za.tmod zb = -w)) := by
  have n1 := dv_nn ha.2.1
  subst hq
  subst hw
  have e1 : (dv ga na).tdiv (dv gb nb) = dv ga na / dv gb nb := Int.tdiv_eq_ediv_of_nonneg n1
  have e2 : (dv ga na).tmod (dv gb nb) = dv ga na % dv gb nb := Int.tmod_eq_emod_of_nonneg n1
  rcases ha.2.2.2 with ⟨c1, z1⟩ | ⟨c1, -, z1⟩ <;> rcases hb.2.2.2 with ⟨c2, z2⟩ | ⟨c2, -, z2⟩ <;> subst c1 <;> subst c2 <;> rw [z1, z2] <;> simp [Int.neg_tdiv, Int.tdiv_neg, Int.neg_tmod, Int.tmod_neg, e1, e2]
/-- the window that is next, and what stands below it -/
theorem dd_win {g : Nat → Int} {k nx na : Nat} {V : Int} (hg : dg g (na + 1)) (hk : k + nx ≤ na) (hz : ∀ i, k + 1 + nx ≤ i → i ≤ na → g i = 0) (hlt : dv g (na + 1) < V * 1000000 ^ (k + 1)) : wv g k (nx + 1) < V * 1000000 ∧ dv g (na + 1) = dv g k + 1000000 ^ k * wv g k (nx + 1) := by
  have e1 : dv g (na + 1) = dv g (k + (nx + 1)) := dv_trim (by omega) (fun i h1 h2 => hz i (by omega) (by omega))
  have e2 := dv_wv g k (nx + 1)
  have h0 := dv_nn (hg.sub (show k ≤ na + 1 by omega))
  refine ⟨?_, by rw [e1, e2]⟩
  rw [e1, e2, bp_s] at hlt
  have h1 : wv g k (nx + 1) * 1000000 ^ k < (V * 1000000) * 1000000 ^ k := by
    have a1 : (V * 1000000) * 1000000 ^ k = V * (1000000 ^ k * 1000000) := by grind
    have a2 : wv g k (nx + 1) * 1000000 ^ k = 1000000 ^ k * wv g k (nx + 1) := Int.mul_comm _ _
    omega
  exact Int.lt_of_mul_lt_mul_right h1 (Int.le_of_lt (bp_pos k))
theorem dd_low {g g2 : Nat → Int} {k nx na : Nat} {V w : Int} (hk : k + nx ≤ na) (hg : dg g (na + 1)) (hlo : ∀ i, i < k → g2 i = g i) (hz : ∀ i, k + nx ≤ i → i ≤ na → g2 i = 0) (hw : wv g2 k nx = w) (hV : w < V) : dv g2 (na + 1) = dv g k + 1000000 ^ k * w ∧ dv g2 (na + 1) < V * 1000000 ^ k := by
  have e1 : dv g2 (na + 1) = dv g2 (k + nx) := dv_trim (by omega) (fun i h1 h2 => hz i h1 (by omega))
  have e2 := dv_wv g2 k nx
  have e3 : dv g2 k = dv g k := dv_congr hlo
  have h1 := dv_lt (hg.sub (show k ≤ na + 1 by omega))
  have e4 : dv g2 (na + 1) = dv g k + 1000000 ^ k * w := by rw [e1, e2, e3, hw]
  refine ⟨e4, ?_⟩
  have h2 : (w + 1) * 1000000 ^ k ≤ V * 1000000 ^ k := Int.mul_le_mul_of_nonneg_right (by omega) (Int.le_of_lt (bp_pos k))
  have e5 : (w + 1) * 1000000 ^ k = 1000000 ^ k * w + 1000000 ^ k := by grind
  omega
theorem dd_step {A X X' V q w U lo lo2 P a0 a1 x : Int} (e0 : A = (X - a1) * V + (lo + P * U)) (eU : V * q + w = U) (e2 : a1 = a0 + x * P) (hX : X' = X + (q - x) * P) : A = (X' - a0) * V + (lo + P * w) := by
  subst e0 eU e2 hX
  grind
theorem dd_init {gx : Nat → Int} {nx na P : Nat} {bx zb A : Int} (hx : rp gx nx bx zb) (hA : A < 1000000 ^ na) (hP : P + nx = na + 1 ∧ 1 ≤ nx) : A < dv gx nx * 1000000 ^ P := by
  have h1 := hx.pos hP.2
  have h2 : 1000000 ^ (nx - 1) * 1000000 ^ P ≤ dv gx nx * 1000000 ^ P := Int.mul_le_mul_of_nonneg_right h1 (Int.le_of_lt (bp_pos P))
  rw [← bp_add, show nx - 1 + P = na by omega] at h2
  omega
