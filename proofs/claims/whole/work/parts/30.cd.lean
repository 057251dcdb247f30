/-! the common divisor: what stays between the calls -/
theorem Rp.keepq {cI : ClassId} {f f1 : mw_M} {q un mo fe x rx : Nat} {a b c d z : Int} (hx : Rp cI f x rx z) (hq : f q = some (prc un mo fe a b c d)) (ho : ∀ k, k ≠ q → f1 k = f k) : Rp cI f1 x rx z := by
  obtain ⟨g, n, b', h1, h2, h3⟩ := hx
  exact ⟨g, n, b', by rw [ho x (prc_ne hq h1)]; exact h1, by rw [ho rx (prc_neA hq h2)]; exact h2, h3⟩
theorem Rp.keep2 {cI : ClassId} {f f1 : mw_M} {h r t rt x rx : Nat} {z zh zt : Int} (hx : Rp cI f x rx z) (hf : fo2 f f1 h r t rt) (hh : Rp cI f h r zh) (ht : Rp cI f t rt zt) (h1 : x ≠ h) (h2 : rx ≠ r) (h3 : x ≠ t) (h4 : rx ≠ rt) : Rp cI f1 x rx z := by
  obtain ⟨g, n, b, a1, a2, a3⟩ := hx
  obtain ⟨_, _, _, b1, b2, -⟩ := hh
  obtain ⟨_, _, _, c1, c2, -⟩ := ht
  exact ⟨g, n, b, by rw [hf x h1 (wh_ne a1 b2) h3 (wh_ne a1 c2)]; exact a1, by rw [hf rx (Ne.symm (wh_ne b1 a2)) h2 (Ne.symm (wh_ne c1 a2)) h4]; exact a2, a3⟩
theorem prc_fo {cI : ClassId} {f f1 : mw_M} {h r q un mo fe : Nat} {a b c d z : Int} (hq : f q = some (prc un mo fe a b c d)) (hh : Rp cI f h r z) (hf : fo f f1 h r) : f1 q = some (prc un mo fe a b c d) := by
  obtain ⟨_, _, _, b1, b2, -⟩ := hh
  rw [hf q (Ne.symm (prc_ne hq b1)) (Ne.symm (prc_neA hq b2))]; exact hq
theorem prc_fo2 {cI : ClassId} {f f1 : mw_M} {h r t rt q un mo fe : Nat} {a b c d zh zt : Int} (hq : f q = some (prc un mo fe a b c d)) (hh : Rp cI f h r zh) (ht : Rp cI f t rt zt) (hf : fo2 f f1 h r t rt) : f1 q = some (prc un mo fe a b c d) := by
  obtain ⟨_, _, _, b1, b2, -⟩ := hh
  obtain ⟨_, _, _, c1, c2, -⟩ := ht
  rw [hf q (Ne.symm (prc_ne hq b1)) (Ne.symm (prc_neA hq b2)) (Ne.symm (prc_ne hq c1)) (Ne.symm (prc_neA hq c2))]; exact hq
theorem rp.abs {g : Nat → Int} {n : Nat} {b z : Int} (h : rp g n b z) : rp g n 0 (z.natAbs : Int) := ⟨h.1, h.2.1, h.2.2.1, Or.inl ⟨rfl, h.nat⟩⟩
/-- the addresses of the pair and of its three numbers -/
def pk_ (q un run p1 r1 p2 r2 k : Nat) : Prop := k = q ∨ k = un ∨ k = run ∨ k = p1 ∨ k = r1 ∨ k = p2 ∨ k = r2
def swp (p1 r1 p2 r2 mo rmo fe rfe : Nat) : Prop := (mo = p1 ∧ rmo = r1 ∧ fe = p2 ∧ rfe = r2) ∨ (mo = p2 ∧ rmo = r2 ∧ fe = p1 ∧ rfe = r1)
/-- more holds U, fewer V -/
def cdI (cI : ClassId) (f0 f : mw_M) (q un run p1 r1 p2 r2 : Nat) (G : Int) (mo rmo fe rfe : Nat) (U V : Int) : Prop :=
  swp p1 r1 p2 r2 mo rmo fe rfe ∧ (∃ a b c d, f q = some (prc un mo fe a b c d)) ∧ Rp cI f mo rmo U ∧ Rp cI f fe rfe V ∧ (∃ v, Rp cI f un run v) ∧ 0 ≤ V ∧ V ≤ U ∧ (Int.gcd U V : Int) = G ∧ U < 1000000 ^ 103 ∧ ∀ k, ¬ pk_ q un run p1 r1 p2 r2 k → f k = f0 k
theorem swp.ne {p1 r1 p2 r2 mo rmo fe rfe un run : Nat} (h : swp p1 r1 p2 r2 mo rmo fe rfe) (h1 : p1 ≠ p2) (h2 : r1 ≠ r2) (h3 : un ≠ p1) (h4 : un ≠ p2) (h5 : run ≠ r1) (h6 : run ≠ r2) : mo ≠ fe ∧ rmo ≠ rfe ∧ un ≠ mo ∧ un ≠ fe ∧ run ≠ rmo ∧ run ≠ rfe := by
  rcases h with ⟨rfl, rfl, rfl, rfl⟩ | ⟨rfl, rfl, rfl, rfl⟩
  · exact ⟨h1, h2, h3, h4, h5, h6⟩
  · exact ⟨Ne.symm h1, Ne.symm h2, h4, h3, h6, h5⟩
theorem swp.sw {p1 r1 p2 r2 mo rmo fe rfe : Nat} (h : swp p1 r1 p2 r2 mo rmo fe rfe) : swp p1 r1 p2 r2 fe rfe mo rmo := by
  rcases h with ⟨rfl, rfl, rfl, rfl⟩ | ⟨rfl, rfl, rfl, rfl⟩
  · exact Or.inr ⟨rfl, rfl, rfl, rfl⟩
  · exact Or.inl ⟨rfl, rfl, rfl, rfl⟩
theorem pk_.ne {q un run p1 r1 p2 r2 k mo rmo fe rfe : Nat} (h : ¬ pk_ q un run p1 r1 p2 r2 k) (hs : swp p1 r1 p2 r2 mo rmo fe rfe) : k ≠ q ∧ k ≠ un ∧ k ≠ run ∧ k ≠ mo ∧ k ≠ rmo ∧ k ≠ fe ∧ k ≠ rfe := by
  unfold pk_ at h
  rcases hs with ⟨rfl, rfl, rfl, rfl⟩ | ⟨rfl, rfl, rfl, rfl⟩ <;> (simp only [not_or] at h; obtain ⟨a, b, c, d, e, f, g⟩ := h)
  · exact ⟨a, b, c, d, e, f, g⟩
  · exact ⟨a, b, c, f, g, d, e⟩
theorem cd_end {U V G : Int} (hg : (Int.gcd U V : Int) = G) (hV : V = 0) (hU : 0 ≤ U) : U = G := by
  subst hV
  rw [← hg, Int.gcd_zero_right]
  omega
theorem cd_div {U V : Int} (hV : 0 < V) (hle : V ≤ U) : U.tmod V = U % V ∧ 0 ≤ U % V ∧ U % V ≤ V ∧ (Int.gcd V (U % V) : Int) = Int.gcd U V ∧ 2 * (V * (U % V)) ≤ U * V := by
  have h1 := Int.emod_nonneg U (show V ≠ 0 by omega)
  have h2 := Int.emod_lt_of_pos U hV
  have h3 := Int.mul_ediv_add_emod U V
  have e : U % V = U - U / V * V := by rw [Int.mul_comm (U / V)]; omega
  refine ⟨Int.tmod_eq_emod_of_nonneg (by omega), h1, by omega, ?_, ?_⟩
  · rw [e]
    exact congrArg _ (eu_gcd U V (U / V))
  · exact eu_half (by omega) hle e h1 h2 (Int.ediv_nonneg (by omega) (by omega))
theorem cd_half {U V U' V' M : Int} {j : Nat} (h : 2 * (U' * V') ≤ U * V) (hm : U * V * 2 ^ j ≤ M) : U' * V' * 2 ^ (j + 1) ≤ M := by
  have p0 : (0 : Int) < 2 ^ j := Int.pow_pos (by decide)
  have h1 : 2 * (U' * V') * 2 ^ j ≤ U * V * 2 ^ j := Int.mul_le_mul_of_nonneg_right h (by omega)
  have e : U' * V' * 2 ^ (j + 1) = 2 * (U' * V') * 2 ^ j := by rw [Int.pow_succ]; grind
  omega
theorem cd_start {U V : Int} (hU : 0 ≤ U) (hV : 0 ≤ V) (h1 : U < 1000000 ^ 103) (h2 : V < 1000000 ^ 103) : U * V * 2 ^ 0 ≤ 1000000 ^ 206 := by
  have h := mul_lt_lt hU h1 hV h2
  rw [← bp_add] at h
  rw [Int.pow_zero, Int.mul_one]
  exact Int.le_of_lt h
theorem cd_stop {U V : Int} (hV : 0 ≤ V) (hle : V ≤ U) (hm : U * V * 2 ^ 10000 ≤ 1000000 ^ 206) : V = 0 := by
  rcases Int.lt_or_le 0 V with q | q
  · have h1 : 1 * 1 ≤ U * V := Int.mul_le_mul (by omega) (by omega) (by decide) (by omega)
    have p0 : (0 : Int) < 2 ^ 10000 := Int.pow_pos (by decide)
    have h2 : 1 * 2 ^ 10000 ≤ U * V * 2 ^ 10000 := Int.mul_le_mul_of_nonneg_right h1 (by omega)
    have h3 : (1000000 : Int) ^ 206 < 2 ^ 10000 := by decide +kernel
    omega
  · omega
