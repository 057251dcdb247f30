/-! pure rows that the walks of Whole use -/
theorem bp_size {gx gy : Nat → Int} {nx ny : Nat} {bx b2 zx zy : Int} (hx : rp gx nx bx zx) (hy : rp gy ny b2 zy) (h : dv gy ny ≤ dv gx nx) : ny ≤ nx := by
  rcases Nat.lt_or_ge nx ny with q | q
  · have h1 := hy.pos (by omega)
    have h2 := dv_lt hx.2.1
    have h3 := bp_le (show nx ≤ ny - 1 by omega)
    omega
  · exact q
theorem mul_lt_lt {a b P Q : Int} (ha : 0 ≤ a) (hP : a < P) (hb : 0 ≤ b) (hQ : b < Q) : a * b < P * Q := by
  have h1 : a * b ≤ a * Q := Int.mul_le_mul_of_nonneg_left (by omega) ha
  have h2 : a * Q < P * Q := Int.mul_lt_mul_of_pos_right hP (by omega)
  omega
theorem cy_zero {cy P : Int} (h0 : 0 ≤ cy) (hP : 0 < P) (h : cy * P < P) : cy = 0 := by
  rcases Int.lt_or_le 0 cy with q | q
  · have h1 : 1 * P ≤ cy * P := Int.mul_le_mul_of_nonneg_right (by omega) (by omega)
    omega
  · omega
theorem mul_sgn {gx gy : Nat → Int} {nx ny : Nat} {bx b2 zx zy nb : Int} (hx : rp gx nx bx zx) (hy : rp gy ny b2 zy) (hb : nb = if bx = b2 then 0 else 1) : (nb = 0 ∧ zx * zy = dv gx nx * dv gy ny) ∨ (nb = 1 ∧ zx * zy = -(dv gx nx * dv gy ny)) := by
  rcases hx.2.2.2 with ⟨e1, z1⟩ | ⟨e1, -, z1⟩ <;> rcases hy.2.2.2 with ⟨e2, z2⟩ | ⟨e2, -, z2⟩ <;> subst e1 <;> subst e2 <;> simp at hb <;> subst hb <;> rw [z1, z2]
  · exact Or.inl ⟨rfl, rfl⟩
  · exact Or.inr ⟨rfl, by rw [Int.mul_neg]⟩
  · exact Or.inr ⟨rfl, by rw [Int.neg_mul]⟩
  · exact Or.inl ⟨rfl, by rw [Int.neg_mul_neg]⟩
theorem col_step {d P t cy co : Int} (e2 : 1000000 * (t / 1000000) + t % 1000000 = t) (ht : t = cy + co) : d + t % 1000000 * P + t / 1000000 * (P * 1000000) = d + cy * P + P * co := by
  generalize t / 1000000 = q at e2 ⊢
  generalize t % 1000000 = a at e2 ⊢
  obtain rfl : a = cy + co - 1000000 * q := by omega
  grind
theorem load_step {d P y : Int} (t1 : (y.tmod 1000000).natAbs = y.natAbs % (1000000 : Int).natAbs) (t2 : (y.tdiv 1000000).natAbs = y.natAbs / (1000000 : Int).natAbs) (e2 : 1000000 * (y.natAbs / 1000000) + y.natAbs % 1000000 = y.natAbs) : d + ((y.tmod 1000000).natAbs : Int) * P + ((y.tdiv 1000000).natAbs : Int) * (P * 1000000) = d + (y.natAbs : Int) * P := by
  have e3 : (1000000 : Int).natAbs = 1000000 := rfl
  rw [e3] at t1 t2
  rw [t1, t2]
  have e4 : (1000000 : Int) * ((y.natAbs / 1000000 : Nat) : Int) + ((y.natAbs % 1000000 : Nat) : Int) = (y.natAbs : Int) := by omega
  generalize ((y.natAbs / 1000000 : Nat) : Int) = q at e4 ⊢
  generalize ((y.natAbs % 1000000 : Nat) : Int) = a at e4 ⊢
  rw [← e4]
  grind
theorem co_end {x y : Nat → Int} {k n m E : Nat} {i : Int} (hE : (E : Int) = min (i + 1) (n : Int)) (hi : i = (k : Int)) : co x (pz y m) k E = co x (pz y m) k n := by
  rcases Nat.lt_or_ge k E with q | q
  · exact (co_hi q (by omega)).symm
  · rw [show E = n by omega]
theorem sameC {f f0 : mw_M} {x rx : Nat} {k n b bx : Int} (h1 : f x = some (wh rx k b)) (h2 : f0 x = some (wh rx n b)) (h3 : f0 x = some (wh rx k bx)) : f x = some (wh rx k bx) := by
  rw [h2] at h3
  simp [wh] at h3
  rw [h1]
  simp [wh, h3.2]
/-- the value of k parts from place p on -/
def wv (g : Nat → Int) (p k : Nat) : Int := dv (fun i => g (p + i)) k
theorem wv_s (g : Nat → Int) (p k : Nat) : wv g p (k + 1) = wv g p k + g (p + k) * 1000000 ^ k := rfl
theorem wv_0 (g : Nat → Int) (p : Nat) : wv g p 0 = 0 := rfl
theorem wv_congr {g h : Nat → Int} {p k : Nat} (e : ∀ i, p ≤ i → i < p + k → g i = h i) : wv g p k = wv h p k := dv_congr fun i hi => e (p + i) (by omega) (by omega)
theorem wv_up_s {g : Nat → Int} {p k : Nat} {x : Int} : wv (upI g (p + k) x) p (k + 1) = wv g p k + x * 1000000 ^ k := by
  rw [wv_s, upI_self, wv_congr (h := g) fun i h1 h2 => upI_ne _ _ (by omega)]
def dw (g : Nat → Int) (p k : Nat) : Prop := ∀ i, p ≤ i → i < p + k → 0 ≤ g i ∧ g i < 1000000
theorem dw.d {g : Nat → Int} {p k : Nat} (h : dw g p k) : dg (fun i => g (p + i)) k := fun i hi => h (p + i) (by omega) (by omega)
theorem wv_nn {g : Nat → Int} {p k : Nat} (h : dw g p k) : 0 ≤ wv g p k := dv_nn h.d
theorem wv_lt {g : Nat → Int} {p k : Nat} (h : dw g p k) : wv g p k < 1000000 ^ k := dv_lt h.d
theorem dv_wv (g : Nat → Int) (p k : Nat) : dv g (p + k) = dv g p + 1000000 ^ p * wv g p k := dv_split g p k
/-- one part of a row less q times a row: pt the new part, c2 the new carry -/
theorem st_step {w w0 v P gi y q cy pt c2 : Int} (hv : w - cy * P = w0 - q * v) (h : pt - c2 * 1000000 = gi - (q * y + cy)) : w + pt * P - c2 * (P * 1000000) = w0 + gi * P - q * (v + y * P) := by
  have e : pt = gi - (q * y + cy) + c2 * 1000000 := by omega
  subst e
  grind
theorem ab_step {w w0 v P gi y cy pt c2 : Int} (hv : w + cy * P = w0 + v) (h : pt + c2 * 1000000 = gi + y + cy) : w + pt * P + c2 * (P * 1000000) = w0 + gi * P + (v + y * P) := by
  have e : pt = gi + y + cy - c2 * 1000000 := by omega
  subst e
  grind
