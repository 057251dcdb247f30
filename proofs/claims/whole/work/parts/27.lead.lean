/-! the three leading parts of two numbers, at the places of the greater one -/
def p0_ (g : Nat → Int) (n : Nat) (k : Int) : Int := if k < 0 then 0 else pz g n k.toNat
theorem p0_in {g : Nat → Int} {n : Nat} (h : dg g n) (k : Int) : 0 ≤ p0_ g n k ∧ p0_ g n k < 1000000 := by
  unfold p0_
  by_cases q : k < 0
  · rw [if_pos q]; decide
  · rw [if_neg q]; exact pz_dg h (k.toNat + 1) k.toNat (by omega)
def l3 (g : Nat → Int) (n nm : Nat) : Int := (p0_ g n ((nm : Int) - 1) * 1000000 + p0_ g n ((nm : Int) - 1 - 1)) * 1000000 + p0_ g n ((nm : Int) - 1 - 2)
theorem l3_in {g : Nat → Int} {n : Nat} (h : dg g n) (nm : Nat) : 0 ≤ l3 g n nm ∧ l3 g n nm < 1000000000000000000 := by
  have a := p0_in h ((nm : Int) - 1)
  have b := p0_in h ((nm : Int) - 1 - 1)
  have c := p0_in h ((nm : Int) - 1 - 2)
  unfold l3
  omega
theorem p0_nat {g : Nat → Int} {n : Nat} (k : Nat) {x : Int} (hx : x = (k : Int)) : p0_ g n x = pz g n k := by
  subst hx
  unfold p0_
  rw [if_neg (by omega)]
  rfl
theorem p0_neg {g : Nat → Int} {n : Nat} {x : Int} (hx : x < 0) : p0_ g n x = 0 := by
  unfold p0_
  rw [if_pos hx]
/-- what the leading parts leave out; short numbers are lifted by K -/
theorem l3_split {nm : Nat} (hn : 1 ≤ nm) : ∃ K P : Int, 0 < K ∧ 0 < P ∧ ∀ (g : Nat → Int) (n : Nat), dg g n → n ≤ nm → ∃ u0, 0 ≤ u0 ∧ u0 < P ∧ K * dv g n = l3 g n nm * P + u0 := by
  rcases Nat.lt_or_ge nm 3 with q | q
  · rcases (show nm = 1 ∨ nm = 2 by omega) with rfl | rfl
    · refine ⟨1000000 * 1000000, 1, by decide, by decide, fun g n hg hle => ⟨0, by decide, by decide, ?_⟩⟩
      have e1 : dv g n = pz g n 0 := by rw [← dv_pz hle, dv_s, dv_0]; simp
      unfold l3
      rw [p0_nat 0 (by decide), p0_neg (by decide), p0_neg (by decide), e1]
      omega
    · refine ⟨1000000, 1, by decide, by decide, fun g n hg hle => ⟨0, by decide, by decide, ?_⟩⟩
      have e1 : dv g n = pz g n 0 + pz g n 1 * 1000000 := by rw [← dv_pz hle, dv_s, dv_s, dv_0]; simp
      unfold l3
      rw [p0_nat 1 (by decide), p0_nat 0 (by decide), p0_neg (by decide), e1]
      omega
  · obtain ⟨k, rfl⟩ : ∃ k, nm = k + 3 := ⟨nm - 3, by omega⟩
    refine ⟨1, 1000000 ^ k, by decide, bp_pos k, fun g n hg hle => ⟨dv (pz g n) k, dv_nn (pz_dg hg k), dv_lt (pz_dg hg k), ?_⟩⟩
    have e1 : dv g n = dv (pz g n) (k + 3) := (dv_pz hle).symm
    unfold l3
    rw [p0_nat (k + 2) (by omega), p0_nat (k + 1) (by omega), p0_nat k (by omega), e1, show k + 3 = k + 2 + 1 from rfl, dv_s, dv_s, dv_s, bp_s, bp_s]
    grind
theorem l3_top {g : Nat → Int} {n : Nat} (h : cn g n) (hn : 1 ≤ n) : 1 ≤ l3 g n n := by
  have a : 1 ≤ p0_ g n ((n : Int) - 1) := by
    rw [p0_nat (n - 1) (by omega), pz_lt (by omega)]
    have := h.2.1 (n - 1) (by omega)
    have := h.2.2 (by omega)
    omega
  have b := p0_in h.2.1 ((n : Int) - 1 - 1)
  have c := p0_in h.2.1 ((n : Int) - 1 - 2)
  unfold l3
  omega
theorem l3_le {X Y P K U V u0 v0 : Int} (hP : 0 < P) (hK : 0 < K) (hu : u0 < P) (hv : 0 ≤ v0) (eU : K * U = X * P + u0) (eV : K * V = Y * P + v0) (h : V ≤ U) : Y ≤ X := by
  have h1 : K * V ≤ K * U := Int.mul_le_mul_of_nonneg_left h (Int.le_of_lt hK)
  rcases Int.lt_or_le X Y with q | q
  · have h2 : (X + 1) * P ≤ Y * P := Int.mul_le_mul_of_nonneg_right (by omega) (Int.le_of_lt hP)
    rw [Int.add_mul, Int.one_mul] at h2
    omega
  · exact q
/-- what the foretold steps come to -/
def lhO (U V a b c d : Int) : Prop :=
  (-1000000000 ≤ a ∧ a ≤ 1000000000 ∧ -1000000000 ≤ b ∧ b ≤ 1000000000 ∧ -1000000000 ≤ c ∧ c ≤ 1000000000 ∧ -1000000000 ≤ d ∧ d ≤ 1000000000) ∧
  (0 ≤ c * U + d * V ∧ c * U + d * V ≤ a * U + b * V ∧ a * U + b * V ≤ U) ∧
  Int.gcd (a * U + b * V) (c * U + d * V) = Int.gcd U V ∧
  ((a = 1 ∧ b = 0 ∧ c = 0 ∧ d = 1) ∨ 2 * ((a * U + b * V) * (c * U + d * V)) ≤ U * V)
theorem lh.out {X Y U V a b c d x y : Int} (h : lh X Y U V a b c d x y) (hu : a * U + b * V ≤ U) : lhO U V a b c d := ⟨h.2.2.2.2.1, ⟨h.2.2.2.2.2.1.1, h.2.2.2.2.2.1.2, hu⟩, h.2.2.2.2.2.2.1, h.2.2.2.2.2.2.2⟩
/-- one place of the two rows -/
theorem fs_step {w P A B x y a b cy pt c2 : Int} (hv : w + cy * P = a * A + b * B) (h : pt + c2 * 1000000 = a * x + b * y + cy) : w + pt * P + c2 * (P * 1000000) = a * (A + x * P) + b * (B + y * P) := by
  have e : pt = a * x + b * y + cy - c2 * 1000000 := by omega
  subst e
  grind
theorem ab_rng {a b x y : Int} (ha : -1000000000 ≤ a ∧ a ≤ 1000000000) (hb : -1000000000 ≤ b ∧ b ≤ 1000000000) (hx : 0 ≤ x ∧ x < 1000000) (hy : 0 ≤ y ∧ y < 1000000) : -1999998000000000 ≤ a * x + b * y ∧ a * x + b * y ≤ 1999998000000000 := by
  have a1 : a * x ≤ 1000000000 * x := Int.mul_le_mul_of_nonneg_right ha.2 hx.1
  have a2 : -1000000000 * x ≤ a * x := Int.mul_le_mul_of_nonneg_right ha.1 hx.1
  have b1 : b * y ≤ 1000000000 * y := Int.mul_le_mul_of_nonneg_right hb.2 hy.1
  have b2 : -1000000000 * y ≤ b * y := Int.mul_le_mul_of_nonneg_right hb.1 hy.1
  omega
abbrev prc (un mo fe : Nat) (a b c d : Int) : va_E := .inr (0, [.ref un, .ref mo, .ref fe, .long (lI a), .long (lI b), .long (lI c), .long (lI d)])
theorem prc_ne {f : mw_M} {q h un mo fe r : Nat} {a b c d n b2 : Int} (h1 : f q = some (prc un mo fe a b c d)) (h2 : f h = some (wh r n b2)) : h ≠ q := fun e => by
  rw [e, h1] at h2
  simp [ciW] at h2
theorem prc_neA {f : mw_M} {q h un mo fe n : Nat} {a b c d : Int} {cI : ClassId} {g : Nat → Int} (h1 : f q = some (prc un mo fe a b c d)) (h2 : f h = some (mw_ar cI n g)) : h ≠ q := fun e => by
  rw [e, h1] at h2
  cases h2
