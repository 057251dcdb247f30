/-! each row of the reference holds a number -/
def hz (L S : Nat → Int) (r : Nat) (z : Int) : Prop := mg L r = (z.natAbs : Int) ∧ S r = c3 z 0
def MM (kA : Nat → ClassId) (f0 f : mw_M) (o li si su di : Nat) (Z : Nat → Int) : Prop := ∃ L S G U, MS kA f0 f o li si su di L S G U ∧ lr L ∧ ∀ r, r < 25 → hz L S r (Z r)
section MMS
variable {kA : Nat → ClassId} {f0 f f1 : mw_M} {o li si su di : Nat} {L S G U L' S' G' U' Z Z' : Nat → Int}
theorem MM.of (hZ : ∀ r, r < 25 → hz L S r (Z r)) {t : Nat} {z : Int} (h2 : MS kA f0 f1 o li si su di L' S' G' U') (hL' : lr L') (ro : ∀ r, r < 25 → r ≠ t → mg L' r = mg L r) (hs : ∀ r, r < 25 → r ≠ t → S' r = S r) (hv : mg L' t = (z.natAbs : Int)) (hs2 : S' t = c3 z 0) : MM kA f0 f1 o li si su di (upI Z t z) :=
  ⟨L', S', G', U', h2, hL', fun r hr => by
    by_cases q : r = t
    · subst q; rw [upI_self]; exact ⟨hv, hs2⟩
    · rw [upI_ne _ _ q]; exact ⟨(ro r hr q).trans (hZ r hr).1, (hs r hr q).trans (hZ r hr).2⟩⟩
theorem MM.u (hZ : ∀ r, r < 25 → hz L S r (Z r)) {t : Nat} {z x : Int} (h2 : MS kA f0 f1 o li si su di L' (upI S t x) G' U') (hL' : lr L') (ro : ∀ r, r < 25 → r ≠ t → mg L' r = mg L r) (hv : mg L' t = (z.natAbs : Int)) (hx : x = c3 z 0) : MM kA f0 f1 o li si su di (upI Z t z) :=
  MM.of hZ h2 hL' ro (fun _ _ h => upI_ne _ _ h) hv (by rw [upI_self]; exact hx)
theorem MM.st (hZ : ∀ r, r < 25 → hz L S r (Z r)) {t : Nat} {z x : Int} (h2 : MS kA f0 f1 o li si su di L' (upI S t (if mg L' t = 0 then 0 else x)) G' U') (hL' : lr L') (ro : ∀ r, r < 25 → r ≠ t → mg L' r = mg L r) (hv : mg L' t = (z.natAbs : Int)) (hx : z ≠ 0 → x = c3 z 0) : MM kA f0 f1 o li si su di (upI Z t z) :=
  MM.u hZ h2 hL' ro hv (by
    by_cases q : z = 0
    · rw [if_pos (by omega), c3_eq q]
    · rw [if_neg (by omega), hx q])
theorem MM.self (h : MM kA f0 f o li si su di Z) : MM kA f f o li si su di Z := by
  obtain ⟨L, S, G, U, h1, h2⟩ := h
  exact ⟨L, S, G, U, h1.self, h2⟩
theorem MM.tr (h : MM kA f0 f o li si su di Z) (h2 : MM kA f f1 o li si su di Z') : MM kA f0 f1 o li si su di Z' := by
  obtain ⟨L, S, G, U, h1, -⟩ := h
  obtain ⟨L', S', G', U', h3, h4⟩ := h2
  exact ⟨L', S', G', U', h1.tr h3, h4⟩
theorem MM.lt (h : MM kA f0 f o li si su di Z) {r : Nat} (hr : r < 25) : ((Z r).natAbs : Int) < 65536 ^ 140 := by
  obtain ⟨L, S, G, U, h1, h2, h3⟩ := h
  have := (mg_nn h2 hr).2
  rw [(h3 r hr).1] at this
  exact this
end MMS
theorem c3_mul (a b : Int) : (if (a.natAbs : Int) * (b.natAbs : Int) = 0 then 0 else c3 a 0 * c3 b 0) = c3 (a * b) 0 := by
  have e : (a.natAbs : Int) * (b.natAbs : Int) = ((a * b).natAbs : Int) := by rw [Int.natAbs_mul, Int.natCast_mul]
  rw [e]
  rcases c3_sg a with ⟨h1, q1⟩ | ⟨h1, q1⟩ | ⟨h1, q1⟩ <;> rcases c3_sg b with ⟨h2, q2⟩ | ⟨h2, q2⟩ | ⟨h2, q2⟩
  · have := Int.mul_pos_of_neg_of_neg q1 q2
    rw [if_neg (by omega), h1, h2, c3_gt this]; rfl
  · subst q2; rw [Int.mul_zero, if_pos (by decide), c3_eq rfl]
  · have := Int.mul_neg_of_neg_of_pos q1 q2
    rw [if_neg (by omega), h1, h2, c3_lt this]; rfl
  · subst q1; rw [Int.zero_mul, if_pos (by decide), c3_eq rfl]
  · subst q1; rw [Int.zero_mul, if_pos (by decide), c3_eq rfl]
  · subst q1; rw [Int.zero_mul, if_pos (by decide), c3_eq rfl]
  · have := Int.mul_neg_of_pos_of_neg q1 q2
    rw [if_neg (by omega), h1, h2, c3_lt this]; rfl
  · subst q2; rw [Int.mul_zero, if_pos (by decide), c3_eq rfl]
  · have := Int.mul_pos q1 q2
    rw [if_neg (by omega), h1, h2, c3_gt this]; rfl
theorem abs_mul2 (a b : Int) : (a.natAbs : Int) * (b.natAbs : Int) = ((a * b).natAbs : Int) := by rw [Int.natAbs_mul, Int.natCast_mul]
theorem td_c3 {a b : Int} (h : a.tdiv b ≠ 0) : c3 a 0 * c3 b 0 = c3 (a.tdiv b) 0 := by
  rcases c3_sg a with ⟨h1, q1⟩ | ⟨h1, q1⟩ | ⟨h1, q1⟩ <;> rcases c3_sg b with ⟨h2, q2⟩ | ⟨h2, q2⟩ | ⟨h2, q2⟩
  · have e : (-a).tdiv (-b) = a.tdiv b := by rw [Int.neg_tdiv, Int.tdiv_neg]; omega
    have := Int.tdiv_nonneg (a := -a) (b := -b) (by omega) (by omega)
    rw [h1, h2, c3_gt (by omega)]; rfl
  · subst q2; exact absurd (Int.tdiv_zero a) h
  · have e : (-a).tdiv b = -(a.tdiv b) := Int.neg_tdiv _ _
    have := Int.tdiv_nonneg (a := -a) (b := b) (by omega) (by omega)
    rw [h1, h2, c3_lt (by omega)]; rfl
  · subst q1; exact absurd (Int.zero_tdiv b) h
  · subst q1; exact absurd (Int.zero_tdiv b) h
  · subst q1; exact absurd (Int.zero_tdiv b) h
  · have e : a.tdiv (-b) = -(a.tdiv b) := Int.tdiv_neg _ _
    have := Int.tdiv_nonneg (a := a) (b := -b) (by omega) (by omega)
    rw [h1, h2, c3_lt (by omega)]; rfl
  · subst q2; exact absurd (Int.tdiv_zero a) h
  · have := Int.tdiv_nonneg (a := a) (b := b) (by omega) (by omega)
    rw [h1, h2, c3_gt (by omega)]; rfl
theorem tm_c3 {a b : Int} (h : a.tmod b ≠ 0) : c3 a 0 = c3 (a.tmod b) 0 := by
  rcases c3_sg a with ⟨h1, q1⟩ | ⟨h1, q1⟩ | ⟨h1, q1⟩
  · have e : (-a).tmod b = -(a.tmod b) := Int.neg_tmod _ _
    have := Int.tmod_nonneg (a := -a) b (by omega)
    rw [h1, c3_lt (by omega)]
  · subst q1; exact absurd (Int.zero_tmod b) h
  · have := Int.tmod_nonneg (a := a) b (by omega)
    rw [h1, c3_gt (by omega)]
theorem td_abs (a b : Int) : ((a.tdiv b).natAbs : Int) = (a.natAbs : Int) / (b.natAbs : Int) := by
  rw [Int.natAbs_tdiv]
  exact Int.natCast_ediv _ _
theorem tm_abs (a b : Int) : ((a.tmod b).natAbs : Int) = (a.natAbs : Int) % (b.natAbs : Int) := by rw [Int.natAbs_tmod, Int.natCast_emod]
/-! long division by bits -/
theorem bd_in (A : Int) (i : Nat) : A / 2 ^ i = 2 * (A / 2 ^ (i + 1)) + A / 2 ^ i % 2 := by
  rw [Int.pow_succ, ← Int.ediv_ediv_of_nonneg (Int.le_of_lt (p2_pos i))]
  omega
theorem qr_uniq {n d q r : Int} (hd : 0 < d) (e : n = d * q + r) (h0 : 0 ≤ r) (h1 : r < d) : n / d = q ∧ n % d = r := (Int.ediv_emod_unique hd).mpr ⟨by omega, h0, h1⟩
theorem bd_lo {p P B b : Int} (hB : 0 < B) (e : p = 2 * P + b) (h0 : 0 ≤ b) (h : 2 * (P % B) + b < B) : p / B = 2 * (P / B) ∧ p % B = 2 * (P % B) + b := by
  have h1 := Int.emod_nonneg P (show B ≠ 0 by omega)
  have h2 := Int.mul_ediv_add_emod P B
  refine qr_uniq hB ?_ (by omega) h
  have : B * (2 * (P / B)) = 2 * (B * (P / B)) := by grind
  omega
theorem bd_hi {p P B b : Int} (hB : 0 < B) (e : p = 2 * P + b) (h0 : b ≤ 1) (h : B ≤ 2 * (P % B) + b) : p / B = 2 * (P / B) + 1 ∧ p % B = 2 * (P % B) + b - B := by
  have h1 := Int.emod_lt_of_pos P hB
  have h2 := Int.mul_ediv_add_emod P B
  refine qr_uniq hB ?_ (by omega) (by omega)
  have : B * (2 * (P / B) + 1) = 2 * (B * (P / B)) + B := by grind
  omega
theorem p2_140 : (65536 : Int) ^ 140 = 2 ^ 2240 := p2_16 140
theorem p2_s (n : Nat) : (2 : Int) ^ (n + 1) = 2 ^ n * 2 := Int.pow_succ _ _
/-- setting a bit of a row -/
theorem sb_val {L : Nat → Int} {t i : Nat} (hi : i < 2240) : mg (upI L (140 * t + i / 16) (L (140 * t + i / 16) + 2 ^ (i % 16))) t = mg L t + 2 ^ i := by
  show ev (fun k => upI L (140 * t + i / 16) _ (140 * t + k)) 140 = _
  rw [ro_up (by omega), ev_up (by omega)]
  show mg L t + (L (140 * t + i / 16) + 2 ^ (i % 16) - L (140 * t + i / 16)) * 65536 ^ (i / 16) = _
  rw [show L (140 * t + i / 16) + 2 ^ (i % 16) - L (140 * t + i / 16) = 2 ^ (i % 16) by omega, p2_16, ← Int.pow_add]
  have : i % 16 + 16 * (i / 16) = i := by omega
  rw [this]
theorem cb_val {L : Nat → Int} {t i : Nat} {x : Int} (hi : i < 2240) (hx : L (140 * t + i / 16) = x + 2 ^ (i % 16)) : mg (upI L (140 * t + i / 16) x) t = mg L t - 2 ^ i := by
  show ev (fun k => upI L (140 * t + i / 16) _ (140 * t + k)) 140 = _
  rw [ro_up (by omega), ev_up (by omega)]
  show mg L t + (x - L (140 * t + i / 16)) * 65536 ^ (i / 16) = _
  rw [hx, show x - (x + 2 ^ (i % 16)) = -2 ^ (i % 16) by omega, Int.neg_mul, p2_16, ← Int.pow_add]
  have : i % 16 + 16 * (i / 16) = i := by omega
  rw [this]
  omega
theorem p16_le {i : Nat} (hi : i < 16) : 0 < (2 : Int) ^ i ∧ (2 : Int) ^ i ≤ 32768 := by
  have h := p2_le (show i ≤ 15 by omega)
  have e : (2 : Int) ^ 15 = 32768 := by decide
  have := p2_pos i
  omega
/-- a limb with a clear bit stays a limb when it is set -/
theorem sb_lt {x : Int} {i : Nat} (hi : i < 16) (h0 : 0 ≤ x ∧ x < 65536) (hb : x / 2 ^ i % 2 = 0) : x + 2 ^ i < 65536 := by
  rcases (show i = 0 ∨ i = 1 ∨ i = 2 ∨ i = 3 ∨ i = 4 ∨ i = 5 ∨ i = 6 ∨ i = 7 ∨ i = 8 ∨ i = 9 ∨ i = 10 ∨ i = 11 ∨ i = 12 ∨ i = 13 ∨ i = 14 ∨ i = 15 by omega) with rfl | rfl | rfl | rfl | rfl | rfl | rfl | rfl | rfl | rfl | rfl | rfl | rfl | rfl | rfl | rfl <;> omega
theorem clear_bit {m : Int} {i : Nat} (q : Int) (h : m = q * 2 ^ (i + 1)) : m / 2 ^ i % 2 = 0 := by
  have p := p2_pos i
  rw [h, p2_s, Int.mul_comm (2 ^ i) 2, ← Int.mul_assoc, Int.mul_ediv_cancel _ (by omega)]
  omega
/-! common divisors by halves -/
theorem cp2 {y : Int} (hy : y % 2 = 1) : Nat.Coprime 2 y.natAbs := by
  show Nat.gcd 2 y.natAbs = 1
  rw [Nat.gcd_rec, show y.natAbs % 2 = 1 by omega]
  exact Nat.gcd_one_left 2
theorem g_half {x y : Int} (hx : x % 2 = 0) (hy : y % 2 = 1) : Int.gcd (x / 2) y = Int.gcd x y := by
  have e : x = 2 * (x / 2) := by omega
  show Nat.gcd (x / 2).natAbs y.natAbs = Nat.gcd x.natAbs y.natAbs
  rw [show x.natAbs = 2 * (x / 2).natAbs by omega]
  exact (Nat.Coprime.gcd_mul_left_cancel _ (cp2 hy)).symm
theorem g_half2 {x y : Int} (hx : x % 2 = 1) (hy : y % 2 = 0) : Int.gcd x (y / 2) = Int.gcd x y := by
  rw [Int.gcd_comm, g_half hy hx, Int.gcd_comm]
theorem g_sub (x y : Int) : Int.gcd (x - y) y = Int.gcd x y := by
  have := eu_gcd x y 1
  rw [Int.one_mul] at this
  rw [Int.gcd_comm, this]
theorem g_sub2 (x y : Int) : Int.gcd x (y - x) = Int.gcd x y := by
  rw [Int.gcd_comm, g_sub, Int.gcd_comm]
theorem g_pow {x y a b : Int} {k : Nat} (h1 : x * 2 ^ k = a) (h2 : y * 2 ^ k = b) : (Int.gcd x y : Int) * 2 ^ k = (Int.gcd a b : Int) := by
  have p := p2_pos k
  rw [← h1, ← h2, Int.gcd_mul_right, Int.natCast_mul]
  congr 1
theorem tw_lt {e A : Int} {k : Nat} (he : 1 ≤ e) (h : e * 2 ^ k = A) (hA : A < 2 ^ 2240) : k < 2240 := by
  rcases Nat.lt_or_ge k 2240 with q | q
  · exact q
  · have h1 := p2_le q
    have p := p2_pos k
    have h2 : 1 * 2 ^ k ≤ e * 2 ^ k := Int.mul_le_mul_of_nonneg_right he (Int.le_of_lt p)
    rw [Int.one_mul, h] at h2
    exact absurd (Int.lt_of_lt_of_le hA h1) (Int.not_lt.mpr h2)
theorem gcd_le {a b : Int} (ha : a ≠ 0) : 1 ≤ (Int.gcd a b : Int) ∧ (Int.gcd a b : Int) ≤ (a.natAbs : Int) := by
  have h1 : Int.gcd a b ∣ a.natAbs := Int.gcd_dvd_natAbs_left a b
  have h2 := Nat.le_of_dvd (by omega) h1
  have h3 : 0 < Int.gcd a b := Int.gcd_pos_of_ne_zero_left b ha
  omega
theorem MM.two {kA : Nat → ClassId} {f0 f1 : mw_M} {o li si su di : Nat} {L S G U L' S' Z Z2 : Nat → Int} (hZ : ∀ r, r < 25 → hz L S r (Z2 r)) (hZ2 : ∀ r, r ≠ 18 → r ≠ 19 → Z2 r = Z r) {q w x y : Int} (h2 : MS kA f0 f1 o li si su di L' (upI (upI S' 18 (if mg L' 18 = 0 then 0 else x)) 19 (if mg L' 19 = 0 then 0 else y)) G U) (hL' : lr L') (ro : ∀ r, r < 25 → r ≠ 18 → r ≠ 19 → mg L' r = mg L r ∧ S' r = S r) (q1 : mg L' 18 = (q.natAbs : Int)) (q2 : mg L' 19 = (w.natAbs : Int)) (hq : q ≠ 0 → x = c3 q 0) (hw : w ≠ 0 → y = c3 w 0) : MM kA f0 f1 o li si su di (upI (upI Z 18 q) 19 w) :=
  ⟨L', _, G, U, h2, hL', fun r hr => by
    by_cases e1 : r = 19
    · subst e1
      rw [upI_self]
      refine ⟨q2, ?_⟩
      rw [upI_self]
      by_cases e : w = 0
      · rw [if_pos (by omega), c3_eq e]
      · rw [if_neg (by omega), hw e]
    · by_cases e2 : r = 18
      · subst e2
        rw [upI_ne _ _ e1, upI_self]
        refine ⟨q1, ?_⟩
        rw [upI_ne _ _ e1, upI_self]
        by_cases e : q = 0
        · rw [if_pos (by omega), c3_eq e]
        · rw [if_neg (by omega), hq e]
      · rw [upI_ne _ _ e1, upI_ne _ _ e2, ← hZ2 r e2 e1]
        refine ⟨(ro r hr e2 e1).1.trans (hZ r hr).1, ?_⟩
        rw [upI_ne _ _ e1, upI_ne _ _ e2]
        exact (ro r hr e2 e1).2.trans (hZ r hr).2⟩
theorem emod_le_nn (p : Int) {V : Int} (hV : 0 < V) (hp : 0 ≤ p) : p % V ≤ p := by
  have h1 := Int.mul_ediv_add_emod p V
  have h2 := Int.mul_nonneg (Int.le_of_lt hV) (Int.ediv_nonneg hp (Int.le_of_lt hV))
  omega
