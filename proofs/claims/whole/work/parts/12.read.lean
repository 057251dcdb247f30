/-! what the reads answer -/
theorem wv_cons (g : Nat → Int) (p k : Nat) : wv g p (k + 1) = g p + 1000000 * wv g (p + 1) k := by
  have h := dv_split (fun i => g (p + i)) 1 k
  have e1 : dv (fun i => g (p + i)) 1 = g p := by rw [dv_s, dv_0]; simp
  rw [e1, Int.pow_one, Nat.add_comm 1 k] at h
  show dv (fun i => g (p + i)) (k + 1) = _
  rw [h]
  congr 2
  show dv (fun i => g (p + (1 + i))) k = dv (fun i => g (p + 1 + i)) k
  congr 1
  funext i
  congr 1
  omega
theorem wv_all (g : Nat → Int) (n : Nat) : wv g 0 n = dv g n := by
  show dv (fun i => g (0 + i)) n = dv g n
  congr 1
  funext i
  rw [Nat.zero_add]
/-- the part of a place -/
theorem dv_part {g : Nat → Int} {n j : Nat} (h : dg g n) (hj : j < n) : dv g n / 1000000 ^ j % 1000000 = g j := by
  have e1 : dv g n = dv g j + 1000000 ^ j * wv g j (n - j) := by rw [← dv_wv]; congr 1; omega
  have h1 := dv_nn (h.sub (show j ≤ n by omega))
  have h2 := dv_lt (h.sub (show j ≤ n by omega))
  have e2 : dv g n / 1000000 ^ j = wv g j (n - j) := by
    rw [e1, Int.add_mul_ediv_left _ _ (Int.ne_of_gt (bp_pos j)), Int.ediv_eq_zero_of_lt h1 h2, Int.zero_add]
  obtain ⟨k, hk⟩ : ∃ k, n - j = k + 1 := ⟨n - j - 1, by omega⟩
  rw [e2, hk, wv_cons, Int.add_mul_emod_self_left]
  exact Int.emod_eq_of_lt (h j hj).1 (h j hj).2
theorem tn_in (i : Nat) (h : i < 6) : tn_ i = 10 ^ i := by
  rcases i with _ | _ | _ | _ | _ | _ | i
  all_goals first | rfl | omega
/-- k is how many digits m has -/
def isnd (m : Int) (k : Nat) : Prop := (m = 0 ∧ k = 1) ∨ (1 ≤ k ∧ 10 ^ (k - 1) ≤ m ∧ m < 10 ^ k)
theorem tp_pos (n : Nat) : (0 : Int) < 10 ^ n := Int.pow_pos (by decide)
theorem tp_s (n : Nat) : (10 : Int) ^ (n + 1) = 10 ^ n * 10 := Int.pow_succ _ _
theorem tp_le {a b : Nat} (h : a ≤ b) : (10 : Int) ^ a ≤ 10 ^ b := by
  induction h with
  | refl => exact Int.le_refl _
  | step h ih =>
    rename_i k
    have e := tp_s k
    have h2 := tp_pos k
    show (10 : Int) ^ a ≤ 10 ^ (k + 1)
    omega
theorem bp_tp (n : Nat) : (1000000 : Int) ^ n = 10 ^ (6 * n) := by
  rw [Int.pow_mul]
  rfl
theorem isnd_uniq {m : Int} {k j : Nat} (h1 : isnd m k) (h2 : isnd m j) : k = j := by
  rcases h1 with ⟨a1, a2⟩ | ⟨a1, a2, a3⟩ <;> rcases h2 with ⟨b1, b2⟩ | ⟨b1, b2, b3⟩
  · omega
  · have := tp_pos (j - 1); omega
  · have := tp_pos (k - 1); omega
  · rcases Nat.lt_trichotomy k j with q | q | q
    · have := tp_le (show k ≤ j - 1 by omega); omega
    · exact q
    · have := tp_le (show j ≤ k - 1 by omega); omega
theorem nd_of {g : Nat → Int} {n c : Nat} (h : cn g n) (hn : 0 < n) (hc : 1 ≤ c ∧ c ≤ 6) (h1 : 10 ^ (c - 1) ≤ g (n - 1)) (h2 : g (n - 1) < 10 ^ c) : isnd (dv g n) ((n - 1) * 6 + c) := by
  obtain ⟨k, rfl⟩ : ∃ k, n = k + 1 := ⟨n - 1, by omega⟩
  rw [Nat.add_sub_cancel] at h1 h2 ⊢
  have a1 := dv_nn (h.2.1.sub (Nat.le_succ k))
  have a2 := dv_lt (h.2.1.sub (Nat.le_succ k))
  have b := bp_pos k
  right
  refine ⟨by omega, ?_, ?_⟩
  · have e : (10 : Int) ^ (k * 6 + c - 1) = 10 ^ (c - 1) * 1000000 ^ k := by rw [bp_tp, ← Int.pow_add]; congr 1; omega
    have m := Int.mul_le_mul_of_nonneg_right h1 (Int.le_of_lt b)
    rw [e, dv_s]
    omega
  · have e : (10 : Int) ^ (k * 6 + c) = 10 ^ c * 1000000 ^ k := by rw [bp_tp, ← Int.pow_add]; congr 1; omega
    have m := Int.mul_le_mul_of_nonneg_right (show g k + 1 ≤ 10 ^ c by omega) (Int.le_of_lt b)
    rw [Int.add_mul, Int.one_mul] at m
    rw [e, dv_s]
    omega
theorem dig_low (w : Int) {i : Nat} (hi : i < 6) : w % 1000000 / 10 ^ i % 10 = w / 10 ^ i % 10 := by
  rcases i with _ | _ | _ | _ | _ | _ | i
  · show w % 1000000 / 1 % 10 = w / 1 % 10; omega
  · show w % 1000000 / 10 % 10 = w / 10 % 10; omega
  · show w % 1000000 / 100 % 10 = w / 100 % 10; omega
  · show w % 1000000 / 1000 % 10 = w / 1000 % 10; omega
  · show w % 1000000 / 10000 % 10 = w / 10000 % 10; omega
  · show w % 1000000 / 100000 % 10 = w / 100000 % 10; omega
  · omega
theorem dig_at {g : Nat → Int} {n : Nat} (h : dg g n) (q : Nat) : pz g n (q / 6) / 10 ^ (q % 6) % 10 = dv g n / 10 ^ q % 10 := by
  have e : (10 : Int) ^ q = 1000000 ^ (q / 6) * 10 ^ (q % 6) := by rw [bp_tp, ← Int.pow_add]; congr 1; omega
  rw [e, ← Int.ediv_ediv_of_nonneg (Int.le_of_lt (bp_pos _)), ← dig_low (dv g n / 1000000 ^ (q / 6)) (Nat.mod_lt q (by decide))]
  congr 2
  rcases Nat.lt_or_ge (q / 6) n with c | c
  · rw [pz_lt c, dv_part h c]
  · rw [pz_ge c]
    have h1 := dv_lt h
    have h2 := bp_le c
    rw [Int.ediv_eq_zero_of_lt (dv_nn h) (by omega)]
    rfl
theorem tn_rng (i : Nat) (h : i < 6) : 0 < tn_ i ∧ tn_ i ≤ 100000 := by
  rcases i with _ | _ | _ | _ | _ | _ | i
  all_goals first | decide | omega
theorem fc_in (i : Nat) (h : i < 8) : 0 < fc_ i ∧ fc_ i ≤ 8 := by
  rcases i with _ | _ | _ | _ | _ | _ | _ | _ | i
  all_goals first | decide | omega
/-- the product of the first factors -/
def fp_ : Nat → Int
  | 0 => 1
  | i + 1 => fp_ i * fc_ i
theorem fp_0 : fp_ 0 = 1 := rfl
theorem fp_s (i : Nat) : fp_ (i + 1) = fp_ i * fc_ i := rfl
theorem fp_8 : fp_ 8 = 1000000 := by decide
theorem mod_mul (t a b k : Int) : t * a % k * b % k = t * (a * b) % k := by
  rw [Int.mul_emod (t * a % k), Int.emod_emod_of_dvd _ (Int.dvd_refl k), ← Int.mul_emod, Int.mul_assoc]
theorem mod_horner (w x k : Int) : (w % k * fp_ 8 % k + x) % k = (x + 1000000 * w) % k := by
  rw [fp_8, Int.emod_add_emod, Int.add_comm x, Int.add_emod, Int.mul_emod, Int.emod_emod_of_dvd _ (Int.dvd_refl k), ← Int.mul_emod, ← Int.add_emod, Int.mul_comm w]
theorem mul_rng {x a : Int} (hx : 0 ≤ x) (hx2 : x ≤ 1152921504606846975) (ha : 0 < a ∧ a ≤ 8) : 0 ≤ x * a ∧ x * a ≤ 1152921504606846976 * 8 - 8 := by
  have h1 := Int.mul_nonneg hx (Int.le_of_lt ha.1)
  have h2 := Int.mul_le_mul hx2 ha.2 (Int.le_of_lt ha.1) (by decide)
  omega
theorem neg_mod0 {z a k : Int} (hz : z = -a) (h : a % k = 0) : z % k = 0 := by
  subst hz
  exact Int.emod_eq_zero_of_dvd (Int.dvd_neg.mpr (Int.dvd_of_emod_eq_zero h))
theorem neg_mod1 {z a k : Int} (hz : z = -a) (hk : 0 < k) (h : a % k ≠ 0) : z % k = k - a % k := by
  subst hz
  have h1 := Int.emod_nonneg a (show k ≠ 0 by omega)
  have h2 := Int.emod_lt_of_pos a hk
  have h3 := Int.mul_ediv_add_emod a k
  have e : -a = (k - a % k) + k * (-(a / k) - 1) := by
    have : k * (-(a / k) - 1) = -(k * (a / k)) - k := by grind
    omega
  rw [e, Int.add_mul_emod_self_left]
  exact Int.emod_eq_of_lt (by omega) (by omega)
