/-! THE DESK: twenty-four numbers at addresses w i with rows ra i: 0..15 the slots, 16 upper, 17 lower, 18 first, 19 second, 20 quotient, 21 unused, 22 and 23 the pair's two -/
abbrev dkc (sl up lo fi se qu pa : Nat) : va_E := .inr (2, [.ref sl, .ref up, .ref lo, .ref fi, .ref se, .ref qu, .ref pa])
def DK (kA : Nat → ClassId) (f : mw_M) (d sl pa : Nat) (w ra : Nat → Nat) (Y : Nat → Int) : Prop :=
  f d = some (dkc sl (w 16) (w 17) (w 18) (w 19) (w 20) pa) ∧
  (∃ gs, f sl = some (mw_qr (kA 1) 16 gs) ∧ ∀ i, i < 16 → gs i = some (w i)) ∧
  (∃ mo rmo fe rfe a b c e, swp (w 22) (ra 22) (w 23) (ra 23) mo rmo fe rfe ∧ f pa = some (prc (w 21) mo fe a b c e)) ∧
  (∀ i, i < 24 → Rp (kA 0) f (w i) (ra i) (Y i)) ∧ (∀ i j, i < 24 → j < 24 → i ≠ j → w i ≠ w j ∧ ra i ≠ ra j)
def dks (d sl pa : Nat) (w ra : Nat → Nat) (k : Nat) : Prop := k = d ∨ k = sl ∨ k = pa ∨ ∃ i, i < 24 ∧ (k = w i ∨ k = ra i)
section DESK
variable {kA : Nat → ClassId} {f f1 : mw_M} {d sl pa : Nat} {w ra : Nat → Nat} {Y : Nat → Int}
theorem dks_w {k i : Nat} (h : ¬ dks d sl pa w ra k) (hi : i < 24) : k ≠ w i ∧ k ≠ ra i := ⟨fun q => h (Or.inr (Or.inr (Or.inr ⟨i, hi, Or.inl q⟩))), fun q => h (Or.inr (Or.inr (Or.inr ⟨i, hi, Or.inr q⟩)))⟩
theorem DK.rp (h : DK kA f d sl pa w ra Y) {i : Nat} (hi : i < 24) : Rp (kA 0) f (w i) (ra i) (Y i) := h.2.2.2.1 i hi
theorem DK.ne (h : DK kA f d sl pa w ra Y) {i j : Nat} (hi : i < 24) (hj : j < 24) (hij : i ≠ j) : w i ≠ w j ∧ ra i ≠ ra j := h.2.2.2.2 i j hi hj hij
/-- the three cells that are no number -/
theorem DK.frame (h : DK kA f d sl pa w ra Y) (ho : ∀ k, (∀ i, i < 24 → k ≠ w i ∧ k ≠ ra i) → f1 k = f k) (hR : ∀ i, i < 24 → ∃ z, Rp (kA 0) f1 (w i) (ra i) z) {Y1 : Nat → Int} (hY : ∀ i, i < 24 → Rp (kA 0) f1 (w i) (ra i) (Y1 i)) : DK kA f1 d sl pa w ra Y1 := by
  obtain ⟨h1, ⟨gs, h2, h3⟩, ⟨mo, rmo, fe, rfe, a, b, c, e, h4, h5⟩, h6, h7⟩ := h
  have kd : ∀ i, i < 24 → d ≠ w i ∧ d ≠ ra i := fun i hi => by
    obtain ⟨g, n, b', q1, q2, -⟩ := h6 i hi
    exact ⟨fun q => (by rw [← q, h1] at q1; simp [ciW] at q1), fun q => (by rw [← q, h1] at q2; cases q2)⟩
  have ks : ∀ i, i < 24 → sl ≠ w i ∧ sl ≠ ra i := fun i hi => by
    obtain ⟨g, n, b', q1, q2, -⟩ := h6 i hi
    exact ⟨fun q => (by rw [← q, h2] at q1; cases q1), fun q => (by rw [← q, h2] at q2; simp at q2)⟩
  have kp : ∀ i, i < 24 → pa ≠ w i ∧ pa ≠ ra i := fun i hi => by
    obtain ⟨g, n, b', q1, q2, -⟩ := h6 i hi
    exact ⟨Ne.symm (prc_ne h5 q1), Ne.symm (prc_neA h5 q2)⟩
  exact ⟨by rw [ho d kd]; exact h1, ⟨gs, by rw [ho sl ks]; exact h2, h3⟩, ⟨mo, rmo, fe, rfe, a, b, c, e, h4, by rw [ho pa kp]; exact h5⟩, hY, h7⟩
theorem DK.upd (h : DK kA f d sl pa w ra Y) {t : Nat} {z : Int} (ht : t < 24) (hR : Rp (kA 0) f1 (w t) (ra t) z) (hf : fo f f1 (w t) (ra t)) : DK kA f1 d sl pa w ra (upI Y t z) := by
  have hY : ∀ i, i < 24 → Rp (kA 0) f1 (w i) (ra i) (upI Y t z i) := fun i hi => by
    by_cases q : i = t
    · subst q; rw [upI_self]; exact hR
    · rw [upI_ne _ _ q]
      exact (h.rp hi).keep hf (h.rp ht).w (h.ne hi ht q).1 (h.ne hi ht q).2
  exact h.frame (fun k hk => hf k (hk t ht).1 (hk t ht).2) (fun i hi => ⟨_, hY i hi⟩) hY
theorem DK.upd2 (h : DK kA f d sl pa w ra Y) {t u : Nat} {z y : Int} (ht : t < 24) (hu : u < 24) (htu : t ≠ u) (hR : Rp (kA 0) f1 (w t) (ra t) z) (hR2 : Rp (kA 0) f1 (w u) (ra u) y) (hf : fo2 f f1 (w t) (ra t) (w u) (ra u)) : DK kA f1 d sl pa w ra (upI (upI Y t z) u y) := by
  have hY : ∀ i, i < 24 → Rp (kA 0) f1 (w i) (ra i) (upI (upI Y t z) u y i) := fun i hi => by
    by_cases q : i = u
    · subst q; rw [upI_self]; exact hR2
    · rw [upI_ne _ _ q]
      by_cases q2 : i = t
      · subst q2; rw [upI_self]; exact hR
      · rw [upI_ne _ _ q2]
        exact (h.rp hi).keep2 hf (h.rp ht) (h.rp hu) (h.ne hi ht q2).1 (h.ne hi ht q2).2 (h.ne hi hu q).1 (h.ne hi hu q).2
  exact h.frame (fun k hk => hf k (hk t ht).1 (hk t ht).2 (hk u hu).1 (hk u hu).2) (fun i hi => ⟨_, hY i hi⟩) hY
end DESK
abbrev sOk (a : Int) : Prop := 0 ≤ a ∧ a < 16
/-- a number is kept in a slot, if it is not too long -/
def kp (Y : Nat → Int) (t z : Int) : Int × (Nat → Int) := if (z.natAbs : Int) < 1000000 ^ 50 then (1, upI Y t.toNat z) else (-1, Y)
theorem kp_y {Y : Nat → Int} {t z : Int} (h : (z.natAbs : Int) < 1000000 ^ 50) : kp Y t z = (1, upI Y t.toNat z) := by unfold kp; rw [if_pos h]
theorem kp_n {Y : Nat → Int} {t z : Int} (h : ¬ (z.natAbs : Int) < 1000000 ^ 50) : kp Y t z = (-1, Y) := by unfold kp; rw [if_neg h]
/-- what each call answers, and what the slots hold behind it -/
def sp_set (Y : Nat → Int) (a v : Int) : Int × (Nat → Int) := if sOk a then (1, upI Y a.toNat v) else (-1, Y)
def sp_digit (Y : Nat → Int) (a d : Int) : Int × (Nat → Int) := if sOk a ∧ 0 ≤ d ∧ d ≤ 9 then kp Y a (10 * Y a.toNat + d) else (-1, Y)
def sp_copy (Y : Nat → Int) (a t : Int) : Int × (Nat → Int) := if sOk a ∧ sOk t then kp Y t (Y a.toNat) else (-1, Y)
def sp_sum (Y : Nat → Int) (a b t : Int) : Int × (Nat → Int) := if sOk a ∧ sOk b ∧ sOk t then kp Y t (Y a.toNat + Y b.toNat) else (-1, Y)
def sp_less (Y : Nat → Int) (a b t : Int) : Int × (Nat → Int) := if sOk a ∧ sOk b ∧ sOk t then kp Y t (Y a.toNat - Y b.toNat) else (-1, Y)
def sp_product (Y : Nat → Int) (a b t : Int) : Int × (Nat → Int) := if sOk a ∧ sOk b ∧ sOk t then kp Y t (Y a.toNat * Y b.toNat) else (-1, Y)
def sp_over (Y : Nat → Int) (a b t : Int) : Int × (Nat → Int) := if sOk a ∧ sOk b ∧ sOk t ∧ Y b.toNat ≠ 0 then kp Y t ((Y a.toNat).tdiv (Y b.toNat)) else (-1, Y)
def sp_left (Y : Nat → Int) (a b t : Int) : Int × (Nat → Int) := if sOk a ∧ sOk b ∧ sOk t ∧ Y b.toNat ≠ 0 then kp Y t ((Y a.toNat).tmod (Y b.toNat)) else (-1, Y)
def sp_divisor (Y : Nat → Int) (a b t : Int) : Int × (Nat → Int) := if sOk a ∧ sOk b ∧ sOk t then kp Y t (Int.gcd (Y a.toNat) (Y b.toNat) : Int) else (-1, Y)
def isq : Nat → Nat
  | 0 => 0
  | n + 1 => if (isq n + 1) * (isq n + 1) ≤ n + 1 then isq n + 1 else isq n
theorem isq_in (n : Nat) : isq n * isq n ≤ n ∧ n < (isq n + 1) * (isq n + 1) := by
  induction n with
  | zero => decide
  | succ n ih =>
    unfold isq
    by_cases q : (isq n + 1) * (isq n + 1) ≤ n + 1
    · rw [if_pos q]
      refine ⟨q, ?_⟩
      have : (isq n + 1 + 1) * (isq n + 1 + 1) = (isq n + 1) * (isq n + 1) + 2 * (isq n + 1) + 1 := by grind
      omega
    · rw [if_neg q]
      omega
/-- the greatest whole number whose square is not above z -/
def sqr (z : Int) : Int := (isq z.toNat : Int)
theorem sqr_in {z : Int} (h : 0 ≤ z) : 0 ≤ sqr z ∧ sqr z * sqr z ≤ z ∧ z < (sqr z + 1) * (sqr z + 1) := by
  have h1 := isq_in z.toNat
  unfold sqr
  refine ⟨by omega, ?_, ?_⟩
  · have : ((isq z.toNat * isq z.toNat : Nat) : Int) ≤ (z.toNat : Int) := Int.ofNat_le.mpr h1.1
    rw [Int.natCast_mul] at this
    omega
  · have : (z.toNat : Int) < (((isq z.toNat + 1) * (isq z.toNat + 1) : Nat) : Int) := Int.ofNat_lt.mpr h1.2
    rw [Int.natCast_mul, Int.natCast_add, show ((1 : Nat) : Int) = 1 from rfl] at this
    omega
theorem sqr_uniq {z s : Int} (h0 : 0 ≤ s) (h1 : s * s ≤ z) (h2 : z < (s + 1) * (s + 1)) : s = sqr z := by
  have hz : 0 ≤ z := by have := Int.mul_nonneg h0 h0; omega
  have k := sqr_in hz
  have a1 := sq_lt h0 (show 0 ≤ sqr z + 1 by omega) (by omega)
  have a2 := sq_lt k.1 (show 0 ≤ s + 1 by omega) (by omega)
  omega
def sp_root (Y : Nat → Int) (a t : Int) : Int × (Nat → Int) := if sOk a ∧ sOk t ∧ 0 ≤ Y a.toNat then kp Y t (sqr (Y a.toNat)) else (-1, Y)
def sp_power (Y : Nat → Int) (a e t : Int) : Int × (Nat → Int) := if sOk a ∧ sOk t ∧ 0 ≤ e ∧ e ≤ 1000 then kp Y t (Y a.toNat ^ e.toNat) else (-1, Y)
/-- two numbers in lowest terms, the lower one above 0 -/
def lwN (p q : Int) : Int := if q < 0 then -(p.tdiv (Int.gcd p q)) else p.tdiv (Int.gcd p q)
def lwD (p q : Int) : Int := (q.natAbs : Int) / (Int.gcd p q : Int)
def kp2 (Y : Nat → Int) (a b p q : Int) : Int × (Nat → Int) := if ((lwN p q).natAbs : Int) < 1000000 ^ 50 ∧ ((lwD p q).natAbs : Int) < 1000000 ^ 50 then (1, upI (upI Y a.toNat (lwN p q)) b.toNat (lwD p q)) else (-1, Y)
def sp_lowest (Y : Nat → Int) (a b : Int) : Int × (Nat → Int) := if sOk a ∧ sOk b ∧ a ≠ b ∧ Y b.toNat ≠ 0 then kp2 Y a b (Y a.toNat) (Y b.toNat) else (-1, Y)
def sp_fraction (Y : Nat → Int) (a b c d : Int) : Int × (Nat → Int) := if sOk a ∧ sOk b ∧ sOk c ∧ sOk d ∧ a ≠ b ∧ Y b.toNat ≠ 0 ∧ Y d.toNat ≠ 0 then kp2 Y a b (Y a.toNat * Y d.toNat + Y c.toNat * Y b.toNat) (Y b.toNat * Y d.toNat) else (-1, Y)
def sp_order (Y : Nat → Int) (a b : Int) : Int := if sOk a ∧ sOk b then 1 + c3 (Y a.toNat) (Y b.toNat) else -1
def sp_ratio (Y : Nat → Int) (a b c d : Int) : Int := if sOk a ∧ sOk b ∧ sOk c ∧ sOk d ∧ Y b.toNat ≠ 0 ∧ Y d.toNat ≠ 0 then (if (Y b.toNat < 0) = (Y d.toNat < 0) then 1 + c3 (Y a.toNat * Y d.toNat) (Y c.toNat * Y b.toNat) else 1 + c3 (Y c.toNat * Y b.toNat) (Y a.toNat * Y d.toNat)) else -1
def sp_sign (Y : Nat → Int) (a : Int) : Int := if sOk a then 1 + c3 (Y a.toNat) 0 else -1
noncomputable def ndg (m : Int) : Nat := Classical.epsilon (fun k => isnd m k)
theorem ndg_eq {m : Int} {k : Nat} (h : isnd m k) : ndg m = k := isnd_uniq (Classical.epsilon_spec (p := fun k => isnd m k) ⟨k, h⟩) h
noncomputable def sp_digits (Y : Nat → Int) (a : Int) : Int := if sOk a then (ndg ((Y a.toNat).natAbs : Int) : Int) else -1
noncomputable def sp_digitAt (Y : Nat → Int) (a i : Int) : Int := if sOk a ∧ 0 ≤ i ∧ i < (ndg ((Y a.toNat).natAbs : Int) : Int) then ((Y a.toNat).natAbs : Int) / 10 ^ (((ndg ((Y a.toNat).natAbs : Int) : Int) - 1 - i).toNat) % 10 else -1
def sp_modulo (Y : Nat → Int) (a m : Int) : Int := if sOk a ∧ 1 ≤ m ∧ m ≤ 1152921504606846976 then Y a.toNat % m else -1
def sp_low (Y : Nat → Int) (a : Int) : Int := if sOk a then Y a.toNat else 0
