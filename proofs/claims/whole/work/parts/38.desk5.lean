/-! pure rows: powers, lowest terms, roots -/
theorem pw_mono {A : Int} {m n : Nat} (h : m ≤ n) (hb : (1000000 : Int) ^ 50 ≤ ((A ^ m).natAbs : Int)) : (1000000 : Int) ^ 50 ≤ ((A ^ n).natAbs : Int) := by
  induction h with
  | refl => exact hb
  | step h ih =>
    rename_i k
    have h0 := b50.2.2
    rw [show A ^ (k + 1) = A ^ k * A from Int.pow_succ _ _, Int.natAbs_mul, Int.natCast_mul]
    rcases Nat.eq_zero_or_pos A.natAbs with q | q
    · have a0 : A = 0 := by omega
      subst a0
      exfalso
      rcases Nat.eq_zero_or_pos k with q2 | q2
      · subst q2
        rw [Int.pow_zero] at ih
        have : ((1 : Int).natAbs : Int) = 1 := rfl
        omega
      · rw [Int.zero_pow (by omega)] at ih
        have : ((0 : Int).natAbs : Int) = 0 := rfl
        omega
    · have h1 : ((A ^ k).natAbs : Int) * 1 ≤ ((A ^ k).natAbs : Int) * (A.natAbs : Int) := Int.mul_le_mul_of_nonneg_left (by omega) (by omega)
      omega
theorem pw_sq {A : Int} {e j : Nat} : A ^ (e / 2 ^ (j + 1)) * A ^ (e / 2 ^ (j + 1)) = A ^ (e / 2 ^ (j + 1) + e / 2 ^ (j + 1)) := (Int.pow_add _ _ _).symm
theorem pw_bit {e j : Nat} : e / 2 ^ j = 2 * (e / 2 ^ (j + 1)) + e / 2 ^ j % 2 := by
  rw [Nat.pow_succ, ← Nat.div_div_eq_div_mul]
  omega
theorem nI_iI (n : Nat) : nI n = iI (n : Int) := Int32.ofInt_eq_ofNat.symm
theorem iI_and (a b : Nat) : iI (a : Int) &&& iI (b : Int) = iI ((a &&& b : Nat) : Int) := by
  rw [← nI_iI, ← nI_iI, ← nI_iI]
  apply Int32.toBitVec_inj.mp
  show BitVec.ofNat 32 a &&& BitVec.ofNat 32 b = BitVec.ofNat 32 (a &&& b)
  rw [BitVec.ofNat_and]
theorem and2p (e k : Nat) : e &&& 2 ^ k = (e / 2 ^ k % 2) * 2 ^ k := by
  apply Nat.eq_of_testBit_eq
  intro i
  rw [Nat.testBit_and, Nat.testBit_two_pow]
  have h3 : e.testBit k = decide (e / 2 ^ k % 2 = 1) := Nat.testBit_eq_decide_div_mod_eq
  by_cases q : e / 2 ^ k % 2 = 1
  · rw [q, Nat.one_mul, Nat.testBit_two_pow]
    by_cases q2 : k = i
    · subst q2; rw [h3]; simp [q]
    · simp [q2]
  · have q0 : e / 2 ^ k % 2 = 0 := by omega
    rw [q0, Nat.zero_mul, Nat.zero_testBit]
    by_cases q2 : k = i
    · subst q2; rw [h3]; simp [q0]
    · simp [q2]
theorem and_bit {e k : Nat} (he : e ≤ 2147483647) (hk : k ≤ 30) : iI (e : Int) &&& iI ((2 ^ k : Nat) : Int) = 0 ↔ e / 2 ^ k % 2 = 0 := by
  rw [iI_and, show (0 : Int32) = iI 0 from rfl, and2p]
  have h2 : 2 ^ k ≤ 2 ^ 30 := Nat.pow_le_pow_right (by decide) hk
  have h4 : (2 : Nat) ^ 30 = 1073741824 := by decide
  have h5 : 0 < 2 ^ k := Nat.pow_pos (by decide)
  generalize 2 ^ k = P at h2 h5 ⊢
  rcases (show e / P % 2 = 0 ∨ e / P % 2 = 1 by omega) with q | q
  · rw [q, Nat.zero_mul]; exact ⟨fun _ => rfl, fun _ => rfl⟩
  · rw [q, Nat.one_mul, iI_eq ⟨⟨by omega, by omega⟩, by decide⟩]
    exact ⟨fun h => by omega, fun h => absurd h (by decide)⟩
section BITS2
variable {p : Program} {l : Launch} {e : Env} {R : Room} {s : State} {m : MethodId} {args : Array Value} {below : List Frame} {meth : Method} {c : Code} {H : Heap} {locs : List Loc} {cells slots : Nat} {Q : State → Prop}
variable {cc : ByteArray} {nL : Nat} {own : String} {Ts : List Cond} {pc : Nat} {ls : Array Slot} {rest : List Value} {D : va_G} {cl : List vw_C} {tys : List (ClassId × FieldType)}
theorem mv_andne {x : Nat} {y : Int} (k : Nat) (B : mw_C p s m args meth c cc nL own Ts D cl tys) {off : Int} {tgt : Nat} (hdg1 : decode cc pc = .ok (.iand, 1)) (hdg : decode cc (pc + 1) = .ok (.ifCond .ne off, 3)) (ht : ((pc + 1 : Nat) : Int) + off = (tgt : Int)) (hx : x ≤ 2147483647) (hk : k ≤ 30) (hy : y = ((2 ^ k : Nat) : Int)) (kt : ¬ x / 2 ^ k % 2 = 0 → W p l e R s m args below meth c H locs cells slots Q (F0 m tgt ls rest)) (kf : x / 2 ^ k % 2 = 0 → W p l e R s m args below meth c H locs cells slots Q (F0 m (pc + 4) ls rest)) : W p l e R s m args below meth c H locs cells slots Q (F0 m pc ls (.int (iI y) :: .int (iI (x : Int)) :: rest)) := by
  subst hy
  exact lv_iand B.1 B.2.1 hdg1 (lv_if_ne B.1 B.2.1 hdg ht (fun q => kt (fun q2 => q ((and_bit hx hk).mpr q2))) (fun q => kf ((and_bit hx hk).mp q)))
theorem mv_ishr1 {x : Int} (B : mw_C p s m args meth c cc nL own Ts D cl tys) (hdg : decode cc pc = .ok (.ishr, 1)) (h : 0 ≤ x ∧ x ≤ 2147483647) (k : W p l e R s m args below meth c H locs cells slots Q (F0 m (pc + 1) ls (.int (iI (x / 2)) :: rest))) : W p l e R s m args below meth c H locs cells slots Q (F0 m pc ls (.int (iI 1) :: .int (iI x) :: rest)) := by
  refine lv_ishr B.1 B.2.1 hdg ?_
  obtain ⟨n, rfl⟩ : ∃ n : Nat, x = (n : Int) := ⟨x.toNat, by omega⟩
  have e1 : iI (n : Int) >>> (iI 1 &&& 31) = iI ((n : Int) / 2) := by
    rw [← nI_iI, pk_shrN (by omega) (iI 1 &&& 31) 1 (by decide), nI_iI]
    rfl
  rw [e1]
  exact k
end BITS2
theorem Rp.turn {cI : ClassId} {f0 f : mw_M} {h r : Nat} {g : Nat → Int} {n : Nat} {b z : Int} (hz : rp g n b z) (hT : wSt cI f0 h r f g (n : Int) (if b = 0 ∧ 0 < (n : Int) then 1 else 0)) : Rp cI f h r (-z) ∧ fo f0 f h r := by
  refine hT.toRp ⟨hz.1, hz.2.1, hz.2.2.1, ?_⟩
  rcases hz.2.2.2 with ⟨e1, e2⟩ | ⟨e1, e2, e3⟩
  · by_cases q : 0 < n
    · rw [if_pos ⟨e1, by omega⟩]; exact Or.inr ⟨rfl, q, by omega⟩
    · rw [if_neg (by omega)]
      have : n = 0 := by omega
      subst this
      rw [dv_0] at e2 ⊢
      exact Or.inl ⟨rfl, by omega⟩
  · rw [if_neg (by omega)]; exact Or.inl ⟨rfl, by omega⟩
theorem gcd_pos_ {p q : Int} (hq : q ≠ 0) : (0 : Int) < (Int.gcd p q : Int) := by
  have := Int.gcd_pos_of_ne_zero_right p hq
  omega
theorem lw_neg {q G : Int} (hG : 0 < G) (hd : G ∣ q) : (q.tdiv G < 0 ↔ q < 0) ∧ (q < 0 → -(q.tdiv G) = (q.natAbs : Int) / G) ∧ (0 ≤ q → q.tdiv G = (q.natAbs : Int) / G) := by
  obtain ⟨k, rfl⟩ := hd
  have e1 : (G * k).tdiv G = k := Int.mul_tdiv_cancel_left k (by omega)
  have e2 : ((G * k).natAbs : Int) = G * (k.natAbs : Int) := by rw [Int.natAbs_mul, Int.natCast_mul]; congr 1; omega
  have e3 : G * (k.natAbs : Int) / G = (k.natAbs : Int) := Int.mul_ediv_cancel_left _ (by omega)
  rw [e1, e2, e3]
  have h1 : G * k < 0 ↔ k < 0 := by
    constructor
    · intro h
      rcases Int.lt_or_le k 0 with c | c
      · exact c
      · have := Int.mul_nonneg (Int.le_of_lt hG) c; omega
    · intro h; exact Int.mul_neg_of_pos_of_neg hG h
  refine ⟨h1.symm, fun h => ?_, fun h => ?_⟩
  · have := h1.mp h; omega
  · have : ¬ k < 0 := fun q => by have := h1.mpr q; omega
    omega
theorem kp2_y {Y : Nat → Int} {a b p q : Int} (h1 : ((lwN p q).natAbs : Int) < 1000000 ^ 50) (h2 : ((lwD p q).natAbs : Int) < 1000000 ^ 50) : kp2 Y a b p q = (1, upI (upI Y a.toNat (lwN p q)) b.toNat (lwD p q)) := by
  unfold kp2
  rw [if_pos ⟨h1, h2⟩]
theorem kp2_n {Y : Nat → Int} {a b p q : Int} (h : ¬ (((lwN p q).natAbs : Int) < 1000000 ^ 50 ∧ ((lwD p q).natAbs : Int) < 1000000 ^ 50)) : kp2 Y a b p q = (-1, Y) := by
  unfold kp2
  rw [if_neg h]
theorem upI2_same {Y Y1 : Nat → Int} {a b : Nat} {x y : Int} (hs : ∀ i, i < 16 → Y1 i = Y i) (i : Nat) (hi : i < 16) : upI (upI Y1 a x) b y i = upI (upI Y a x) b y i := by
  by_cases q2 : i = b
  · rw [q2, upI_self, upI_self]
  · rw [upI_ne _ _ q2, upI_ne _ _ q2]
    by_cases q3 : i = a
    · rw [q3, upI_self, upI_self]
    · rw [upI_ne _ _ q3, upI_ne _ _ q3]; exact hs i hi
theorem kp2_same {Y Y1 : Nat → Int} {a b p q p1 q1 : Int} (hp : p1 = p) (hq : q1 = q) (hs : ∀ i, i < 16 → Y1 i = Y i) : (kp2 Y1 a b p1 q1).1 = (kp2 Y a b p q).1 ∧ ∀ i, i < 16 → (kp2 Y1 a b p1 q1).2 i = (kp2 Y a b p q).2 i := by
  subst hp; subst hq
  by_cases c1 : ((lwN p1 q1).natAbs : Int) < 1000000 ^ 50
  · by_cases c2 : ((lwD p1 q1).natAbs : Int) < 1000000 ^ 50
    · rw [kp2_y c1 c2, kp2_y c1 c2]
      exact ⟨rfl, fun i hi => upI2_same hs i hi⟩
    · rw [kp2_n (fun c => c2 c.2), kp2_n (fun c => c2 c.2)]
      exact ⟨rfl, hs⟩
  · rw [kp2_n (fun c => c1 c.1), kp2_n (fun c => c1 c.1)]
    exact ⟨rfl, hs⟩
theorem tq_le (a b : Int) : ((a.tdiv b).natAbs : Int) ≤ (a.natAbs : Int) ∧ ((a.tmod b).natAbs : Int) ≤ (a.natAbs : Int) :=
  ⟨by rw [Int.natAbs_tdiv]; exact Int.ofNat_le.mpr (Nat.div_le_self _ _), by rw [Int.natAbs_tmod]; exact Int.ofNat_le.mpr (Nat.mod_le _ _)⟩
