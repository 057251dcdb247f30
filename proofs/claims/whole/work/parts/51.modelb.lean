section MBITS
variable {p : Program} {l : Launch} {e : Env} {R : Room} {s : State} {m : MethodId} {args : Array Value} {below : List Frame} {meth : Method} {c : Code} {H : Heap} {locs : List Loc} {cells slots : Nat} {Q : State → Prop}
variable {cc : ByteArray} {nL : Nat} {own : String} {Ts : List Cond} {pc : Nat} {ls : Array Slot} {rest : List Value} {D : va_G} {cl : List vw_C} {tys : List (ClassId × FieldType)}
theorem mv_mask {x : Int} (B : mw_C p s m args meth c cc nL own Ts D cl tys) (hdg : decode cc pc = .ok (.iand, 1)) (k : W p l e R s m args below meth c H locs cells slots Q (F0 m (pc + 1) ls (.int (iI (x % 65536)) :: rest))) : W p l e R s m args below meth c H locs cells slots Q (F0 m pc ls (.int (iI 65535) :: .int (iI x) :: rest)) := lv_iand B.1 B.2.1 hdg (by rw [iI_mask]; exact k)
theorem mv_shr16 {x : Int} (B : mw_C p s m args meth c cc nL own Ts D cl tys) (hdg : decode cc pc = .ok (.ishr, 1)) (h : -2147483648 ≤ x ∧ x ≤ 2147483647) (k : W p l e R s m args below meth c H locs cells slots Q (F0 m (pc + 1) ls (.int (iI (x / 65536)) :: rest))) : W p l e R s m args below meth c H locs cells slots Q (F0 m pc ls (.int (iI 16) :: .int (iI x) :: rest)) := lv_ishr B.1 B.2.1 hdg (by have e := iI_shr (x := x) 16 (by decide) h; rw [show ((16 : Nat) : Int) = 16 from rfl] at e; rw [e]; exact k)
theorem mv_shrk {x y : Int} (j : Nat) (B : mw_C p s m args meth c cc nL own Ts D cl tys) (hdg : decode cc pc = .ok (.ishr, 1)) (hy : y = (j : Int)) (hj : j < 32) (h : -2147483648 ≤ x ∧ x ≤ 2147483647) (k : W p l e R s m args below meth c H locs cells slots Q (F0 m (pc + 1) ls (.int (iI (x / 2 ^ j)) :: rest))) : W p l e R s m args below meth c H locs cells slots Q (F0 m pc ls (.int (iI y) :: .int (iI x) :: rest)) := lv_ishr B.1 B.2.1 hdg (by rw [hy, iI_shr j hj h]; exact k)
theorem iI_and1 (x : Int) : iI x &&& iI 1 = iI (x % 2) := by
  have h := pk_and (iI x) (m := iI 1) 1 (by decide)
  rw [h, nI_iI]
  congr 1
  have e1 : ((iI x).toBitVec.toNat : Int) = x % 4294967296 := by
    show ((BitVec.ofInt 32 x).toNat : Int) = _
    rw [BitVec.toNat_ofInt]
    have : 0 ≤ x % ((2 ^ 32 : Nat) : Int) := Int.emod_nonneg _ (by decide)
    omega
  omega
theorem mv_and1 {x : Int} (B : mw_C p s m args meth c cc nL own Ts D cl tys) (hdg : decode cc pc = .ok (.iand, 1)) (k : W p l e R s m args below meth c H locs cells slots Q (F0 m (pc + 1) ls (.int (iI (x % 2)) :: rest))) : W p l e R s m args below meth c H locs cells slots Q (F0 m pc ls (.int (iI 1) :: .int (iI x) :: rest)) := lv_iand B.1 B.2.1 hdg (by rw [iI_and1]; exact k)
theorem lI_mask (x : Int) : lI x &&& lI 65535 = lI (x % 65536) := by
  apply Int64.toBitVec_inj.mp
  apply BitVec.eq_of_toNat_eq
  show (BitVec.ofInt 64 x &&& BitVec.ofInt 64 65535).toNat = (BitVec.ofInt 64 (x % 65536)).toNat
  rw [BitVec.toNat_and, BitVec.toNat_ofInt, BitVec.toNat_ofInt, BitVec.toNat_ofInt]
  have e1 : ((65535 : Int) % ((2 ^ 64 : Nat) : Int)).toNat = 2 ^ 16 - 1 := by decide
  rw [e1, Nat.and_two_pow_sub_one_eq_mod]
  have h1 : 0 ≤ x % ((2 ^ 64 : Nat) : Int) := Int.emod_nonneg _ (by decide)
  have h2 : 0 ≤ x % 65536 ∧ x % 65536 < 65536 := by omega
  omega
theorem mv_lmask {x : Int} (B : mw_C p s m args meth c cc nL own Ts D cl tys) (hdg : decode cc pc = .ok (.land, 1)) (k : W p l e R s m args below meth c H locs cells slots Q (F0 m (pc + 1) ls (.long (lI (x % 65536)) :: rest))) : W p l e R s m args below meth c H locs cells slots Q (F0 m pc ls (.long (lI 65535) :: .long (lI x) :: rest)) := lv_land B.1 B.2.1 hdg (by rw [lI_mask]; exact k)
theorem lI_shr16 {x : Int} (h : 0 ≤ x ∧ x ≤ 4611686018427387903) : lI x >>> ((iI 16).toInt64 &&& 63) = lI (x / 65536) := by
  apply Int64.toInt_inj.mp
  have hD : (((iI 16).toInt64 &&& 63).toBitVec.smod 64).toNat = 16 := by decide
  have e1 : (lI x >>> ((iI 16).toInt64 &&& 63)).toInt = (lI x).toInt >>> 16 := by
    rw [← hD]
    exact BitVec.toInt_sshiftRight ..
  rw [e1, Int.shiftRight_eq_div_pow, lI_toInt ⟨by omega, by omega⟩, lI_toInt ⟨by omega, by omega⟩]
  rfl
theorem mv_lshr16 {x : Int} (B : mw_C p s m args meth c cc nL own Ts D cl tys) (hdg : decode cc pc = .ok (.lshr, 1)) (h : 0 ≤ x ∧ x ≤ 4611686018427387903) (k : W p l e R s m args below meth c H locs cells slots Q (F0 m (pc + 1) ls (.long (lI (x / 65536)) :: rest))) : W p l e R s m args below meth c H locs cells slots Q (F0 m pc ls (.int (iI 16) :: .long (lI x) :: rest)) := lv_lshr B.1 B.2.1 hdg (lI_shr16 h) k
/-- u >>> 16 k of a long that holds u, 0 ≤ u < 2^64 -/
theorem lI_ushr {u : Int} {k : Nat} (hu : 0 ≤ u ∧ u < 18446744073709551616) (hk : k < 4) : ((lI u).toUInt64 >>> ((iI (16 * (k : Int))).toInt64.toUInt64 &&& Int64.toUInt64 63)).toInt64 = lI (u / 65536 ^ k) := by
  have hy : ∀ k : Nat, k < 4 → ((iI (16 * (k : Int))).toInt64.toUInt64 &&& Int64.toUInt64 63) = UInt64.ofNat (16 * k) := by decide
  rw [hy k hk]
  apply Int64.toBitVec_inj.mp
  apply BitVec.eq_of_toNat_eq
  show ((BitVec.ofInt 64 u) >>> ((UInt64.ofNat (16 * k)).toBitVec % 64)).toNat = (BitVec.ofInt 64 (u / 65536 ^ k)).toNat
  have e1 : ((UInt64.ofNat (16 * k)).toBitVec % 64).toNat = 16 * k := by
    rcases (show k = 0 ∨ k = 1 ∨ k = 2 ∨ k = 3 by omega) with rfl | rfl | rfl | rfl <;> decide
  rw [BitVec.ushiftRight_eq', e1, BitVec.toNat_ushiftRight, BitVec.toNat_ofInt, BitVec.toNat_ofInt, Nat.shiftRight_eq_div_pow]
  have e2 : u % ((2 ^ 64 : Nat) : Int) = u := Int.emod_eq_of_lt hu.1 hu.2
  have p0 : (0 : Int) < 65536 ^ k := Int.pow_pos (by decide)
  have h1 : 0 ≤ u / 65536 ^ k := Int.ediv_nonneg hu.1 (by omega)
  have h2 : u / 65536 ^ k ≤ u := Int.ediv_le_self _ hu.1
  have e3 : (u / 65536 ^ k) % ((2 ^ 64 : Nat) : Int) = u / 65536 ^ k := Int.emod_eq_of_lt h1 (by have := hu.2; omega)
  rw [e2, e3]
  obtain ⟨n, rfl⟩ : ∃ n : Nat, u = (n : Int) := ⟨u.toNat, by omega⟩
  have e4 : (65536 : Int) ^ k = ((2 ^ (16 * k) : Nat) : Int) := by rw [Nat.pow_mul, Int.natCast_pow]; rfl
  rw [e4]
  rw [← Int.natCast_ediv, Int.toNat_natCast, Int.toNat_natCast]
theorem mv_lushr {u y : Int} (j : Nat) (B : mw_C p s m args meth c cc nL own Ts D cl tys) (hdg : decode cc pc = .ok (.lushr, 1)) (hy : y = 16 * (j : Int)) (hj : j < 4) (h : 0 ≤ u ∧ u < 18446744073709551616) (k : W p l e R s m args below meth c H locs cells slots Q (F0 m (pc + 1) ls (.long (lI (u / 65536 ^ j)) :: rest))) : W p l e R s m args below meth c H locs cells slots Q (F0 m pc ls (.int (iI y) :: .long (lI u) :: rest)) := by
  subst hy
  exact lv_lushr B.1 B.2.1 hdg (lI_ushr h hj) k
end MBITS
/-- one place of a sum of rows with carry -/
theorem am_step {w P X x cy pt c2 : Int} (hv : w + cy * P = X) (h : pt + c2 * 65536 = x + cy) : w + pt * P + c2 * (P * 65536) = X + x * P := by
  have e : pt = x + cy - c2 * 65536 := by omega
  subst e
  subst hv
  grind
theorem rowv {L L' : Nat → Int} {t k : Nat} (hk : k < 140) {x : Int} : ev (fun i => upI L (140 * t + k) x (140 * t + i)) (k + 1) = ev (fun i => L (140 * t + i)) k + x * 65536 ^ k := by
  rw [ro_up hk, ev_up_s]
theorem evz (L : Nat → Int) (t : Nat) : ev (fun i => L (140 * t + i)) 140 = mg L t := rfl
theorem mt_zero {t P : Int} (hP : 0 < P) (h1 : -P < t * P) (h2 : t * P < P) : t = 0 := t_zero hP h1 h2
