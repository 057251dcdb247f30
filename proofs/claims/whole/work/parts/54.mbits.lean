/-! setting and clearing a bit; places side by side -/
theorem tnI {n : Nat} (h : n < 4294967296) : (iI (n : Int)).toBitVec.toNat = n := by
  show (BitVec.ofInt 32 (n : Int)).toNat = n
  rw [BitVec.toNat_ofInt]
  omega
theorem tnL {n : Nat} (h : n < 18446744073709551616) : (lI (n : Int)).toBitVec.toNat = n := by
  show (BitVec.ofInt 64 (n : Int)).toNat = n
  rw [BitVec.toNat_ofInt]
  omega
theorem or_bit {y j : Nat} (h : y.testBit j = false) : y ||| 2 ^ j = y ^^^ 2 ^ j := by
  apply Nat.eq_of_testBit_eq
  intro i
  rw [Nat.testBit_or, Nat.testBit_xor, Nat.testBit_two_pow]
  by_cases q : j = i
  · subst q; simp [h]
  · simp [q]
theorem or_add {y j : Nat} (h : y / 2 ^ j % 2 = 0) : y ||| 2 ^ j = y + 2 ^ j := by
  have hp : 0 < 2 ^ j := Nat.two_pow_pos j
  have e1 : y = 2 ^ j * (2 * (y / 2 ^ j / 2)) + y % 2 ^ j := by
    have a1 := Nat.div_add_mod y (2 ^ j)
    have a2 : 2 * (y / 2 ^ j / 2) = y / 2 ^ j := by omega
    rw [a2]
    exact a1.symm
  have hlo : y % 2 ^ j < 2 ^ j := Nat.mod_lt _ hp
  have e2 : (2 * (y / 2 ^ j / 2)) ||| 1 = 2 * (y / 2 ^ j / 2) + 1 := by
    have := Nat.two_pow_add_eq_or_of_lt (i := 1) (b := 1) (by decide) (y / 2 ^ j / 2)
    rw [Nat.pow_one] at this
    omega
  generalize y / 2 ^ j / 2 = q at e1 e2
  generalize y % 2 ^ j = lo at e1 hlo
  subst e1
  rw [Nat.two_pow_add_eq_or_of_lt hlo, Nat.or_assoc, Nat.or_comm lo, ← Nat.or_assoc]
  have e3 : 2 ^ j * (2 * q) ||| 2 ^ j = 2 ^ j * (2 * q + 1) := by
    rw [← e2, Nat.mul_comm, Nat.mul_comm (2 ^ j) (2 * q ||| 1), ← Nat.shiftLeft_eq, ← Nat.shiftLeft_eq, Nat.shiftLeft_or_distrib, Nat.shiftLeft_eq 1 j, Nat.one_mul]
  rw [e3, ← Nat.two_pow_add_eq_or_of_lt hlo, ← Nat.two_pow_add_eq_or_of_lt hlo, Nat.mul_add, Nat.mul_one]
  omega
theorem xor_sub {y j : Nat} (h : y / 2 ^ j % 2 = 0) : (y + 2 ^ j) ^^^ 2 ^ j = y := by
  have hb : y.testBit j = false := by
    rw [Nat.testBit_eq_decide_div_mod_eq, decide_eq_false_iff_not]
    omega
  rw [← or_add h, or_bit hb, Nat.xor_assoc, Nat.xor_self, Nat.xor_zero]
theorem iI_shl {n k : Nat} (hk : k < 32) (h : n * 2 ^ k < 4294967296) (hn : n < 4294967296) : iI (n : Int) <<< (iI (k : Int) &&& 31) = iI ((n * 2 ^ k : Nat) : Int) := by
  have hs : ((iI (k : Int) &&& 31).toBitVec.smod 32).toNat = k := by
    rw [← nI_iI]
    exact s_l_ k hk
  apply Int32.toBitVec_inj.mp
  apply BitVec.eq_of_toNat_eq
  rw [Int32.toBitVec_shiftLeft, tnI h]
  show ((iI (n : Int)).toBitVec <<< ((iI (k : Int) &&& 31).toBitVec.smod 32).toNat).toNat = _
  rw [hs, BitVec.toNat_shiftLeft, tnI hn, Nat.shiftLeft_eq, Nat.mod_eq_of_lt h]
theorem iI_or {a b k : Nat} (h1 : a < 2 ^ k) (h2 : b * 2 ^ k + a < 4294967296) : iI ((b * 2 ^ k : Nat) : Int) ||| iI (a : Int) = iI ((b * 2 ^ k + a : Nat) : Int) := by
  apply Int32.toBitVec_inj.mp
  apply BitVec.eq_of_toNat_eq
  rw [Int32.toBitVec_or, BitVec.toNat_or, tnI h2, tnI (by omega), tnI (by omega), Nat.mul_comm, ← Nat.two_pow_add_eq_or_of_lt h1]
theorem iI_orc {a b k : Nat} (h1 : a < 2 ^ k) (h2 : b * 2 ^ k + a < 4294967296) : iI (a : Int) ||| iI ((b * 2 ^ k : Nat) : Int) = iI ((b * 2 ^ k + a : Nat) : Int) := by
  apply Int32.toBitVec_inj.mp
  apply BitVec.eq_of_toNat_eq
  rw [Int32.toBitVec_or, BitVec.toNat_or, tnI h2, tnI (by omega), tnI (by omega), Nat.or_comm, Nat.mul_comm, ← Nat.two_pow_add_eq_or_of_lt h1]
theorem iI_setb {y j : Nat} (h : y / 2 ^ j % 2 = 0) (h2 : y + 2 ^ j < 4294967296) : iI (y : Int) ||| iI ((2 ^ j : Nat) : Int) = iI ((y + 2 ^ j : Nat) : Int) := by
  apply Int32.toBitVec_inj.mp
  apply BitVec.eq_of_toNat_eq
  have hp : 0 < 2 ^ j := Nat.two_pow_pos j
  rw [Int32.toBitVec_or, BitVec.toNat_or, tnI h2, tnI (n := y) (by omega), tnI (n := 2 ^ j) (by omega), or_add h]
theorem iI_clrb {y j : Nat} (h : y / 2 ^ j % 2 = 0) (h2 : y + 2 ^ j < 4294967296) : iI ((y + 2 ^ j : Nat) : Int) ^^^ iI ((2 ^ j : Nat) : Int) = iI (y : Int) := by
  apply Int32.toBitVec_inj.mp
  apply BitVec.eq_of_toNat_eq
  have hp : 0 < 2 ^ j := Nat.two_pow_pos j
  rw [Int32.toBitVec_xor, BitVec.toNat_xor, tnI h2, tnI (n := y) (by omega), tnI (n := 2 ^ j) (by omega), xor_sub h]
theorem lI_shl16 {n : Nat} (h : n < 281474976710656) : lI (n : Int) <<< ((iI 16).toInt64 &&& 63) = lI ((n * 65536 : Nat) : Int) := by
  have hs : (((iI 16).toInt64 &&& 63).toBitVec.smod 64).toNat = 16 := by decide
  apply Int64.toBitVec_inj.mp
  apply BitVec.eq_of_toNat_eq
  rw [Int64.toBitVec_shiftLeft, tnL (by omega)]
  show ((lI (n : Int)).toBitVec <<< (((iI 16).toInt64 &&& 63).toBitVec.smod 64).toNat).toNat = _
  rw [hs, BitVec.toNat_shiftLeft, tnL (by omega), Nat.shiftLeft_eq]
  omega
theorem lI_or16 {a b : Nat} (h1 : a < 65536) (h2 : b < 281474976710656) : lI ((b * 65536 : Nat) : Int) ||| lI (a : Int) = lI ((b * 65536 + a : Nat) : Int) := by
  apply Int64.toBitVec_inj.mp
  apply BitVec.eq_of_toNat_eq
  rw [Int64.toBitVec_or, BitVec.toNat_or, tnL (by omega), tnL (by omega), tnL (by omega), Nat.mul_comm, show 65536 = 2 ^ 16 from rfl, ← Nat.two_pow_add_eq_or_of_lt (i := 16) h1]
section MB2
variable {p : Program} {l : Launch} {e : Env} {R : Room} {s : State} {m : MethodId} {args : Array Value} {below : List Frame} {meth : Method} {c : Code} {H : Heap} {locs : List Loc} {cells slots : Nat} {Q : State → Prop}
variable {cc : ByteArray} {nL : Nat} {own : String} {Ts : List Cond} {pc : Nat} {ls : Array Slot} {rest : List Value} {D : va_G} {cl : List vw_C} {tys : List (ClassId × FieldType)}
/-- x << k of a small number -/
theorem mv_shl {x y : Int} (j : Nat) (B : mw_C p s m args meth c cc nL own Ts D cl tys) (hdg : decode cc pc = .ok (.ishl, 1)) (hy : y = (j : Int)) (hj : j < 32) (h : 0 ≤ x ∧ x * 2 ^ j ≤ 2147483647) (k : W p l e R s m args below meth c H locs cells slots Q (F0 m (pc + 1) ls (.int (iI (x * 2 ^ j)) :: rest))) : W p l e R s m args below meth c H locs cells slots Q (F0 m pc ls (.int (iI y) :: .int (iI x) :: rest)) := by
  obtain ⟨n, rfl⟩ : ∃ n : Nat, x = (n : Int) := ⟨x.toNat, by omega⟩
  have e1 : (n : Int) * 2 ^ j = ((n * 2 ^ j : Nat) : Int) := by rw [Int.natCast_mul, Int.natCast_pow]; rfl
  have hp : 0 < 2 ^ j := Nat.two_pow_pos j
  have h1 : n ≤ n * 2 ^ j := Nat.le_mul_of_pos_right n hp
  rw [e1] at h k
  subst hy
  exact lv_ishl B.1 B.2.1 hdg (by rw [iI_shl hj (by omega) (by omega)]; exact k)
/-- y | (b << k), places side by side -/
theorem mv_orc {x y : Int} (j : Nat) (B : mw_C p s m args meth c cc nL own Ts D cl tys) (hdg : decode cc pc = .ok (.ior, 1)) (hx : 0 ≤ x ∧ x < 2 ^ j) (hy : 0 ≤ y ∧ y * 2 ^ j + x ≤ 2147483647) (k : W p l e R s m args below meth c H locs cells slots Q (F0 m (pc + 1) ls (.int (iI (y * 2 ^ j + x)) :: rest))) : W p l e R s m args below meth c H locs cells slots Q (F0 m pc ls (.int (iI (y * 2 ^ j)) :: .int (iI x) :: rest)) := by
  obtain ⟨n, rfl⟩ : ∃ n : Nat, x = (n : Int) := ⟨x.toNat, by omega⟩
  obtain ⟨b, rfl⟩ : ∃ n : Nat, y = (n : Int) := ⟨y.toNat, by omega⟩
  have e1 : (b : Int) * 2 ^ j = ((b * 2 ^ j : Nat) : Int) := by rw [Int.natCast_mul, Int.natCast_pow]; rfl
  have e2 : (2 : Int) ^ j = ((2 ^ j : Nat) : Int) := by rw [Int.natCast_pow]; rfl
  rw [e2] at hx
  rw [e1] at hy k ⊢
  exact lv_ior B.1 B.2.1 hdg (by rw [iI_orc (by omega) (by omega), Int.natCast_add]; exact k)
theorem mv_or {x y : Int} (j : Nat) (B : mw_C p s m args meth c cc nL own Ts D cl tys) (hdg : decode cc pc = .ok (.ior, 1)) (hx : 0 ≤ x ∧ x < 2 ^ j) (hy : 0 ≤ y ∧ y * 2 ^ j + x ≤ 2147483647) (k : W p l e R s m args below meth c H locs cells slots Q (F0 m (pc + 1) ls (.int (iI (y * 2 ^ j + x)) :: rest))) : W p l e R s m args below meth c H locs cells slots Q (F0 m pc ls (.int (iI x) :: .int (iI (y * 2 ^ j)) :: rest)) := by
  obtain ⟨n, rfl⟩ : ∃ n : Nat, x = (n : Int) := ⟨x.toNat, by omega⟩
  obtain ⟨b, rfl⟩ : ∃ n : Nat, y = (n : Int) := ⟨y.toNat, by omega⟩
  have e1 : (b : Int) * 2 ^ j = ((b * 2 ^ j : Nat) : Int) := by rw [Int.natCast_mul, Int.natCast_pow]; rfl
  have e2 : (2 : Int) ^ j = ((2 ^ j : Nat) : Int) := by rw [Int.natCast_pow]; rfl
  rw [e2] at hx
  rw [e1] at hy k ⊢
  exact lv_ior B.1 B.2.1 hdg (by rw [iI_or (by omega) (by omega), Int.natCast_add]; exact k)
theorem natbit {y j : Nat} (h : (y : Int) / 2 ^ j % 2 = 0) : y / 2 ^ j % 2 = 0 := by
  have e2 : (2 : Int) ^ j = ((2 ^ j : Nat) : Int) := by rw [Int.natCast_pow]; rfl
  rw [e2, ← Int.natCast_ediv] at h
  omega
theorem mv_setb {x : Int} (j : Nat) (B : mw_C p s m args meth c cc nL own Ts D cl tys) (hdg : decode cc pc = .ok (.ior, 1)) (hx : 0 ≤ x ∧ x + 1 * 2 ^ j ≤ 2147483647) (hb : x / 2 ^ j % 2 = 0) (k : W p l e R s m args below meth c H locs cells slots Q (F0 m (pc + 1) ls (.int (iI (x + 2 ^ j)) :: rest))) : W p l e R s m args below meth c H locs cells slots Q (F0 m pc ls (.int (iI (1 * 2 ^ j)) :: .int (iI x) :: rest)) := by
  obtain ⟨n, rfl⟩ : ∃ n : Nat, x = (n : Int) := ⟨x.toNat, by omega⟩
  have e2 : (2 : Int) ^ j = ((2 ^ j : Nat) : Int) := by rw [Int.natCast_pow]; rfl
  have hb := natbit hb
  rw [Int.one_mul, e2] at hx
  rw [e2] at k
  rw [Int.one_mul, e2]
  exact lv_ior B.1 B.2.1 hdg (by rw [iI_setb hb (by omega), Int.natCast_add]; exact k)
theorem mv_clrb {x : Int} (j : Nat) (B : mw_C p s m args meth c cc nL own Ts D cl tys) (hdg : decode cc pc = .ok (.ixor, 1)) (hx : 0 ≤ x ∧ x + 1 * 2 ^ j ≤ 2147483647) (hb : x / 2 ^ j % 2 = 0) {y : Int} (hy : y = x + 2 ^ j) (k : W p l e R s m args below meth c H locs cells slots Q (F0 m (pc + 1) ls (.int (iI x) :: rest))) : W p l e R s m args below meth c H locs cells slots Q (F0 m pc ls (.int (iI (1 * 2 ^ j)) :: .int (iI y) :: rest)) := by
  subst hy
  obtain ⟨n, rfl⟩ : ∃ n : Nat, x = (n : Int) := ⟨x.toNat, by omega⟩
  have e2 : (2 : Int) ^ j = ((2 ^ j : Nat) : Int) := by rw [Int.natCast_pow]; rfl
  have hb := natbit hb
  rw [Int.one_mul, e2] at hx
  rw [Int.one_mul, e2, ← Int.natCast_add]
  exact lv_ixor B.1 B.2.1 hdg (by rw [iI_clrb hb (by omega)]; exact k)
theorem mv_lshl16 {x : Int} (B : mw_C p s m args meth c cc nL own Ts D cl tys) (hdg : decode cc pc = .ok (.lshl, 1)) (h : 0 ≤ x ∧ x < 281474976710656) (k : W p l e R s m args below meth c H locs cells slots Q (F0 m (pc + 1) ls (.long (lI (x * 65536)) :: rest))) : W p l e R s m args below meth c H locs cells slots Q (F0 m pc ls (.int (iI 16) :: .long (lI x) :: rest)) := by
  obtain ⟨n, rfl⟩ : ∃ n : Nat, x = (n : Int) := ⟨x.toNat, by omega⟩
  exact lv_lshl B.1 B.2.1 hdg ((lI_shl16 (by omega)).trans (by rw [Int.natCast_mul]; rfl)) k
theorem mv_lor16 {x y : Int} (B : mw_C p s m args meth c cc nL own Ts D cl tys) (hdg : decode cc pc = .ok (.lor, 1)) (hx : 0 ≤ x ∧ x < 65536) (hy : 0 ≤ y ∧ y < 281474976710656) (k : W p l e R s m args below meth c H locs cells slots Q (F0 m (pc + 1) ls (.long (lI (y * 65536 + x)) :: rest))) : W p l e R s m args below meth c H locs cells slots Q (F0 m pc ls (.long (lI x) :: .long (lI (y * 65536)) :: rest)) := by
  obtain ⟨n, rfl⟩ : ∃ n : Nat, x = (n : Int) := ⟨x.toNat, by omega⟩
  obtain ⟨b, rfl⟩ : ∃ n : Nat, y = (n : Int) := ⟨y.toNat, by omega⟩
  have e := lI_or16 (a := n) (b := b) (by omega) (by omega)
  rw [Int.natCast_add, Int.natCast_mul] at e
  exact lv_lor B.1 B.2.1 hdg (by rw [show ((65536 : Nat) : Int) = 65536 from rfl] at e; rw [e]; exact k)
end MB2
/-! digits of base 65536, bits -/
theorem ev_cons (g : Nat → Int) (n : Nat) : ev g (n + 1) = g 0 + 65536 * ev (fun i => g (1 + i)) n := by
  have h := ev_split g 1 n
  rw [Nat.add_comm 1 n] at h
  rw [h]
  show ev g 0 + g 0 * 65536 ^ 0 + 65536 ^ 1 * _ = _
  rw [ev_0, Int.pow_zero, Int.pow_one]
  omega
theorem ev_part {g : Nat → Int} {n j : Nat} (h : eg g n) (hj : j < n) : ev g n / 65536 ^ j % 65536 = g j := by
  obtain ⟨k, rfl⟩ : ∃ k, n = j + (k + 1) := ⟨n - j - 1, by omega⟩
  have h1 := ev_nn (h.sub (show j ≤ j + (k + 1) by omega))
  have h2 := ev_lt (h.sub (show j ≤ j + (k + 1) by omega))
  have p0 := ep_pos j
  rw [ev_split, Int.add_mul_ediv_left _ _ (by omega), Int.ediv_eq_zero_of_lt h1 h2, Int.zero_add, ev_cons]
  have h3 := h j (by omega)
  show (g (j + 0) + _) % 65536 = g j
  rw [Nat.add_zero]
  omega
theorem mod_dig (u : Int) (j : Nat) : u % 65536 ^ (j + 1) = u % 65536 ^ j + u / 65536 ^ j % 65536 * 65536 ^ j := by
  have p0 := ep_pos j
  have e1 := Int.mul_ediv_add_emod u (65536 ^ j)
  have r1 := Int.emod_nonneg u (show (65536 : Int) ^ j ≠ 0 by omega)
  have r2 := Int.emod_lt_of_pos u p0
  have e2 := Int.mul_ediv_add_emod (u / 65536 ^ j) 65536
  have d1 := Int.emod_nonneg (u / 65536 ^ j) (show (65536 : Int) ≠ 0 by decide)
  have d2 := Int.emod_lt_of_pos (u / 65536 ^ j) (show (0 : Int) < 65536 by decide)
  generalize u % 65536 ^ j = r at *
  generalize u / 65536 ^ j = q at *
  generalize q / 65536 = q2 at *
  generalize q % 65536 = d at *
  have e3 : u = r + d * 65536 ^ j + 65536 ^ (j + 1) * q2 := by
    rw [ep_s]
    subst e2
    rw [← e1]
    grind
  have b1 : d * 65536 ^ j ≤ 65535 * 65536 ^ j := Int.mul_le_mul_of_nonneg_right (by omega) (by omega)
  have b0 := Int.mul_nonneg d1 (Int.le_of_lt p0)
  rw [e3, Int.add_mul_emod_self_left]
  exact Int.emod_eq_of_lt (by omega) (by rw [ep_s]; omega)
theorem p2_16 (j : Nat) : (65536 : Int) ^ j = 2 ^ (16 * j) := by
  rw [Int.pow_mul]; rfl
theorem p2_pos (n : Nat) : (0 : Int) < 2 ^ n := Int.pow_pos (by decide)
theorem low_bit (w : Int) {i : Nat} (hi : i < 16) : w % 65536 / 2 ^ i % 2 = w / 2 ^ i % 2 := by
  rcases (show i = 0 ∨ i = 1 ∨ i = 2 ∨ i = 3 ∨ i = 4 ∨ i = 5 ∨ i = 6 ∨ i = 7 ∨ i = 8 ∨ i = 9 ∨ i = 10 ∨ i = 11 ∨ i = 12 ∨ i = 13 ∨ i = 14 ∨ i = 15 by omega) with rfl | rfl | rfl | rfl | rfl | rfl | rfl | rfl | rfl | rfl | rfl | rfl | rfl | rfl | rfl | rfl <;> omega
theorem ev_bit {g : Nat → Int} {n k : Nat} (h : eg g n) (hk : k / 16 < n) : g (k / 16) / 2 ^ (k % 16) % 2 = ev g n / 2 ^ k % 2 := by
  rw [← ev_part h hk, low_bit _ (Nat.mod_lt k (by decide)), Int.ediv_ediv_of_nonneg (Int.le_of_lt (ep_pos _)), p2_16, ← Int.pow_add, Nat.div_add_mod]
