/-! the calls' meaning hangs on the slots alone -/
section SC
variable {Y Z : Nat → Int} {a b c d e t v i m : Int}
def bdd (Y : Nat → Int) : Prop := ∀ i, i < 16 → ((Y i).natAbs : Int) < 1000000 ^ 50
def sme (Y Z : Nat → Int) : Prop := ∀ i, i < 16 → Y i = Z i
def scR (p q : Int × (Nat → Int)) : Prop := p.1 = q.1 ∧ sme p.2 q.2 ∧ bdd p.2
theorem up_bd (h : bdd Y) {t : Nat} {z : Int} (hz : (z.natAbs : Int) < 1000000 ^ 50) : bdd (upI Y t z) := fun i hi => by
  by_cases q : i = t
  · rw [q, upI_self]; exact hz
  · rw [upI_ne _ _ q]; exact h i hi
theorem up_sm (h : sme Y Z) {t : Nat} {z : Int} : sme (upI Y t z) (upI Z t z) := fun i hi => by
  by_cases q : i = t
  · rw [q, upI_self, upI_self]
  · rw [upI_ne _ _ q, upI_ne _ _ q]; exact h i hi
theorem sc_no (h : sme Y Z) (hB : bdd Y) : scR (-1, Y) (-1, Z) := ⟨rfl, h, hB⟩
theorem sc_kp (h : sme Y Z) (hB : bdd Y) {z : Int} : scR (kp Y t z) (kp Z t z) := by
  by_cases q : (z.natAbs : Int) < 1000000 ^ 50
  · rw [kp_y q, kp_y q]; exact ⟨rfl, up_sm h, up_bd hB q⟩
  · rw [kp_n q, kp_n q]; exact sc_no h hB
theorem sc_kp2 (h : sme Y Z) (hB : bdd Y) {p q : Int} : scR (kp2 Y a b p q) (kp2 Z a b p q) := by
  by_cases k : ((lwN p q).natAbs : Int) < 1000000 ^ 50 ∧ ((lwD p q).natAbs : Int) < 1000000 ^ 50
  · rw [kp2_y k.1 k.2, kp2_y k.1 k.2]; exact ⟨rfl, up_sm (up_sm h), up_bd (up_bd hB k.1) k.2⟩
  · rw [kp2_n k, kp2_n k]; exact sc_no h hB
theorem sc_set (h : sme Y Z) (hB : bdd Y) (hv : -9223372036854775808 ≤ v ∧ v ≤ 9223372036854775807) : scR (sp_set Y a v) (sp_set Z a v) := by
  unfold sp_set
  by_cases q : sOk a
  · rw [if_pos q, if_pos q]
    exact ⟨rfl, up_sm h, up_bd hB (Int.lt_of_le_of_lt (show (v.natAbs : Int) ≤ 9223372036854775808 by omega) (by decide))⟩
  · rw [if_neg q, if_neg q]; exact sc_no h hB
theorem sc_digit (h : sme Y Z) (hB : bdd Y) : scR (sp_digit Y a d) (sp_digit Z a d) := by
  unfold sp_digit
  by_cases q : sOk a ∧ 0 ≤ d ∧ d ≤ 9
  · rw [if_pos q, if_pos q, h a.toNat (by omega)]; exact sc_kp h hB
  · rw [if_neg q, if_neg q]; exact sc_no h hB
theorem sc_copy (h : sme Y Z) (hB : bdd Y) : scR (sp_copy Y a t) (sp_copy Z a t) := by
  unfold sp_copy
  by_cases q : sOk a ∧ sOk t
  · rw [if_pos q, if_pos q, h a.toNat (by omega)]; exact sc_kp h hB
  · rw [if_neg q, if_neg q]; exact sc_no h hB
theorem sc_sum (h : sme Y Z) (hB : bdd Y) : scR (sp_sum Y a b t) (sp_sum Z a b t) := by
  unfold sp_sum
  by_cases q : sOk a ∧ sOk b ∧ sOk t
  · rw [if_pos q, if_pos q, ← h a.toNat (by omega), ← h b.toNat (by omega)]; exact sc_kp h hB
  · rw [if_neg q, if_neg q]; exact sc_no h hB
theorem sc_less (h : sme Y Z) (hB : bdd Y) : scR (sp_less Y a b t) (sp_less Z a b t) := by
  unfold sp_less
  by_cases q : sOk a ∧ sOk b ∧ sOk t
  · rw [if_pos q, if_pos q, ← h a.toNat (by omega), ← h b.toNat (by omega)]; exact sc_kp h hB
  · rw [if_neg q, if_neg q]; exact sc_no h hB
theorem sc_product (h : sme Y Z) (hB : bdd Y) : scR (sp_product Y a b t) (sp_product Z a b t) := by
  unfold sp_product
  by_cases q : sOk a ∧ sOk b ∧ sOk t
  · rw [if_pos q, if_pos q, ← h a.toNat (by omega), ← h b.toNat (by omega)]; exact sc_kp h hB
  · rw [if_neg q, if_neg q]; exact sc_no h hB
theorem g4 (h : sme Y Z) {P : Prop} : (P ∧ sOk b ∧ sOk t ∧ Y b.toNat ≠ 0 ↔ P ∧ sOk b ∧ sOk t ∧ Z b.toNat ≠ 0) := by
  constructor
  · intro ⟨q0, q1, q2, q3⟩; exact ⟨q0, q1, q2, by rw [← h b.toNat (by omega)]; exact q3⟩
  · intro ⟨q0, q1, q2, q3⟩; exact ⟨q0, q1, q2, by rw [h b.toNat (by omega)]; exact q3⟩
theorem sc_over (h : sme Y Z) (hB : bdd Y) : scR (sp_over Y a b t) (sp_over Z a b t) := by
  unfold sp_over
  by_cases q : sOk a ∧ sOk b ∧ sOk t ∧ Y b.toNat ≠ 0
  · rw [if_pos q, if_pos ((g4 h).mp q), ← h a.toNat (by omega), ← h b.toNat (by omega)]; exact sc_kp h hB
  · rw [if_neg q, if_neg (fun k => q ((g4 h).mpr k))]; exact sc_no h hB
theorem sc_left (h : sme Y Z) (hB : bdd Y) : scR (sp_left Y a b t) (sp_left Z a b t) := by
  unfold sp_left
  by_cases q : sOk a ∧ sOk b ∧ sOk t ∧ Y b.toNat ≠ 0
  · rw [if_pos q, if_pos ((g4 h).mp q), ← h a.toNat (by omega), ← h b.toNat (by omega)]; exact sc_kp h hB
  · rw [if_neg q, if_neg (fun k => q ((g4 h).mpr k))]; exact sc_no h hB
theorem sc_divisor (h : sme Y Z) (hB : bdd Y) : scR (sp_divisor Y a b t) (sp_divisor Z a b t) := by
  unfold sp_divisor
  by_cases q : sOk a ∧ sOk b ∧ sOk t
  · rw [if_pos q, if_pos q, ← h a.toNat (by omega), ← h b.toNat (by omega)]; exact sc_kp h hB
  · rw [if_neg q, if_neg q]; exact sc_no h hB
theorem sc_root (h : sme Y Z) (hB : bdd Y) : scR (sp_root Y a t) (sp_root Z a t) := by
  unfold sp_root
  by_cases q : sOk a ∧ sOk t
  · rw [← h a.toNat (by omega)]
    by_cases q2 : sOk a ∧ sOk t ∧ 0 ≤ Y a.toNat
    · rw [if_pos q2, if_pos q2]; exact sc_kp h hB
    · rw [if_neg q2, if_neg q2]; exact sc_no h hB
  · rw [if_neg (fun k => q ⟨k.1, k.2.1⟩), if_neg (fun k => q ⟨k.1, k.2.1⟩)]; exact sc_no h hB
theorem sc_power (h : sme Y Z) (hB : bdd Y) : scR (sp_power Y a e t) (sp_power Z a e t) := by
  unfold sp_power
  by_cases q : sOk a ∧ sOk t ∧ 0 ≤ e ∧ e ≤ 1000
  · rw [if_pos q, if_pos q, ← h a.toNat (by omega)]; exact sc_kp h hB
  · rw [if_neg q, if_neg q]; exact sc_no h hB
theorem sc_lowest (h : sme Y Z) (hB : bdd Y) : scR (sp_lowest Y a b) (sp_lowest Z a b) := by
  unfold sp_lowest
  by_cases q : sOk a ∧ sOk b
  · rw [← h a.toNat (by omega), ← h b.toNat (by omega)]
    by_cases q2 : sOk a ∧ sOk b ∧ a ≠ b ∧ Y b.toNat ≠ 0
    · rw [if_pos q2, if_pos q2]; exact sc_kp2 h hB
    · rw [if_neg q2, if_neg q2]; exact sc_no h hB
  · rw [if_neg (fun k => q ⟨k.1, k.2.1⟩), if_neg (fun k => q ⟨k.1, k.2.1⟩)]; exact sc_no h hB
theorem sc_fraction (h : sme Y Z) (hB : bdd Y) : scR (sp_fraction Y a b c d) (sp_fraction Z a b c d) := by
  unfold sp_fraction
  by_cases q : sOk a ∧ sOk b ∧ sOk c ∧ sOk d
  · rw [← h a.toNat (by omega), ← h b.toNat (by omega), ← h c.toNat (by omega), ← h d.toNat (by omega)]
    by_cases q2 : sOk a ∧ sOk b ∧ sOk c ∧ sOk d ∧ a ≠ b ∧ Y b.toNat ≠ 0 ∧ Y d.toNat ≠ 0
    · rw [if_pos q2, if_pos q2]; exact sc_kp2 h hB
    · rw [if_neg q2, if_neg q2]; exact sc_no h hB
  · rw [if_neg (fun k => q ⟨k.1, k.2.1, k.2.2.1, k.2.2.2.1⟩), if_neg (fun k => q ⟨k.1, k.2.1, k.2.2.1, k.2.2.2.1⟩)]; exact sc_no h hB
theorem sc_order (h : sme Y Z) : sp_order Y a b = sp_order Z a b := by
  unfold sp_order
  by_cases q : sOk a ∧ sOk b
  · rw [if_pos q, if_pos q, ← h a.toNat (by omega), ← h b.toNat (by omega)]
  · rw [if_neg q, if_neg q]
theorem sc_ratio (h : sme Y Z) : sp_ratio Y a b c d = sp_ratio Z a b c d := by
  unfold sp_ratio
  by_cases q : sOk a ∧ sOk b ∧ sOk c ∧ sOk d
  · rw [← h a.toNat (by omega), ← h b.toNat (by omega), ← h c.toNat (by omega), ← h d.toNat (by omega)]
  · rw [if_neg (fun k => q ⟨k.1, k.2.1, k.2.2.1, k.2.2.2.1⟩), if_neg (fun k => q ⟨k.1, k.2.1, k.2.2.1, k.2.2.2.1⟩)]
theorem sc_sign (h : sme Y Z) : sp_sign Y a = sp_sign Z a := by
  unfold sp_sign
  by_cases q : sOk a
  · rw [if_pos q, if_pos q, ← h a.toNat (by omega)]
  · rw [if_neg q, if_neg q]
theorem sc_digits (h : sme Y Z) : sp_digits Y a = sp_digits Z a := by
  unfold sp_digits
  by_cases q : sOk a
  · rw [if_pos q, if_pos q, ← h a.toNat (by omega)]
  · rw [if_neg q, if_neg q]
theorem sc_digitAt (h : sme Y Z) : sp_digitAt Y a i = sp_digitAt Z a i := by
  unfold sp_digitAt
  by_cases q : sOk a
  · rw [← h a.toNat (by omega)]
  · rw [if_neg (fun k => q k.1), if_neg (fun k => q k.1)]
theorem sc_modulo (h : sme Y Z) : sp_modulo Y a m = sp_modulo Z a m := by
  unfold sp_modulo
  by_cases q : sOk a ∧ 1 ≤ m ∧ m ≤ 1152921504606846976
  · rw [if_pos q, if_pos q, ← h a.toNat (by omega)]
  · rw [if_neg q, if_neg q]
theorem sc_low (h : sme Y Z) : sp_low Y a = sp_low Z a := by
  unfold sp_low
  by_cases q : sOk a
  · rw [if_pos q, if_pos q, ← h a.toNat (by omega)]
  · rw [if_neg q, if_neg q]
end SC
/-! the two objects side by side -/
def lwI (kA : Nat → ClassId) (f : mw_M) (d sl pa : Nat) (w ra : Nat → Nat) (o li si su di : Nat) (Y Z : Nat → Int) : Prop :=
  DK kA f d sl pa w ra Y ∧ MM kA f f o li si su di Z ∧ Z 24 = 1000000 ^ 50 ∧ sme Y Z ∧ bdd Y ∧ ∀ k, dks d sl pa w ra k → ¬ mks o li si su di k
section LWI
variable {kA : Nat → ClassId} {f f1 f2 : mw_M} {d sl pa : Nat} {w ra : Nat → Nat} {o li si su di : Nat} {Y Z Y1 Z1 : Nat → Int}
theorem DK.keep (h : DK kA f d sl pa w ra Y) (hk : ∀ k, dks d sl pa w ra k → f1 k = f k) : DK kA f1 d sl pa w ra Y := by
  obtain ⟨h1, ⟨gs, h2, h3⟩, ⟨mo, rmo, fe, rfe, a, b, c, e, h4, h5⟩, h6, h7⟩ := h
  refine ⟨by rw [hk d (Or.inl rfl)]; exact h1, ⟨gs, by rw [hk sl (Or.inr (Or.inl rfl))]; exact h2, h3⟩, ⟨mo, rmo, fe, rfe, a, b, c, e, h4, by rw [hk pa (Or.inr (Or.inr (Or.inl rfl)))]; exact h5⟩, fun i hi => ?_, h7⟩
  obtain ⟨g, n, b', q1, q2, q3⟩ := h6 i hi
  exact ⟨g, n, b', by rw [hk _ (Or.inr (Or.inr (Or.inr ⟨i, hi, Or.inl rfl⟩)))]; exact q1, by rw [hk _ (Or.inr (Or.inr (Or.inr ⟨i, hi, Or.inr rfl⟩)))]; exact q2, q3⟩
theorem DK.have_ (h : DK kA f d sl pa w ra Y) {k : Nat} (hk : dks d sl pa w ra k) : f k ≠ none := by
  obtain ⟨h1, ⟨gs, h2, h3⟩, ⟨mo, rmo, fe, rfe, a, b, c, e, h4, h5⟩, h6, h7⟩ := h
  rcases hk with rfl | rfl | rfl | ⟨i, hi, rfl | rfl⟩
  · rw [h1]; exact fun q => by cases q
  · rw [h2]; exact fun q => by cases q
  · rw [h5]; exact fun q => by cases q
  · obtain ⟨g, n, b', q1, q2, q3⟩ := h6 i hi
    rw [q1]; exact fun q => by cases q
  · obtain ⟨g, n, b', q1, q2, q3⟩ := h6 i hi
    rw [q2]; exact fun q => by cases q
theorem MM.keep (h : MM kA f f o li si su di Z) (hk : ∀ k, mks o li si su di k → f1 k = f k) : MM kA f1 f1 o li si su di Z := by
  obtain ⟨L, S, G, U, ⟨h1, h2, h3, h4, h5, -⟩, h6⟩ := h
  exact ⟨L, S, G, U, ⟨by rw [hk o (Or.inl rfl)]; exact h1, by rw [hk li (Or.inr (Or.inl rfl))]; exact h2, by rw [hk si (Or.inr (Or.inr (Or.inl rfl)))]; exact h3, by rw [hk di (Or.inr (Or.inr (Or.inr (Or.inr rfl))))]; exact h4, by rw [hk su (Or.inr (Or.inr (Or.inr (Or.inl rfl))))]; exact h5, fun _ _ => rfl⟩, h6⟩
theorem MM.off (h : MM kA f1 f2 o li si su di Z) {k : Nat} (hk : ¬ mks o li si su di k) : f2 k = f1 k := by
  obtain ⟨L, S, G, U, ⟨-, -, -, -, -, h6⟩, -⟩ := h
  exact h6 k hk
theorem lwI.mid (h : lwI kA f d sl pa w ra o li si su di Y Z) (off : ∀ k, ¬ dks d sl pa w ra k → f1 k = f k) : MM kA f1 f1 o li si su di Z :=
  h.2.1.keep (fun k hk => off k (fun q => h.2.2.2.2.2 k q hk))
theorem lwI.next (h : lwI kA f d sl pa w ra o li si su di Y Z) (hD : DK kA f1 d sl pa w ra Y1) (hm : MM kA f1 f2 o li si su di Z1) (h24 : Z1 24 = 1000000 ^ 50) (hs : sme Y1 Z1) (hB : bdd Y1) : lwI kA f2 d sl pa w ra o li si su di Y1 Z1 :=
  ⟨hD.keep (fun k hk => hm.off (h.2.2.2.2.2 k hk)), hm.self, h24, hs, hB, h.2.2.2.2.2⟩
end LWI
/-! rows of the law -/
def sx (xs : Nat → Int32) (j : Nat) : Int := (xs j).toInt
theorem sx_r (xs : Nat → Int32) (j : Nat) : -2147483648 ≤ sx xs j ∧ sx xs j ≤ 2147483647 := by
  have h1 := Int32.le_toInt (xs j)
  have h2 := Int32.toInt_lt (xs j)
  unfold sx
  omega
theorem iI_32 (x : Int32) : iI x.toInt = x := by
  rw [← Int32.toInt_inj, iI_toInt]
  have h1 := Int32.le_toInt x
  have h2 := Int32.toInt_lt x
  omega
theorem iI_mask31 (x : Int) : iI x &&& iI 31 = iI (x % 32) := by
  have h := pk_and (iI x) (m := iI 31) 5 (by decide)
  rw [h, nI_iI]
  congr 1
  have e1 : ((iI x).toBitVec.toNat : Int) = x % 4294967296 := by
    show ((BitVec.ofInt 32 x).toNat : Int) = _
    rw [BitVec.toNat_ofInt]
    have : 0 ≤ x % ((2 ^ 32 : Nat) : Int) := Int.emod_nonneg _ (by decide)
    omega
  omega
theorem lI_shl32 {x : Int} : lI x <<< ((iI 32).toInt64 &&& 63) = lI (x * 4294967296) := by
  have hs : (((iI 32).toInt64 &&& 63).toBitVec.smod 64).toNat = 32 := by decide
  apply Int64.toBitVec_inj.mp
  apply BitVec.eq_of_toNat_eq
  rw [Int64.toBitVec_shiftLeft]
  show ((BitVec.ofInt 64 x) <<< (((iI 32).toInt64 &&& 63).toBitVec.smod 64).toNat).toNat = (BitVec.ofInt 64 (x * 4294967296)).toNat
  rw [hs, BitVec.toNat_shiftLeft, BitVec.toNat_ofInt, BitVec.toNat_ofInt, Nat.shiftLeft_eq]
  show (x % 18446744073709551616).toNat * 4294967296 % 18446744073709551616 = (x * 4294967296 % 18446744073709551616).toNat
  omega
theorem lI_mask32 (x : Int) : lI x &&& lI 4294967295 = lI (x % 4294967296) := by
  apply Int64.toBitVec_inj.mp
  apply BitVec.eq_of_toNat_eq
  show (BitVec.ofInt 64 x &&& BitVec.ofInt 64 4294967295).toNat = (BitVec.ofInt 64 (x % 4294967296)).toNat
  rw [BitVec.toNat_and, BitVec.toNat_ofInt, BitVec.toNat_ofInt, BitVec.toNat_ofInt]
  have e1 : ((4294967295 : Int) % ((2 ^ 64 : Nat) : Int)).toNat = 2 ^ 32 - 1 := by decide
  rw [e1, Nat.and_two_pow_sub_one_eq_mod]
  show (x % 18446744073709551616).toNat % 4294967296 = (x % 4294967296 % 18446744073709551616).toNat
  omega
theorem lI_or32 {x r : Int} (h : 0 ≤ r ∧ r < 4294967296) : lI (x * 4294967296) ||| lI r = lI (x * 4294967296 + r) := by
  apply Int64.toBitVec_inj.mp
  apply BitVec.eq_of_toNat_eq
  show (BitVec.ofInt 64 (x * 4294967296) ||| BitVec.ofInt 64 r).toNat = (BitVec.ofInt 64 (x * 4294967296 + r)).toNat
  rw [BitVec.toNat_or, BitVec.toNat_ofInt, BitVec.toNat_ofInt, BitVec.toNat_ofInt]
  have e1 : (x * 4294967296 % ((2 ^ 64 : Nat) : Int)).toNat = 2 ^ 32 * (x % 4294967296).toNat := by
    show (x * 4294967296 % 18446744073709551616).toNat = 4294967296 * (x % 4294967296).toNat
    omega
  have e2 : (r % ((2 ^ 64 : Nat) : Int)).toNat = r.toNat := by
    show (r % 18446744073709551616).toNat = r.toNat
    omega
  have e3 : r.toNat < 2 ^ 32 := by
    show r.toNat < 4294967296
    omega
  rw [e1, e2, ← Nat.two_pow_add_eq_or_of_lt e3]
  show 4294967296 * (x % 4294967296).toNat + r.toNat = ((x * 4294967296 + r) % 18446744073709551616).toNat
  omega
section LROWS
variable {p : Program} {l : Launch} {e : Env} {R : Room} {s : State} {m : MethodId} {args : Array Value} {below : List Frame} {meth : Method} {c : Code} {H : Heap} {locs : List Loc} {cells slots : Nat} {Q : State → Prop}
variable {cc : ByteArray} {nL : Nat} {own : String} {Ts : List Cond} {pc : Nat} {ls : Array Slot} {rest : List Value} {D : va_G} {cl : List vw_C} {tys : List (ClassId × FieldType)} {A : Nat → Prop} {f : mw_M} {b L : Nat} {xs : Nat → Int32}
theorem mw_sld (B : mw_C p s m args meth c cc nL own Ts D cl tys) (hI : mw_I D cl A s H locs f) (hX : va_X b L xs s s.heap) (hbl : b < s.heap.size) (hbA : ¬ A b) (hL : L ≤ 2560) {x : Int} (j : Nat) (hj : x = (j : Int)) (hjL : j < L) (hdg : decode cc pc = .ok (.iaload, 1)) (kk : W p l e R s m args below meth c H locs cells slots Q (F0 m (pc + 1) ls (.int (iI (sx xs j)) :: rest))) : W p l e R s m args below meth c H locs cells slots Q (F0 m pc ls (.int (iI x) :: .ref b :: rest)) := by
  subst hj
  refine va_sld B.1 B.2.1 hX hbl hbA hI.sub (iI_in hjL (by omega)) hdg ?_
  rw [iI_clamp (by omega), ← iI_32 (xs j)]
  exact kk
theorem mw_slen (B : mw_C p s m args meth c cc nL own Ts D cl tys) (hI : mw_I D cl A s H locs f) (hX : va_X b L xs s s.heap) (hbl : b < s.heap.size) (hbA : ¬ A b) (hdg : decode cc pc = .ok (.arraylength, 1)) (kk : W p l e R s m args below meth c H locs cells slots Q (F0 m (pc + 1) ls (.int (iI (L : Int)) :: rest))) : W p l e R s m args below meth c H locs cells slots Q (F0 m pc ls (.ref b :: rest)) := by
  refine va_slen B.1 B.2.1 hX hbl hbA hI.sub hdg ?_
  rw [← nI_iI] at kk
  exact kk
theorem mv_mask31 {x : Int} (B : mw_C p s m args meth c cc nL own Ts D cl tys) (hdg : decode cc pc = .ok (.iand, 1)) (k : W p l e R s m args below meth c H locs cells slots Q (F0 m (pc + 1) ls (.int (iI (x % 32)) :: rest))) : W p l e R s m args below meth c H locs cells slots Q (F0 m pc ls (.int (iI 31) :: .int (iI x) :: rest)) := lv_iand B.1 B.2.1 hdg (by rw [iI_mask31]; exact k)
theorem mv_lshl32 {x : Int} (B : mw_C p s m args meth c cc nL own Ts D cl tys) (hdg : decode cc pc = .ok (.lshl, 1)) (k : W p l e R s m args below meth c H locs cells slots Q (F0 m (pc + 1) ls (.long (lI (x * 4294967296)) :: rest))) : W p l e R s m args below meth c H locs cells slots Q (F0 m pc ls (.int (iI 32) :: .long (lI x) :: rest)) := lv_lshl B.1 B.2.1 hdg lI_shl32 k
theorem mv_lmask32 {x : Int} (B : mw_C p s m args meth c cc nL own Ts D cl tys) (hdg : decode cc pc = .ok (.land, 1)) (k : W p l e R s m args below meth c H locs cells slots Q (F0 m (pc + 1) ls (.long (lI (x % 4294967296)) :: rest))) : W p l e R s m args below meth c H locs cells slots Q (F0 m pc ls (.long (lI 4294967295) :: .long (lI x) :: rest)) := lv_land B.1 B.2.1 hdg (by rw [lI_mask32]; exact k)
theorem mv_lor32 {x r : Int} (B : mw_C p s m args meth c cc nL own Ts D cl tys) (hdg : decode cc pc = .ok (.lor, 1)) (h : 0 ≤ r ∧ r < 4294967296) (k : W p l e R s m args below meth c H locs cells slots Q (F0 m (pc + 1) ls (.long (lI (x * 4294967296 + r)) :: rest))) : W p l e R s m args below meth c H locs cells slots Q (F0 m pc ls (.long (lI r) :: .long (lI (x * 4294967296)) :: rest)) := lv_lor B.1 B.2.1 hdg (by rw [lI_or32 h]; exact k)
theorem mv_eqT {v : Int32} {off : Int} {tgt : Nat} (B : mw_C p s m args meth c cc nL own Ts D cl tys) (hdg : decode cc pc = .ok (.if_icmp .eq off, 3)) (ht : (pc : Int) + off = (tgt : Int)) (k : W p l e R s m args below meth c H locs cells slots Q (F0 m tgt ls rest)) : W p l e R s m args below meth c H locs cells slots Q (F0 m pc ls (.int v :: .int v :: rest)) := lv_icmp_eq B.1 B.2.1 hdg ht (fun _ => k) (fun q => absurd rfl q)
theorem mv_leqT {v : Int64} {off : Int} {tgt : Nat} (B : mw_C p s m args meth c cc nL own Ts D cl tys) (hdg1 : decode cc pc = .ok (.lcmp, 1)) (hdg : decode cc (pc + 1) = .ok (.ifCond .eq off, 3)) (ht : ((pc + 1 : Nat) : Int) + off = (tgt : Int)) (k : W p l e R s m args below meth c H locs cells slots Q (F0 m tgt ls rest)) : W p l e R s m args below meth c H locs cells slots Q (F0 m pc ls (.long v :: .long v :: rest)) := W.lcmp B.1 B.2.1 hdg1 (lv_if_eq B.1 B.2.1 hdg ht (fun _ => k) (fun q => absurd (lcm_eq.mpr rfl) q))
end LROWS
