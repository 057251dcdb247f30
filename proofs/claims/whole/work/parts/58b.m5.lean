abbrev rm_X3_set : Room := { frames := 3, cells := 0, slots := 0, locals := 72 }
set_option maxHeartbeats 4000000 in
set_option maxRecDepth 100000 in
/-- set -/
theorem t_X3_set (l : Launch) (D : va_G) (kA : Nat → ClassId) (sz : Nat) (f0 : mw_M) {o li si su di : Nat} {Z : Nat → Int}{x v_ : Int} (hm : MM kA f0 f0 o li si su di Z) (h24 : Z 24 = 1000000 ^ 50) (hB : ∀ i, i < 16 → ((Z i).natAbs : Int) < 1000000 ^ 50) (hx : -2147483648 ≤ x ∧ x ≤ 2147483647) (hv : -9223372036854775808 ≤ v_ ∧ v_ ≤ 9223372036854775807) : mw_Mi l yX3_set (Cond.code yX3_set cX3_set 4 ((some .int)) :: gw) rm_X3_set D vwCl (tyL kA) st_S [.ref o, .int (iI (x)), .long (lI (v_))] f0 sz (fun v f => v = iI (sp_set Z x v_).1 ∧ ∃ Z', MM kA f0 f o li si su di Z' ∧ Z' 24 = 1000000 ^ 50 ∧ ∀ i, i < 16 → Z' i = (sp_set Z x v_).2 i) 0 0 := by
  refine mw_ofi (cc := cX3_set) (maxL := 4) (ret := (some .int)) (by decide) rfl (Nat.le_of_ble_eq_true rfl) ?_
  intro p e s m below meth c A ls Q hQ B hrt hnm hA hI hSt hl
  have hl : lv_has ls 4 [(0, .ref o), (1, .int (iI (x))), (2, .long (lI (v_)))] := hl
  obtain ⟨f, hI, hm, hf⟩ : ∃ f, mw_I D vwCl A s s.heap [] f ∧ MM kA f0 f o li si su di Z ∧ f = f0 := ⟨f0, hI, hm, rfl⟩
  have hsl : ∀ i, i < 16 → Z i = Z i := fun _ _ => rfl
  have h240 := h24
  refine mv_iload_n B dX3_set_0 rfl (lv_at hl 1 rfl) ?_
  refine mw_calli hI hA (va_runS (As := [.int (iI (x))]) (rest := []) B.fix (t_X3_isSlot l D kA s.heap.size f hx) (cwS 1 B.2.2.2.2.1 (gS kw_399 kw_400 kw_4 kw_401) rfl rfl rfl (by decide +kernel) ⟨Nat.le_of_ble_eq_true rfl, Nat.le_of_ble_eq_true rfl⟩) ⟨mw_blind st_S.blind, mw_pre B hI (hSt.call hI hA)⟩ rfl rfl hl.1 rfl (lv_room (Nat.le_of_ble_eq_true rfl)) dX3_set_1 ⟨Nat.le_of_ble_eq_true rfl, Nat.le_of_ble_eq_true rfl⟩) (fun r f H locs hp hI2 => ?_)
  clear hI
  have hI := hI2
  clear hI2
  obtain ⟨rfl, rfl⟩ := hp
  refine mv_if_ne (tgt := 9) B dX3_set_4 (by decide) (by split <;> omega) (fun hc => ?_) (fun hc => ?_)
  · have h1 : sOk x := by
      by_cases q : sOk x
      · exact q
      · rw [if_neg q] at hc; exact absurd rfl hc
    refine mv_aload_n B dX3_set_9 rfl (lv_at hl 0 rfl) ?_
    refine mv_iload_n B dX3_set_10 rfl (lv_at hl 1 rfl) ?_
    refine mv_lload_n B dX3_set_11 rfl (lv_at hl 2 rfl) ?_
    obtain ⟨L, S, G, U, hM, hL, hZ⟩ := id hm
    refine mw_callv hI hA (va_runV (As := [.int (iI (x)), .long (lI (v_))]) (rest := []) B.fix (t_X3_put l D kA H.size f (t := x.toNat) hM.self hL (by omega) (by omega) hv) (cwV 2 B.2.2.2.2.1 (gV kw_362 kw_364 ks_16 kw_4 kw_365) rfl rfl rfl (by decide +kernel) ⟨Nat.le_of_ble_eq_true rfl, Nat.le_of_ble_eq_true rfl⟩) ⟨mw_blind st_S.blind, mw_recv B hI hM.1 rfl, mw_pre B hI (hSt.call hI hA)⟩ rfl rfl hl.1 rfl (lv_room (Nat.le_of_ble_eq_true rfl)) dX3_set_12 ⟨Nat.le_of_ble_eq_true rfl, Nat.le_of_ble_eq_true rfl⟩) (fun f H locs hp hI2 => ?_)
    clear hI
    have hI := hI2
    clear hI2
    obtain ⟨L1, hM1, hL1, ro1, hv1⟩ := hp
    obtain ⟨Z1, hZ1, hm⟩ : ∃ Z', Z' = upI Z (x.toNat) (v_) ∧ MM kA f0 f o li si su di Z' := ⟨_, rfl, MM.u hZ (hM.tr hM1) hL1 ro1 hv1 rfl⟩
    have v1 : Z1 (x.toNat) = v_ := by rw [hZ1, upI_self]
    have r1 : ∀ i, i ≠ x.toNat → Z1 i = Z i := fun i hi => by rw [hZ1, upI_ne _ _ hi]
    refine mv_iconst B dX3_set_15 ?_
    have e9 : sp_set Z x v_ = (1, upI Z x.toNat v_) := by unfold sp_set; rw [if_pos h1]
    exact mw_iret B hQ hrt hI ⟨by rw [e9], Z1, hm, (r1 24 (by omega)).trans h24, fun i hi => by rw [e9, hZ1]⟩ dX3_set_16
  · have h1 : ¬ (sOk x) := fun q => by rw [if_pos q] at hc; exact absurd hc (by decide)
    have e9 : sp_set Z x v_ = (-1, Z) := by unfold sp_set; rw [if_neg h1]
    refine mv_iconst B dX3_set_7 ?_
    exact mw_iret B hQ hrt hI ⟨by rw [e9], _, hm, h24, fun i hi => (hsl i hi).trans (congrFun (congrArg Prod.snd e9) i).symm⟩ dX3_set_8
abbrev rm_X3_digit : Room := { frames := 4, cells := 0, slots := 0, locals := 88 }
set_option maxHeartbeats 4000000 in
set_option maxRecDepth 100000 in
/-- digit -/
theorem t_X3_digit (l : Launch) (D : va_G) (kA : Nat → ClassId) (sz : Nat) (f0 : mw_M) {o li si su di : Nat} {Z : Nat → Int}{a d_ : Int} (hm : MM kA f0 f0 o li si su di Z) (h24 : Z 24 = 1000000 ^ 50) (hB : ∀ i, i < 16 → ((Z i).natAbs : Int) < 1000000 ^ 50) (ha : -2147483648 ≤ a ∧ a ≤ 2147483647) (hd_ : -2147483648 ≤ d_ ∧ d_ ≤ 2147483647) : mw_Mi l yX3_digit (Cond.code yX3_digit cX3_digit 3 ((some .int)) :: gw) rm_X3_digit D vwCl (tyL kA) st_S [.ref o, .int (iI (a)), .int (iI (d_))] f0 sz (fun v f => v = iI (sp_digit Z a d_).1 ∧ ∃ Z', MM kA f0 f o li si su di Z' ∧ Z' 24 = 1000000 ^ 50 ∧ ∀ i, i < 16 → Z' i = (sp_digit Z a d_).2 i) 0 0 := by
  refine mw_ofi (cc := cX3_digit) (maxL := 3) (ret := (some .int)) (by decide) rfl (Nat.le_of_ble_eq_true rfl) ?_
  intro p e s m below meth c A ls Q hQ B hrt hnm hA hI hSt hl
  have hl : lv_has ls 3 [(0, .ref o), (1, .int (iI (a))), (2, .int (iI (d_)))] := hl
  obtain ⟨f, hI, hm, hf⟩ : ∃ f, mw_I D vwCl A s s.heap [] f ∧ MM kA f0 f o li si su di Z ∧ f = f0 := ⟨f0, hI, hm, rfl⟩
  have hsl : ∀ i, i < 16 → Z i = Z i := fun _ _ => rfl
  have h240 := h24
  refine mv_iload_n B dX3_digit_0 rfl (lv_at hl 1 rfl) ?_
  refine mw_calli hI hA (va_runS (As := [.int (iI (a))]) (rest := []) B.fix (t_X3_isSlot l D kA s.heap.size f ha) (cwS 1 B.2.2.2.2.1 (gS kw_399 kw_400 kw_4 kw_401) rfl rfl rfl (by decide +kernel) ⟨Nat.le_of_ble_eq_true rfl, Nat.le_of_ble_eq_true rfl⟩) ⟨mw_blind st_S.blind, mw_pre B hI (hSt.call hI hA)⟩ rfl rfl hl.1 rfl (lv_room (Nat.le_of_ble_eq_true rfl)) dX3_digit_1 ⟨Nat.le_of_ble_eq_true rfl, Nat.le_of_ble_eq_true rfl⟩) (fun r f H locs hp hI2 => ?_)
  clear hI
  have hI := hI2
  clear hI2
  obtain ⟨rfl, rfl⟩ := hp
  refine mv_if_eq (tgt := 17) B dX3_digit_4 (by decide) (by split <;> omega) (fun hc => ?_) (fun hc => ?_)
  · have h1 : ¬ (sOk a) := fun q => by rw [if_pos q] at hc; exact absurd hc (by decide)
    have e9 : sp_digit Z a d_ = (-1, Z) := by unfold sp_digit; rw [if_neg (fun q => h1 q.1)]
    refine mv_iconst B dX3_digit_17 ?_
    exact mw_iret B hQ hrt hI ⟨by rw [e9], _, hm, h24, fun i hi => (hsl i hi).trans (congrFun (congrArg Prod.snd e9) i).symm⟩ dX3_digit_18
  · have h1 : sOk a := by
      by_cases q : sOk a
      · exact q
      · rw [if_neg q] at hc; exact absurd rfl hc
    refine mv_iload_n B dX3_digit_7 rfl (lv_at hl 2 rfl) ?_
    refine mv_if_lt (tgt := 17) B dX3_digit_8 (by decide) (by omega) (fun hd1 => ?_) (fun hd1 => ?_)
    · have e9 : sp_digit Z a d_ = (-1, Z) := by unfold sp_digit; rw [if_neg (fun q => by omega)]
      refine mv_iconst B dX3_digit_17 ?_
      exact mw_iret B hQ hrt hI ⟨by rw [e9], _, hm, h24, fun i hi => (hsl i hi).trans (congrFun (congrArg Prod.snd e9) i).symm⟩ dX3_digit_18
    · refine mv_iload_n B dX3_digit_11 rfl (lv_at hl 2 rfl) ?_
      refine mv_bipush B dX3_digit_12 (by decide) ?_
      refine mv_icmp_le (tgt := 19) B dX3_digit_14 (by decide) (by omega) (fun hd2 => ?_) (fun hd2 => ?_)
      · refine mv_aload_n B dX3_digit_19 rfl (lv_at hl 0 rfl) ?_
        refine mv_bipush B dX3_digit_20 (by decide) ?_
        refine mv_ldc2 (z := 10) B dX3_digit_22 kw_375 (by decide) ?_
        obtain ⟨L, S, G, U, hM, hL, hZ⟩ := id hm
        refine mw_callv hI hA (va_runV (As := [.int (iI (17)), .long (lI (10))]) (rest := []) B.fix (t_X3_put l D kA H.size f (t := 17) hM.self hL (by omega) (by omega) (by omega)) (cwV 2 B.2.2.2.2.1 (gV kw_362 kw_364 ks_16 kw_4 kw_365) rfl rfl rfl (by decide +kernel) ⟨Nat.le_of_ble_eq_true rfl, Nat.le_of_ble_eq_true rfl⟩) ⟨mw_blind st_S.blind, mw_recv B hI hM.1 rfl, mw_pre B hI (hSt.call hI hA)⟩ rfl rfl hl.1 rfl (lv_room (Nat.le_of_ble_eq_true rfl)) dX3_digit_25 ⟨Nat.le_of_ble_eq_true rfl, Nat.le_of_ble_eq_true rfl⟩) (fun f H locs hp hI2 => ?_)
        clear hI
        have hI := hI2
        clear hI2
        obtain ⟨L1, hM1, hL1, ro1, hv1⟩ := hp
        obtain ⟨Z1, hZ1, hm⟩ : ∃ Z', Z' = upI Z (17) (10) ∧ MM kA f0 f o li si su di Z' := ⟨_, rfl, MM.u hZ (hM.tr hM1) hL1 ro1 hv1 rfl⟩
        have v1 : Z1 (17) = 10 := by rw [hZ1, upI_self]
        have r1 : ∀ i, i ≠ 17 → Z1 i = Z i := fun i hi => by rw [hZ1, upI_ne _ _ hi]
        have hsl : ∀ i, i < 16 → Z1 i = Z i := fun i hi => (r1 i (by omega)).trans (hsl i hi)
        have h24 : Z1 24 = 1000000 ^ 50 := (r1 24 (by omega)).trans h24
        refine mv_aload_n B dX3_digit_28 rfl (lv_at hl 0 rfl) ?_
        refine mv_bipush B dX3_digit_29 (by decide) ?_
        refine mv_iload_n B dX3_digit_31 rfl (lv_at hl 1 rfl) ?_
        refine mv_bipush B dX3_digit_32 (by decide) ?_
        obtain ⟨L, S, G, U, hM, hL, hZ⟩ := id hm
        have em : mg L (a.toNat) * mg L (17) = ((Z1 (a.toNat) * Z1 (17)).natAbs : Int) := by rw [(hZ (a.toNat) (by omega)).1, (hZ (17) (by omega)).1, abs_mul2]
        have hbd : mg L (a.toNat) * mg L (17) < 65536 ^ 140 := by rw [em]; exact (mul140 (by rw [hsl _ (by omega)]; exact hB _ (by omega)) (by rw [v1]; decide))
        refine mw_callv hI hA (va_runV (As := [.int (iI (16)), .int (iI (a)), .int (iI (17))]) (rest := []) B.fix (t_X3_multiply l D kA H.size f (t := 16) (a := a.toNat) (b := 17) hM.self hL (by omega) (by omega) (by omega) (by omega) (by omega) (by omega) hbd) (cwV 3 B.2.2.2.2.1 (gV kw_376 kw_378 ks_19 kw_4 kw_379) rfl rfl rfl (by decide +kernel) ⟨Nat.le_of_ble_eq_true rfl, Nat.le_of_ble_eq_true rfl⟩) ⟨mw_blind st_S.blind, mw_recv B hI hM.1 rfl, mw_pre B hI (hSt.call hI hA)⟩ rfl rfl hl.1 rfl (lv_room (Nat.le_of_ble_eq_true rfl)) dX3_digit_34 ⟨Nat.le_of_ble_eq_true rfl, Nat.le_of_ble_eq_true rfl⟩) (fun f H locs hp hI2 => ?_)
        clear hI
        have hI := hI2
        clear hI2
        obtain ⟨L1, U1, hM1, hL1, ro1, hv1⟩ := hp
        obtain ⟨Z2, hZ2, hm⟩ : ∃ Z', Z' = upI Z1 (16) (Z1 (a.toNat) * Z1 (17)) ∧ MM kA f0 f o li si su di Z' := ⟨_, rfl, MM.u hZ (hM.tr hM1) hL1 ro1 (hv1.trans em) (by rw [(hZ (a.toNat) (by omega)).1, (hZ (17) (by omega)).1, (hZ (a.toNat) (by omega)).2, (hZ (17) (by omega)).2]; exact c3_mul _ _)⟩
        have v2 : Z2 (16) = Z1 (a.toNat) * Z1 (17) := by rw [hZ2, upI_self]
        have r2 : ∀ i, i ≠ 16 → Z2 i = Z1 i := fun i hi => by rw [hZ2, upI_ne _ _ hi]
        have hsl : ∀ i, i < 16 → Z2 i = Z i := fun i hi => (r2 i (by omega)).trans (hsl i hi)
        have h24 : Z2 24 = 1000000 ^ 50 := (r2 24 (by omega)).trans h24
        refine mv_aload_n B dX3_digit_37 rfl (lv_at hl 0 rfl) ?_
        refine mv_bipush B dX3_digit_38 (by decide) ?_
        refine mv_iload_n B dX3_digit_40 rfl (lv_at hl 2 rfl) ?_
        refine mv_i2l B dX3_digit_41 (by omega) ?_
        obtain ⟨L, S, G, U, hM, hL, hZ⟩ := id hm
        refine mw_callv hI hA (va_runV (As := [.int (iI (17)), .long (lI (d_))]) (rest := []) B.fix (t_X3_put l D kA H.size f (t := 17) hM.self hL (by omega) (by omega) (by omega)) (cwV 2 B.2.2.2.2.1 (gV kw_362 kw_364 ks_16 kw_4 kw_365) rfl rfl rfl (by decide +kernel) ⟨Nat.le_of_ble_eq_true rfl, Nat.le_of_ble_eq_true rfl⟩) ⟨mw_blind st_S.blind, mw_recv B hI hM.1 rfl, mw_pre B hI (hSt.call hI hA)⟩ rfl rfl hl.1 rfl (lv_room (Nat.le_of_ble_eq_true rfl)) dX3_digit_42 ⟨Nat.le_of_ble_eq_true rfl, Nat.le_of_ble_eq_true rfl⟩) (fun f H locs hp hI2 => ?_)
        clear hI
        have hI := hI2
        clear hI2
        obtain ⟨L1, hM1, hL1, ro1, hv1⟩ := hp
        obtain ⟨Z3, hZ3, hm⟩ : ∃ Z', Z' = upI Z2 (17) (d_) ∧ MM kA f0 f o li si su di Z' := ⟨_, rfl, MM.u hZ (hM.tr hM1) hL1 ro1 hv1 rfl⟩
        have v3 : Z3 (17) = d_ := by rw [hZ3, upI_self]
        have r3 : ∀ i, i ≠ 17 → Z3 i = Z2 i := fun i hi => by rw [hZ3, upI_ne _ _ hi]
        have hsl : ∀ i, i < 16 → Z3 i = Z i := fun i hi => (r3 i (by omega)).trans (hsl i hi)
        have h24 : Z3 24 = 1000000 ^ 50 := (r3 24 (by omega)).trans h24
        refine mv_aload_n B dX3_digit_45 rfl (lv_at hl 0 rfl) ?_
        refine mv_bipush B dX3_digit_46 (by decide) ?_
        refine mv_bipush B dX3_digit_48 (by decide) ?_
        refine mv_bipush B dX3_digit_50 (by decide) ?_
        refine mv_iconst B dX3_digit_52 ?_
        have w1 : Z3 16 = Z a.toNat * 10 := by rw [r3 16 (by decide), v2, v1, r1 _ (by omega)]
        have w2 : ((Z3 16).natAbs : Int) < 1000000 ^ 100 := by rw [w1]; exact mulbd (hB _ (by omega)) (by decide)
        have w3 : ((Z3 17).natAbs : Int) < 1000000 ^ 100 := by
          rw [v3]
          exact Int.lt_of_le_of_lt (show (d_.natAbs : Int) ≤ 9 by omega) (by decide)
        refine mw_callv hI hA (va_runV (As := [.int (iI (16)), .int (iI (16)), .int (iI (17)), .int (iI (1))]) (rest := []) B.fix (t_X3_combine l D kA H.size f (t := 16) (a := 16) (b := 17) hm.self (by omega) (by omega) (by omega) (by omega) (by omega) (by omega) (by decide) (add140 w2 w3)) (cwV 4 B.2.2.2.2.1 (gV kw_406 kw_408 ks_20 kw_4 kw_409) rfl rfl rfl (by decide +kernel) ⟨Nat.le_of_ble_eq_true rfl, Nat.le_of_ble_eq_true rfl⟩) ⟨mw_blind st_S.blind, mw_recv B hI (by obtain ⟨_, _, _, _, q, _⟩ := hm; exact q.1) rfl, mw_pre B hI (hSt.call hI hA)⟩ rfl rfl hl.1 rfl (lv_room (Nat.le_of_ble_eq_true rfl)) dX3_digit_53 ⟨Nat.le_of_ble_eq_true rfl, Nat.le_of_ble_eq_true rfl⟩) (fun f H locs hp hI2 => ?_)
        clear hI
        have hI := hI2
        clear hI2
        obtain ⟨Z4, hZ4, hm⟩ : ∃ Z', Z' = upI Z3 (16) (Z3 (16) + 1 * Z3 (17)) ∧ MM kA f0 f o li si su di Z' := ⟨_, rfl, hm.tr hp⟩
        have v4 : Z4 (16) = Z3 (16) + 1 * Z3 (17) := by rw [hZ4, upI_self]
        have r4 : ∀ i, i ≠ 16 → Z4 i = Z3 i := fun i hi => by rw [hZ4, upI_ne _ _ hi]
        have hsl : ∀ i, i < 16 → Z4 i = Z i := fun i hi => (r4 i (by omega)).trans (hsl i hi)
        have h24 : Z4 24 = 1000000 ^ 50 := (r4 24 (by omega)).trans h24
        refine mv_aload_n B dX3_digit_56 rfl (lv_at hl 0 rfl) ?_
        refine mv_iload_n B dX3_digit_57 rfl (lv_at hl 1 rfl) ?_
        refine mv_bipush B dX3_digit_58 (by decide) ?_
        refine mw_calli hI hA (va_runV (As := [.int (iI (a)), .int (iI (16))]) (rest := []) B.fix (t_X3_keep l D kA H.size f (x := a) (r := 16) hm.self (by omega) h24 h1 (by omega)) (cwV 2 B.2.2.2.2.1 (gV kw_422 kw_424 ks_24 kw_4 kw_425) rfl rfl rfl (by decide +kernel) ⟨Nat.le_of_ble_eq_true rfl, Nat.le_of_ble_eq_true rfl⟩) ⟨mw_blind st_S.blind, mw_recv B hI (by obtain ⟨_, _, _, _, q, _⟩ := hm; exact q.1) rfl, mw_pre B hI (hSt.call hI hA)⟩ rfl rfl hl.1 rfl (lv_room (Nat.le_of_ble_eq_true rfl)) dX3_digit_60 ⟨Nat.le_of_ble_eq_true rfl, Nat.le_of_ble_eq_true rfl⟩) (fun r f H locs hp hI2 => ?_)
        clear hI
        have hI := hI2
        clear hI2
        obtain ⟨rfl, hp⟩ := hp
        have hm := hm.tr hp
        clear hp
        have e9 : sp_digit Z a d_ = kp Z a (10 * Z a.toNat + d_) := by unfold sp_digit; rw [if_pos ⟨h1, by omega, by omega⟩]
        have e7 : Z4 (16) = 10 * Z a.toNat + d_ := by rw [v4, w1, v3]; omega
        have e8 := kp_same (Y := Z) (Y1 := Z4) (x := a) e7 hsl
        rw [← e9] at e8
        exact mw_iret B hQ hrt hI ⟨by rw [e8.1], _, hm, kp_24 h1 h24, e8.2⟩ dX3_digit_63
      · have e9 : sp_digit Z a d_ = (-1, Z) := by unfold sp_digit; rw [if_neg (fun q => by omega)]
        refine mv_iconst B dX3_digit_17 ?_
        exact mw_iret B hQ hrt hI ⟨by rw [e9], _, hm, h24, fun i hi => (hsl i hi).trans (congrFun (congrArg Prod.snd e9) i).symm⟩ dX3_digit_18
abbrev rm_X3_copy : Room := { frames := 4, cells := 0, slots := 0, locals := 88 }
set_option maxHeartbeats 4000000 in
set_option maxRecDepth 100000 in
/-- copy -/
theorem t_X3_copy (l : Launch) (D : va_G) (kA : Nat → ClassId) (sz : Nat) (f0 : mw_M) {o li si su di : Nat} {Z : Nat → Int}{a t : Int} (hm : MM kA f0 f0 o li si su di Z) (h24 : Z 24 = 1000000 ^ 50) (hB : ∀ i, i < 16 → ((Z i).natAbs : Int) < 1000000 ^ 50) (ha : -2147483648 ≤ a ∧ a ≤ 2147483647) (ht : -2147483648 ≤ t ∧ t ≤ 2147483647) : mw_Mi l yX3_copy (Cond.code yX3_copy cX3_copy 3 ((some .int)) :: gw) rm_X3_copy D vwCl (tyL kA) st_S [.ref o, .int (iI (a)), .int (iI (t))] f0 sz (fun v f => v = iI (sp_copy Z a t).1 ∧ ∃ Z', MM kA f0 f o li si su di Z' ∧ Z' 24 = 1000000 ^ 50 ∧ ∀ i, i < 16 → Z' i = (sp_copy Z a t).2 i) 0 0 := by
  refine mw_ofi (cc := cX3_copy) (maxL := 3) (ret := (some .int)) (by decide) rfl (Nat.le_of_ble_eq_true rfl) ?_
  intro p e s m below meth c A ls Q hQ B hrt hnm hA hI hSt hl
  have hl : lv_has ls 3 [(0, .ref o), (1, .int (iI (a))), (2, .int (iI (t)))] := hl
  obtain ⟨f, hI, hm, hf⟩ : ∃ f, mw_I D vwCl A s s.heap [] f ∧ MM kA f0 f o li si su di Z ∧ f = f0 := ⟨f0, hI, hm, rfl⟩
  have hsl : ∀ i, i < 16 → Z i = Z i := fun _ _ => rfl
  have h240 := h24
  refine mv_iload_n B dX3_copy_0 rfl (lv_at hl 1 rfl) ?_
  refine mw_calli hI hA (va_runS (As := [.int (iI (a))]) (rest := []) B.fix (t_X3_isSlot l D kA s.heap.size f ha) (cwS 1 B.2.2.2.2.1 (gS kw_399 kw_400 kw_4 kw_401) rfl rfl rfl (by decide +kernel) ⟨Nat.le_of_ble_eq_true rfl, Nat.le_of_ble_eq_true rfl⟩) ⟨mw_blind st_S.blind, mw_pre B hI (hSt.call hI hA)⟩ rfl rfl hl.1 rfl (lv_room (Nat.le_of_ble_eq_true rfl)) dX3_copy_1 ⟨Nat.le_of_ble_eq_true rfl, Nat.le_of_ble_eq_true rfl⟩) (fun r f H locs hp hI2 => ?_)
  clear hI
  have hI := hI2
  clear hI2
  obtain ⟨rfl, rfl⟩ := hp
  refine mv_if_eq (tgt := 23) B dX3_copy_4 (by decide) (by split <;> omega) (fun hc => ?_) (fun hc => ?_)
  · have h1 : ¬ (sOk a) := fun q => by rw [if_pos q] at hc; exact absurd hc (by decide)
    have e9 : sp_copy Z a t = (-1, Z) := by unfold sp_copy; rw [if_neg (fun q => h1 q.1)]
    refine mv_iconst B dX3_copy_23 ?_
    exact mw_iret B hQ hrt hI ⟨by rw [e9], _, hm, h24, fun i hi => (hsl i hi).trans (congrFun (congrArg Prod.snd e9) i).symm⟩ dX3_copy_24
  · have h1 : sOk a := by
      by_cases q : sOk a
      · exact q
      · rw [if_neg q] at hc; exact absurd rfl hc
    refine mv_iload_n B dX3_copy_7 rfl (lv_at hl 2 rfl) ?_
    refine mw_calli hI hA (va_runS (As := [.int (iI (t))]) (rest := []) B.fix (t_X3_isSlot l D kA H.size f ht) (cwS 1 B.2.2.2.2.1 (gS kw_399 kw_400 kw_4 kw_401) rfl rfl rfl (by decide +kernel) ⟨Nat.le_of_ble_eq_true rfl, Nat.le_of_ble_eq_true rfl⟩) ⟨mw_blind st_S.blind, mw_pre B hI (hSt.call hI hA)⟩ rfl rfl hl.1 rfl (lv_room (Nat.le_of_ble_eq_true rfl)) dX3_copy_8 ⟨Nat.le_of_ble_eq_true rfl, Nat.le_of_ble_eq_true rfl⟩) (fun r f H locs hp hI2 => ?_)
    clear hI
    have hI := hI2
    clear hI2
    obtain ⟨rfl, rfl⟩ := hp
    refine mv_if_eq (tgt := 23) B dX3_copy_11 (by decide) (by split <;> omega) (fun hc2 => ?_) (fun hc2 => ?_)
    · have h2 : ¬ (sOk t) := fun q => by rw [if_pos q] at hc2; exact absurd hc2 (by decide)
      have e9 : sp_copy Z a t = (-1, Z) := by unfold sp_copy; rw [if_neg (fun q => h2 q.2)]
      refine mv_iconst B dX3_copy_23 ?_
      exact mw_iret B hQ hrt hI ⟨by rw [e9], _, hm, h24, fun i hi => (hsl i hi).trans (congrFun (congrArg Prod.snd e9) i).symm⟩ dX3_copy_24
    · have h2 : sOk t := by
        by_cases q : sOk t
        · exact q
        · rw [if_neg q] at hc2; exact absurd rfl hc2
      refine mv_aload_n B dX3_copy_14 rfl (lv_at hl 0 rfl) ?_
      refine mv_iload_n B dX3_copy_15 rfl (lv_at hl 2 rfl) ?_
      refine mv_iload_n B dX3_copy_16 rfl (lv_at hl 1 rfl) ?_
      refine mw_calli hI hA (va_runV (As := [.int (iI (t)), .int (iI (a))]) (rest := []) B.fix (t_X3_keep l D kA H.size f (x := t) (r := a.toNat) hm.self (by omega) h24 h2 (by omega)) (cwV 2 B.2.2.2.2.1 (gV kw_422 kw_424 ks_24 kw_4 kw_425) rfl rfl rfl (by decide +kernel) ⟨Nat.le_of_ble_eq_true rfl, Nat.le_of_ble_eq_true rfl⟩) ⟨mw_blind st_S.blind, mw_recv B hI (by obtain ⟨_, _, _, _, q, _⟩ := hm; exact q.1) rfl, mw_pre B hI (hSt.call hI hA)⟩ rfl rfl hl.1 rfl (lv_room (Nat.le_of_ble_eq_true rfl)) dX3_copy_17 ⟨Nat.le_of_ble_eq_true rfl, Nat.le_of_ble_eq_true rfl⟩) (fun r f H locs hp hI2 => ?_)
      clear hI
      have hI := hI2
      clear hI2
      obtain ⟨rfl, hp⟩ := hp
      have hm := hm.tr hp
      clear hp
      refine mv_goto (tgt := 24) B dX3_copy_20 (by decide) ?_
      have e9 : sp_copy Z a t = kp Z t (Z a.toNat) := by unfold sp_copy; rw [if_pos ⟨h1, h2⟩]
      exact mw_iret B hQ hrt hI ⟨by rw [e9], _, hm, kp_24 h2 h24, fun i hi => by rw [e9]⟩ dX3_copy_24
abbrev rm_X3_sum : Room := { frames := 4, cells := 0, slots := 0, locals := 88 }
set_option maxHeartbeats 4000000 in
set_option maxRecDepth 100000 in
/-- sum -/
theorem t_X3_sum (l : Launch) (D : va_G) (kA : Nat → ClassId) (sz : Nat) (f0 : mw_M) {o li si su di : Nat} {Z : Nat → Int}{a b t : Int} (hm : MM kA f0 f0 o li si su di Z) (h24 : Z 24 = 1000000 ^ 50) (hB : ∀ i, i < 16 → ((Z i).natAbs : Int) < 1000000 ^ 50) (ha : -2147483648 ≤ a ∧ a ≤ 2147483647) (hb : -2147483648 ≤ b ∧ b ≤ 2147483647) (ht : -2147483648 ≤ t ∧ t ≤ 2147483647) : mw_Mi l yX3_sum (Cond.code yX3_sum cX3_sum 4 ((some .int)) :: gw) rm_X3_sum D vwCl (tyL kA) st_S [.ref o, .int (iI (a)), .int (iI (b)), .int (iI (t))] f0 sz (fun v f => v = iI (sp_sum Z a b t).1 ∧ ∃ Z', MM kA f0 f o li si su di Z' ∧ Z' 24 = 1000000 ^ 50 ∧ ∀ i, i < 16 → Z' i = (sp_sum Z a b t).2 i) 0 0 := by
  refine mw_ofi (cc := cX3_sum) (maxL := 4) (ret := (some .int)) (by decide) rfl (Nat.le_of_ble_eq_true rfl) ?_
  intro p e s m below meth c A ls Q hQ B hrt hnm hA hI hSt hl
  have hl : lv_has ls 4 [(0, .ref o), (1, .int (iI (a))), (2, .int (iI (b))), (3, .int (iI (t)))] := hl
  obtain ⟨f, hI, hm, hf⟩ : ∃ f, mw_I D vwCl A s s.heap [] f ∧ MM kA f0 f o li si su di Z ∧ f = f0 := ⟨f0, hI, hm, rfl⟩
  have hsl : ∀ i, i < 16 → Z i = Z i := fun _ _ => rfl
  have h240 := h24
  refine mv_iload_n B dX3_sum_0 rfl (lv_at hl 1 rfl) ?_
  refine mv_iload_n B dX3_sum_1 rfl (lv_at hl 2 rfl) ?_
  refine mv_iload_n B dX3_sum_2 rfl (lv_at hl 3 rfl) ?_
  refine mw_calli hI hA (va_runS (As := [.int (iI (a)), .int (iI (b)), .int (iI (t))]) (rest := []) B.fix (t_X3_are l D kA s.heap.size f ha hb ht) (cwS 3 B.2.2.2.2.1 (gS kw_442 kw_443 kw_4 kw_444) rfl rfl rfl (by decide +kernel) ⟨Nat.le_of_ble_eq_true rfl, Nat.le_of_ble_eq_true rfl⟩) ⟨mw_blind st_S.blind, mw_pre B hI (hSt.call hI hA)⟩ rfl rfl hl.1 rfl (lv_room (Nat.le_of_ble_eq_true rfl)) dX3_sum_3 ⟨Nat.le_of_ble_eq_true rfl, Nat.le_of_ble_eq_true rfl⟩) (fun r f H locs hp hI2 => ?_)
  clear hI
  have hI := hI2
  clear hI2
  obtain ⟨rfl, rfl⟩ := hp
  refine mv_if_ne (tgt := 11) B dX3_sum_6 (by decide) (by split <;> omega) (fun hc => ?_) (fun hc => ?_)
  · have h1 : sOk a ∧ sOk b ∧ sOk t := by
      by_cases q : sOk a ∧ sOk b ∧ sOk t
      · exact q
      · rw [if_neg q] at hc; exact absurd rfl hc
    refine mv_aload_n B dX3_sum_11 rfl (lv_at hl 0 rfl) ?_
    refine mv_bipush B dX3_sum_12 (by decide) ?_
    refine mv_iload_n B dX3_sum_14 rfl (lv_at hl 1 rfl) ?_
    refine mv_iload_n B dX3_sum_15 rfl (lv_at hl 2 rfl) ?_
    refine mv_iconst B dX3_sum_16 ?_
    refine mw_callv hI hA (va_runV (As := [.int (iI (16)), .int (iI (a)), .int (iI (b)), .int (iI (1))]) (rest := []) B.fix (t_X3_combine l D kA H.size f (t := 16) (a := a.toNat) (b := b.toNat) hm.self (by omega) (by omega) (by omega) (by omega) (by omega) (by omega) (by decide) (add140 (t50_100 (hB _ (by omega))) (t50_100 (hB _ (by omega))))) (cwV 4 B.2.2.2.2.1 (gV kw_406 kw_408 ks_20 kw_4 kw_409) rfl rfl rfl (by decide +kernel) ⟨Nat.le_of_ble_eq_true rfl, Nat.le_of_ble_eq_true rfl⟩) ⟨mw_blind st_S.blind, mw_recv B hI (by obtain ⟨_, _, _, _, q, _⟩ := hm; exact q.1) rfl, mw_pre B hI (hSt.call hI hA)⟩ rfl rfl hl.1 rfl (lv_room (Nat.le_of_ble_eq_true rfl)) dX3_sum_17 ⟨Nat.le_of_ble_eq_true rfl, Nat.le_of_ble_eq_true rfl⟩) (fun f H locs hp hI2 => ?_)
    clear hI
    have hI := hI2
    clear hI2
    obtain ⟨Z1, hZ1, hm⟩ : ∃ Z', Z' = upI Z (16) (Z (a.toNat) + 1 * Z (b.toNat)) ∧ MM kA f0 f o li si su di Z' := ⟨_, rfl, hm.tr hp⟩
    have v1 : Z1 (16) = Z (a.toNat) + 1 * Z (b.toNat) := by rw [hZ1, upI_self]
    have r1 : ∀ i, i ≠ 16 → Z1 i = Z i := fun i hi => by rw [hZ1, upI_ne _ _ hi]
    have hsl : ∀ i, i < 16 → Z1 i = Z i := fun i hi => (r1 i (by omega)).trans (hsl i hi)
    have h24 : Z1 24 = 1000000 ^ 50 := (r1 24 (by omega)).trans h24
    refine mv_aload_n B dX3_sum_20 rfl (lv_at hl 0 rfl) ?_
    refine mv_iload_n B dX3_sum_21 rfl (lv_at hl 3 rfl) ?_
    refine mv_bipush B dX3_sum_22 (by decide) ?_
    refine mw_calli hI hA (va_runV (As := [.int (iI (t)), .int (iI (16))]) (rest := []) B.fix (t_X3_keep l D kA H.size f (x := t) (r := 16) hm.self (by omega) h24 h1.2.2 (by omega)) (cwV 2 B.2.2.2.2.1 (gV kw_422 kw_424 ks_24 kw_4 kw_425) rfl rfl rfl (by decide +kernel) ⟨Nat.le_of_ble_eq_true rfl, Nat.le_of_ble_eq_true rfl⟩) ⟨mw_blind st_S.blind, mw_recv B hI (by obtain ⟨_, _, _, _, q, _⟩ := hm; exact q.1) rfl, mw_pre B hI (hSt.call hI hA)⟩ rfl rfl hl.1 rfl (lv_room (Nat.le_of_ble_eq_true rfl)) dX3_sum_24 ⟨Nat.le_of_ble_eq_true rfl, Nat.le_of_ble_eq_true rfl⟩) (fun r f H locs hp hI2 => ?_)
    clear hI
    have hI := hI2
    clear hI2
    obtain ⟨rfl, hp⟩ := hp
    have hm := hm.tr hp
    clear hp
    have e9 : sp_sum Z a b t = kp Z t (Z a.toNat + Z b.toNat) := by unfold sp_sum; rw [if_pos h1]
    have e7 : Z1 (16) = Z a.toNat + Z b.toNat := by rw [v1]; omega
    have e8 := kp_same (Y := Z) (Y1 := Z1) (x := t) e7 hsl
    rw [← e9] at e8
    exact mw_iret B hQ hrt hI ⟨by rw [e8.1], _, hm, kp_24 h1.2.2 h24, e8.2⟩ dX3_sum_27
  · have h1 : ¬ (sOk a ∧ sOk b ∧ sOk t) := fun q => by rw [if_pos q] at hc; exact absurd hc (by decide)
    have e9 : sp_sum Z a b t = (-1, Z) := by unfold sp_sum; rw [if_neg h1]
    refine mv_iconst B dX3_sum_9 ?_
    exact mw_iret B hQ hrt hI ⟨by rw [e9], _, hm, h24, fun i hi => (hsl i hi).trans (congrFun (congrArg Prod.snd e9) i).symm⟩ dX3_sum_10
abbrev rm_X3_less : Room := { frames := 4, cells := 0, slots := 0, locals := 88 }
set_option maxHeartbeats 4000000 in
set_option maxRecDepth 100000 in
/-- less -/
theorem t_X3_less (l : Launch) (D : va_G) (kA : Nat → ClassId) (sz : Nat) (f0 : mw_M) {o li si su di : Nat} {Z : Nat → Int}{a b t : Int} (hm : MM kA f0 f0 o li si su di Z) (h24 : Z 24 = 1000000 ^ 50) (hB : ∀ i, i < 16 → ((Z i).natAbs : Int) < 1000000 ^ 50) (ha : -2147483648 ≤ a ∧ a ≤ 2147483647) (hb : -2147483648 ≤ b ∧ b ≤ 2147483647) (ht : -2147483648 ≤ t ∧ t ≤ 2147483647) : mw_Mi l yX3_less (Cond.code yX3_less cX3_less 4 ((some .int)) :: gw) rm_X3_less D vwCl (tyL kA) st_S [.ref o, .int (iI (a)), .int (iI (b)), .int (iI (t))] f0 sz (fun v f => v = iI (sp_less Z a b t).1 ∧ ∃ Z', MM kA f0 f o li si su di Z' ∧ Z' 24 = 1000000 ^ 50 ∧ ∀ i, i < 16 → Z' i = (sp_less Z a b t).2 i) 0 0 := by
  refine mw_ofi (cc := cX3_less) (maxL := 4) (ret := (some .int)) (by decide) rfl (Nat.le_of_ble_eq_true rfl) ?_
  intro p e s m below meth c A ls Q hQ B hrt hnm hA hI hSt hl
  have hl : lv_has ls 4 [(0, .ref o), (1, .int (iI (a))), (2, .int (iI (b))), (3, .int (iI (t)))] := hl
  obtain ⟨f, hI, hm, hf⟩ : ∃ f, mw_I D vwCl A s s.heap [] f ∧ MM kA f0 f o li si su di Z ∧ f = f0 := ⟨f0, hI, hm, rfl⟩
  have hsl : ∀ i, i < 16 → Z i = Z i := fun _ _ => rfl
  have h240 := h24
  refine mv_iload_n B dX3_less_0 rfl (lv_at hl 1 rfl) ?_
  refine mv_iload_n B dX3_less_1 rfl (lv_at hl 2 rfl) ?_
  refine mv_iload_n B dX3_less_2 rfl (lv_at hl 3 rfl) ?_
  refine mw_calli hI hA (va_runS (As := [.int (iI (a)), .int (iI (b)), .int (iI (t))]) (rest := []) B.fix (t_X3_are l D kA s.heap.size f ha hb ht) (cwS 3 B.2.2.2.2.1 (gS kw_442 kw_443 kw_4 kw_444) rfl rfl rfl (by decide +kernel) ⟨Nat.le_of_ble_eq_true rfl, Nat.le_of_ble_eq_true rfl⟩) ⟨mw_blind st_S.blind, mw_pre B hI (hSt.call hI hA)⟩ rfl rfl hl.1 rfl (lv_room (Nat.le_of_ble_eq_true rfl)) dX3_less_3 ⟨Nat.le_of_ble_eq_true rfl, Nat.le_of_ble_eq_true rfl⟩) (fun r f H locs hp hI2 => ?_)
  clear hI
  have hI := hI2
  clear hI2
  obtain ⟨rfl, rfl⟩ := hp
  refine mv_if_ne (tgt := 11) B dX3_less_6 (by decide) (by split <;> omega) (fun hc => ?_) (fun hc => ?_)
  · have h1 : sOk a ∧ sOk b ∧ sOk t := by
      by_cases q : sOk a ∧ sOk b ∧ sOk t
      · exact q
      · rw [if_neg q] at hc; exact absurd rfl hc
    refine mv_aload_n B dX3_less_11 rfl (lv_at hl 0 rfl) ?_
    refine mv_bipush B dX3_less_12 (by decide) ?_
    refine mv_iload_n B dX3_less_14 rfl (lv_at hl 1 rfl) ?_
    refine mv_iload_n B dX3_less_15 rfl (lv_at hl 2 rfl) ?_
    refine mv_iconst B dX3_less_16 ?_
    refine mw_callv hI hA (va_runV (As := [.int (iI (16)), .int (iI (a)), .int (iI (b)), .int (iI (-1))]) (rest := []) B.fix (t_X3_combine l D kA H.size f (t := 16) (a := a.toNat) (b := b.toNat) hm.self (by omega) (by omega) (by omega) (by omega) (by omega) (by omega) (by decide) (add140 (t50_100 (hB _ (by omega))) (t50_100 (hB _ (by omega))))) (cwV 4 B.2.2.2.2.1 (gV kw_406 kw_408 ks_20 kw_4 kw_409) rfl rfl rfl (by decide +kernel) ⟨Nat.le_of_ble_eq_true rfl, Nat.le_of_ble_eq_true rfl⟩) ⟨mw_blind st_S.blind, mw_recv B hI (by obtain ⟨_, _, _, _, q, _⟩ := hm; exact q.1) rfl, mw_pre B hI (hSt.call hI hA)⟩ rfl rfl hl.1 rfl (lv_room (Nat.le_of_ble_eq_true rfl)) dX3_less_17 ⟨Nat.le_of_ble_eq_true rfl, Nat.le_of_ble_eq_true rfl⟩) (fun f H locs hp hI2 => ?_)
    clear hI
    have hI := hI2
    clear hI2
    obtain ⟨Z1, hZ1, hm⟩ : ∃ Z', Z' = upI Z (16) (Z (a.toNat) + (-1) * Z (b.toNat)) ∧ MM kA f0 f o li si su di Z' := ⟨_, rfl, hm.tr hp⟩
    have v1 : Z1 (16) = Z (a.toNat) + (-1) * Z (b.toNat) := by rw [hZ1, upI_self]
    have r1 : ∀ i, i ≠ 16 → Z1 i = Z i := fun i hi => by rw [hZ1, upI_ne _ _ hi]
    have hsl : ∀ i, i < 16 → Z1 i = Z i := fun i hi => (r1 i (by omega)).trans (hsl i hi)
    have h24 : Z1 24 = 1000000 ^ 50 := (r1 24 (by omega)).trans h24
    refine mv_aload_n B dX3_less_20 rfl (lv_at hl 0 rfl) ?_
    refine mv_iload_n B dX3_less_21 rfl (lv_at hl 3 rfl) ?_
    refine mv_bipush B dX3_less_22 (by decide) ?_
    refine mw_calli hI hA (va_runV (As := [.int (iI (t)), .int (iI (16))]) (rest := []) B.fix (t_X3_keep l D kA H.size f (x := t) (r := 16) hm.self (by omega) h24 h1.2.2 (by omega)) (cwV 2 B.2.2.2.2.1 (gV kw_422 kw_424 ks_24 kw_4 kw_425) rfl rfl rfl (by decide +kernel) ⟨Nat.le_of_ble_eq_true rfl, Nat.le_of_ble_eq_true rfl⟩) ⟨mw_blind st_S.blind, mw_recv B hI (by obtain ⟨_, _, _, _, q, _⟩ := hm; exact q.1) rfl, mw_pre B hI (hSt.call hI hA)⟩ rfl rfl hl.1 rfl (lv_room (Nat.le_of_ble_eq_true rfl)) dX3_less_24 ⟨Nat.le_of_ble_eq_true rfl, Nat.le_of_ble_eq_true rfl⟩) (fun r f H locs hp hI2 => ?_)
    clear hI
    have hI := hI2
    clear hI2
    obtain ⟨rfl, hp⟩ := hp
    have hm := hm.tr hp
    clear hp
    have e9 : sp_less Z a b t = kp Z t (Z a.toNat - Z b.toNat) := by unfold sp_less; rw [if_pos h1]
    have e7 : Z1 (16) = Z a.toNat - Z b.toNat := by rw [v1]; omega
    have e8 := kp_same (Y := Z) (Y1 := Z1) (x := t) e7 hsl
    rw [← e9] at e8
    exact mw_iret B hQ hrt hI ⟨by rw [e8.1], _, hm, kp_24 h1.2.2 h24, e8.2⟩ dX3_less_27
  · have h1 : ¬ (sOk a ∧ sOk b ∧ sOk t) := fun q => by rw [if_pos q] at hc; exact absurd hc (by decide)
    have e9 : sp_less Z a b t = (-1, Z) := by unfold sp_less; rw [if_neg h1]
    refine mv_iconst B dX3_less_9 ?_
    exact mw_iret B hQ hrt hI ⟨by rw [e9], _, hm, h24, fun i hi => (hsl i hi).trans (congrFun (congrArg Prod.snd e9) i).symm⟩ dX3_less_10
abbrev rm_X3_product : Room := { frames := 4, cells := 0, slots := 0, locals := 88 }
set_option maxHeartbeats 4000000 in
set_option maxRecDepth 100000 in
/-- product -/
theorem t_X3_product (l : Launch) (D : va_G) (kA : Nat → ClassId) (sz : Nat) (f0 : mw_M) {o li si su di : Nat} {Z : Nat → Int}{a b t : Int} (hm : MM kA f0 f0 o li si su di Z) (h24 : Z 24 = 1000000 ^ 50) (hB : ∀ i, i < 16 → ((Z i).natAbs : Int) < 1000000 ^ 50) (ha : -2147483648 ≤ a ∧ a ≤ 2147483647) (hb : -2147483648 ≤ b ∧ b ≤ 2147483647) (ht : -2147483648 ≤ t ∧ t ≤ 2147483647) : mw_Mi l yX3_product (Cond.code yX3_product cX3_product 4 ((some .int)) :: gw) rm_X3_product D vwCl (tyL kA) st_S [.ref o, .int (iI (a)), .int (iI (b)), .int (iI (t))] f0 sz (fun v f => v = iI (sp_product Z a b t).1 ∧ ∃ Z', MM kA f0 f o li si su di Z' ∧ Z' 24 = 1000000 ^ 50 ∧ ∀ i, i < 16 → Z' i = (sp_product Z a b t).2 i) 0 0 := by
  refine mw_ofi (cc := cX3_product) (maxL := 4) (ret := (some .int)) (by decide) rfl (Nat.le_of_ble_eq_true rfl) ?_
  intro p e s m below meth c A ls Q hQ B hrt hnm hA hI hSt hl
  have hl : lv_has ls 4 [(0, .ref o), (1, .int (iI (a))), (2, .int (iI (b))), (3, .int (iI (t)))] := hl
  obtain ⟨f, hI, hm, hf⟩ : ∃ f, mw_I D vwCl A s s.heap [] f ∧ MM kA f0 f o li si su di Z ∧ f = f0 := ⟨f0, hI, hm, rfl⟩
  have hsl : ∀ i, i < 16 → Z i = Z i := fun _ _ => rfl
  have h240 := h24
  refine mv_iload_n B dX3_product_0 rfl (lv_at hl 1 rfl) ?_
  refine mv_iload_n B dX3_product_1 rfl (lv_at hl 2 rfl) ?_
  refine mv_iload_n B dX3_product_2 rfl (lv_at hl 3 rfl) ?_
  refine mw_calli hI hA (va_runS (As := [.int (iI (a)), .int (iI (b)), .int (iI (t))]) (rest := []) B.fix (t_X3_are l D kA s.heap.size f ha hb ht) (cwS 3 B.2.2.2.2.1 (gS kw_442 kw_443 kw_4 kw_444) rfl rfl rfl (by decide +kernel) ⟨Nat.le_of_ble_eq_true rfl, Nat.le_of_ble_eq_true rfl⟩) ⟨mw_blind st_S.blind, mw_pre B hI (hSt.call hI hA)⟩ rfl rfl hl.1 rfl (lv_room (Nat.le_of_ble_eq_true rfl)) dX3_product_3 ⟨Nat.le_of_ble_eq_true rfl, Nat.le_of_ble_eq_true rfl⟩) (fun r f H locs hp hI2 => ?_)
  clear hI
  have hI := hI2
  clear hI2
  obtain ⟨rfl, rfl⟩ := hp
  refine mv_if_ne (tgt := 11) B dX3_product_6 (by decide) (by split <;> omega) (fun hc => ?_) (fun hc => ?_)
  · have h1 : sOk a ∧ sOk b ∧ sOk t := by
      by_cases q : sOk a ∧ sOk b ∧ sOk t
      · exact q
      · rw [if_neg q] at hc; exact absurd rfl hc
    refine mv_aload_n B dX3_product_11 rfl (lv_at hl 0 rfl) ?_
    refine mv_bipush B dX3_product_12 (by decide) ?_
    refine mv_iload_n B dX3_product_14 rfl (lv_at hl 1 rfl) ?_
    refine mv_iload_n B dX3_product_15 rfl (lv_at hl 2 rfl) ?_
    obtain ⟨L, S, G, U, hM, hL, hZ⟩ := id hm
    have em : mg L (a.toNat) * mg L (b.toNat) = ((Z (a.toNat) * Z (b.toNat)).natAbs : Int) := by rw [(hZ (a.toNat) (by omega)).1, (hZ (b.toNat) (by omega)).1, abs_mul2]
    have hbd : mg L (a.toNat) * mg L (b.toNat) < 65536 ^ 140 := by rw [em]; exact (mul140 (hB _ (by omega)) (hB _ (by omega)))
    refine mw_callv hI hA (va_runV (As := [.int (iI (16)), .int (iI (a)), .int (iI (b))]) (rest := []) B.fix (t_X3_multiply l D kA H.size f (t := 16) (a := a.toNat) (b := b.toNat) hM.self hL (by omega) (by omega) (by omega) (by omega) (by omega) (by omega) hbd) (cwV 3 B.2.2.2.2.1 (gV kw_376 kw_378 ks_19 kw_4 kw_379) rfl rfl rfl (by decide +kernel) ⟨Nat.le_of_ble_eq_true rfl, Nat.le_of_ble_eq_true rfl⟩) ⟨mw_blind st_S.blind, mw_recv B hI hM.1 rfl, mw_pre B hI (hSt.call hI hA)⟩ rfl rfl hl.1 rfl (lv_room (Nat.le_of_ble_eq_true rfl)) dX3_product_16 ⟨Nat.le_of_ble_eq_true rfl, Nat.le_of_ble_eq_true rfl⟩) (fun f H locs hp hI2 => ?_)
    clear hI
    have hI := hI2
    clear hI2
    obtain ⟨L1, U1, hM1, hL1, ro1, hv1⟩ := hp
    obtain ⟨Z1, hZ1, hm⟩ : ∃ Z', Z' = upI Z (16) (Z (a.toNat) * Z (b.toNat)) ∧ MM kA f0 f o li si su di Z' := ⟨_, rfl, MM.u hZ (hM.tr hM1) hL1 ro1 (hv1.trans em) (by rw [(hZ (a.toNat) (by omega)).1, (hZ (b.toNat) (by omega)).1, (hZ (a.toNat) (by omega)).2, (hZ (b.toNat) (by omega)).2]; exact c3_mul _ _)⟩
    have v1 : Z1 (16) = Z (a.toNat) * Z (b.toNat) := by rw [hZ1, upI_self]
    have r1 : ∀ i, i ≠ 16 → Z1 i = Z i := fun i hi => by rw [hZ1, upI_ne _ _ hi]
    have hsl : ∀ i, i < 16 → Z1 i = Z i := fun i hi => (r1 i (by omega)).trans (hsl i hi)
    have h24 : Z1 24 = 1000000 ^ 50 := (r1 24 (by omega)).trans h24
    refine mv_aload_n B dX3_product_19 rfl (lv_at hl 0 rfl) ?_
    refine mv_iload_n B dX3_product_20 rfl (lv_at hl 3 rfl) ?_
    refine mv_bipush B dX3_product_21 (by decide) ?_
    refine mw_calli hI hA (va_runV (As := [.int (iI (t)), .int (iI (16))]) (rest := []) B.fix (t_X3_keep l D kA H.size f (x := t) (r := 16) hm.self (by omega) h24 h1.2.2 (by omega)) (cwV 2 B.2.2.2.2.1 (gV kw_422 kw_424 ks_24 kw_4 kw_425) rfl rfl rfl (by decide +kernel) ⟨Nat.le_of_ble_eq_true rfl, Nat.le_of_ble_eq_true rfl⟩) ⟨mw_blind st_S.blind, mw_recv B hI (by obtain ⟨_, _, _, _, q, _⟩ := hm; exact q.1) rfl, mw_pre B hI (hSt.call hI hA)⟩ rfl rfl hl.1 rfl (lv_room (Nat.le_of_ble_eq_true rfl)) dX3_product_23 ⟨Nat.le_of_ble_eq_true rfl, Nat.le_of_ble_eq_true rfl⟩) (fun r f H locs hp hI2 => ?_)
    clear hI
    have hI := hI2
    clear hI2
    obtain ⟨rfl, hp⟩ := hp
    have hm := hm.tr hp
    clear hp
    have e9 : sp_product Z a b t = kp Z t (Z a.toNat * Z b.toNat) := by unfold sp_product; rw [if_pos h1]
    have e7 : Z1 (16) = Z a.toNat * Z b.toNat := by rw [v1]
    have e8 := kp_same (Y := Z) (Y1 := Z1) (x := t) e7 hsl
    rw [← e9] at e8
    exact mw_iret B hQ hrt hI ⟨by rw [e8.1], _, hm, kp_24 h1.2.2 h24, e8.2⟩ dX3_product_26
  · have h1 : ¬ (sOk a ∧ sOk b ∧ sOk t) := fun q => by rw [if_pos q] at hc; exact absurd hc (by decide)
    have e9 : sp_product Z a b t = (-1, Z) := by unfold sp_product; rw [if_neg h1]
    refine mv_iconst B dX3_product_9 ?_
    exact mw_iret B hQ hrt hI ⟨by rw [e9], _, hm, h24, fun i hi => (hsl i hi).trans (congrFun (congrArg Prod.snd e9) i).symm⟩ dX3_product_10
abbrev rm_X3_over : Room := { frames := 4, cells := 0, slots := 0, locals := 96 }
set_option maxHeartbeats 4000000 in
set_option maxRecDepth 100000 in
/-- over -/
theorem t_X3_over (l : Launch) (D : va_G) (kA : Nat → ClassId) (sz : Nat) (f0 : mw_M) {o li si su di : Nat} {Z : Nat → Int}{a b t : Int} (hm : MM kA f0 f0 o li si su di Z) (h24 : Z 24 = 1000000 ^ 50) (hB : ∀ i, i < 16 → ((Z i).natAbs : Int) < 1000000 ^ 50) (ha : -2147483648 ≤ a ∧ a ≤ 2147483647) (hb : -2147483648 ≤ b ∧ b ≤ 2147483647) (ht : -2147483648 ≤ t ∧ t ≤ 2147483647) : mw_Mi l yX3_over (Cond.code yX3_over cX3_over 4 ((some .int)) :: gw) rm_X3_over D vwCl (tyL kA) st_S [.ref o, .int (iI (a)), .int (iI (b)), .int (iI (t))] f0 sz (fun v f => v = iI (sp_over Z a b t).1 ∧ ∃ Z', MM kA f0 f o li si su di Z' ∧ Z' 24 = 1000000 ^ 50 ∧ ∀ i, i < 16 → Z' i = (sp_over Z a b t).2 i) 0 0 := by
  refine mw_ofi (cc := cX3_over) (maxL := 4) (ret := (some .int)) (by decide) rfl (Nat.le_of_ble_eq_true rfl) ?_
  intro p e s m below meth c A ls Q hQ B hrt hnm hA hI hSt hl
  have hl : lv_has ls 4 [(0, .ref o), (1, .int (iI (a))), (2, .int (iI (b))), (3, .int (iI (t)))] := hl
  obtain ⟨f, hI, hm, hf⟩ : ∃ f, mw_I D vwCl A s s.heap [] f ∧ MM kA f0 f o li si su di Z ∧ f = f0 := ⟨f0, hI, hm, rfl⟩
  have hsl : ∀ i, i < 16 → Z i = Z i := fun _ _ => rfl
  have h240 := h24
  refine mv_iload_n B dX3_over_0 rfl (lv_at hl 1 rfl) ?_
  refine mv_iload_n B dX3_over_1 rfl (lv_at hl 2 rfl) ?_
  refine mv_iload_n B dX3_over_2 rfl (lv_at hl 3 rfl) ?_
  refine mw_calli hI hA (va_runS (As := [.int (iI (a)), .int (iI (b)), .int (iI (t))]) (rest := []) B.fix (t_X3_are l D kA s.heap.size f ha hb ht) (cwS 3 B.2.2.2.2.1 (gS kw_442 kw_443 kw_4 kw_444) rfl rfl rfl (by decide +kernel) ⟨Nat.le_of_ble_eq_true rfl, Nat.le_of_ble_eq_true rfl⟩) ⟨mw_blind st_S.blind, mw_pre B hI (hSt.call hI hA)⟩ rfl rfl hl.1 rfl (lv_room (Nat.le_of_ble_eq_true rfl)) dX3_over_3 ⟨Nat.le_of_ble_eq_true rfl, Nat.le_of_ble_eq_true rfl⟩) (fun r f H locs hp hI2 => ?_)
  clear hI
  have hI := hI2
  clear hI2
  obtain ⟨rfl, rfl⟩ := hp
  refine mv_if_eq (tgt := 18) B dX3_over_6 (by decide) (by split <;> omega) (fun hc => ?_) (fun hc => ?_)
  · have h1 : ¬ (sOk a ∧ sOk b ∧ sOk t) := fun q => by rw [if_pos q] at hc; exact absurd hc (by decide)
    have e9 : sp_over Z a b t = (-1, Z) := by unfold sp_over; rw [if_neg (fun q => h1 ⟨q.1, q.2.1, q.2.2.1⟩)]
    refine mv_iconst B dX3_over_18 ?_
    exact mw_iret B hQ hrt hI ⟨by rw [e9], _, hm, h24, fun i hi => (hsl i hi).trans (congrFun (congrArg Prod.snd e9) i).symm⟩ dX3_over_19
  · have h1 : sOk a ∧ sOk b ∧ sOk t := by
      by_cases q : sOk a ∧ sOk b ∧ sOk t
      · exact q
      · rw [if_neg q] at hc; exact absurd rfl hc
    obtain ⟨L, S, G, U, hM, hL, hZ⟩ := id hm
    refine mv_aload_n B dX3_over_9 rfl (lv_at hl 0 rfl) ?_
    refine mw_get (C := RX3) (T := TX3) (N := 4) B hI hM.1 uin_X3 rfl 1 (by decide) kw_382 rfl dX3_over_10 ?_
    refine mv_iload_n B dX3_over_13 rfl (lv_at hl 2 rfl) ?_
    refine mw_iald B hI 0 hM.2.2.1 rfl (b.toNat) (by omega) (by omega) (by decide) dX3_over_14 ?_
    rw [(hZ (b.toNat) (by omega)).2]
    have sg_ := c3_sg (Z (b.toNat))
    refine mv_if_ne (tgt := 20) B dX3_over_15 (by decide) (by omega) (fun hd1 => ?_) (fun hd1 => ?_)
    · have hnz : Z b.toNat ≠ 0 := by omega
      refine mv_aload_n B dX3_over_20 rfl (lv_at hl 0 rfl) ?_
      refine mv_iload_n B dX3_over_21 rfl (lv_at hl 1 rfl) ?_
      refine mv_iload_n B dX3_over_22 rfl (lv_at hl 2 rfl) ?_
      refine mw_callv hI hA (va_runV (As := [.int (iI (a)), .int (iI (b))]) (rest := []) B.fix (t_X3_divide l D kA H.size f (a := a.toNat) (b := b.toNat) hm.self (by omega) (by omega) (by omega) (by omega) (by omega) (by omega) hnz) (cwV 2 B.2.2.2.2.1 (gV kw_457 kw_459 ks_27 kw_4 kw_460) rfl rfl rfl (by decide +kernel) ⟨Nat.le_of_ble_eq_true rfl, Nat.le_of_ble_eq_true rfl⟩) ⟨mw_blind st_S.blind, mw_recv B hI (by obtain ⟨_, _, _, _, q, _⟩ := hm; exact q.1) rfl, mw_pre B hI (hSt.call hI hA)⟩ rfl rfl hl.1 rfl (lv_room (Nat.le_of_ble_eq_true rfl)) dX3_over_23 ⟨Nat.le_of_ble_eq_true rfl, Nat.le_of_ble_eq_true rfl⟩) (fun f H locs hp hI2 => ?_)
      clear hI
      have hI := hI2
      clear hI2
      obtain ⟨Z1, hZ1, hm⟩ : ∃ Z', Z' = upI (upI Z 18 ((Z (a.toNat)).tdiv (Z (b.toNat)))) 19 ((Z (a.toNat)).tmod (Z (b.toNat))) ∧ MM kA f0 f o li si su di Z' := ⟨_, rfl, hm.tr hp⟩
      have v1 : Z1 18 = (Z (a.toNat)).tdiv (Z (b.toNat)) := by rw [hZ1, upI_ne _ _ (by decide), upI_self]
      have u1 : Z1 19 = (Z (a.toNat)).tmod (Z (b.toNat)) := by rw [hZ1, upI_self]
      have r1 : ∀ i, i ≠ 18 → i ≠ 19 → Z1 i = Z i := fun i h1 h2 => by rw [hZ1, upI_ne _ _ h2, upI_ne _ _ h1]
      have hsl : ∀ i, i < 16 → Z1 i = Z i := fun i hi => (r1 i (by omega) (by omega)).trans (hsl i hi)
      have h24 : Z1 24 = 1000000 ^ 50 := (r1 24 (by omega) (by omega)).trans h24
      refine mv_aload_n B dX3_over_26 rfl (lv_at hl 0 rfl) ?_
      refine mv_iload_n B dX3_over_27 rfl (lv_at hl 3 rfl) ?_
      refine mv_bipush B dX3_over_28 (by decide) ?_
      refine mw_calli hI hA (va_runV (As := [.int (iI (t)), .int (iI (18))]) (rest := []) B.fix (t_X3_keep l D kA H.size f (x := t) (r := 18) hm.self (by omega) h24 h1.2.2 (by omega)) (cwV 2 B.2.2.2.2.1 (gV kw_422 kw_424 ks_24 kw_4 kw_425) rfl rfl rfl (by decide +kernel) ⟨Nat.le_of_ble_eq_true rfl, Nat.le_of_ble_eq_true rfl⟩) ⟨mw_blind st_S.blind, mw_recv B hI (by obtain ⟨_, _, _, _, q, _⟩ := hm; exact q.1) rfl, mw_pre B hI (hSt.call hI hA)⟩ rfl rfl hl.1 rfl (lv_room (Nat.le_of_ble_eq_true rfl)) dX3_over_30 ⟨Nat.le_of_ble_eq_true rfl, Nat.le_of_ble_eq_true rfl⟩) (fun r f H locs hp hI2 => ?_)
      clear hI
      have hI := hI2
      clear hI2
      obtain ⟨rfl, hp⟩ := hp
      have hm := hm.tr hp
      clear hp
      have e9 : sp_over Z a b t = kp Z t ((Z a.toNat).tdiv (Z b.toNat)) := by unfold sp_over; rw [if_pos ⟨h1.1, h1.2.1, h1.2.2, hnz⟩]
      have e7 : Z1 (18) = (Z a.toNat).tdiv (Z b.toNat) := by rw [v1]
      have e8 := kp_same (Y := Z) (Y1 := Z1) (x := t) e7 hsl
      rw [← e9] at e8
      exact mw_iret B hQ hrt hI ⟨by rw [e8.1], _, hm, kp_24 h1.2.2 h24, e8.2⟩ dX3_over_33
    · have e9 : sp_over Z a b t = (-1, Z) := by unfold sp_over; rw [if_neg (fun q => by omega)]
      refine mv_iconst B dX3_over_18 ?_
      exact mw_iret B hQ hrt hI ⟨by rw [e9], _, hm, h24, fun i hi => (hsl i hi).trans (congrFun (congrArg Prod.snd e9) i).symm⟩ dX3_over_19
abbrev rm_X3_left : Room := { frames := 4, cells := 0, slots := 0, locals := 96 }
set_option maxHeartbeats 4000000 in
set_option maxRecDepth 100000 in
/-- left -/
theorem t_X3_left (l : Launch) (D : va_G) (kA : Nat → ClassId) (sz : Nat) (f0 : mw_M) {o li si su di : Nat} {Z : Nat → Int}{a b t : Int} (hm : MM kA f0 f0 o li si su di Z) (h24 : Z 24 = 1000000 ^ 50) (hB : ∀ i, i < 16 → ((Z i).natAbs : Int) < 1000000 ^ 50) (ha : -2147483648 ≤ a ∧ a ≤ 2147483647) (hb : -2147483648 ≤ b ∧ b ≤ 2147483647) (ht : -2147483648 ≤ t ∧ t ≤ 2147483647) : mw_Mi l yX3_left (Cond.code yX3_left cX3_left 4 ((some .int)) :: gw) rm_X3_left D vwCl (tyL kA) st_S [.ref o, .int (iI (a)), .int (iI (b)), .int (iI (t))] f0 sz (fun v f => v = iI (sp_left Z a b t).1 ∧ ∃ Z', MM kA f0 f o li si su di Z' ∧ Z' 24 = 1000000 ^ 50 ∧ ∀ i, i < 16 → Z' i = (sp_left Z a b t).2 i) 0 0 := by
  refine mw_ofi (cc := cX3_left) (maxL := 4) (ret := (some .int)) (by decide) rfl (Nat.le_of_ble_eq_true rfl) ?_
  intro p e s m below meth c A ls Q hQ B hrt hnm hA hI hSt hl
  have hl : lv_has ls 4 [(0, .ref o), (1, .int (iI (a))), (2, .int (iI (b))), (3, .int (iI (t)))] := hl
  obtain ⟨f, hI, hm, hf⟩ : ∃ f, mw_I D vwCl A s s.heap [] f ∧ MM kA f0 f o li si su di Z ∧ f = f0 := ⟨f0, hI, hm, rfl⟩
  have hsl : ∀ i, i < 16 → Z i = Z i := fun _ _ => rfl
  have h240 := h24
  refine mv_iload_n B dX3_left_0 rfl (lv_at hl 1 rfl) ?_
  refine mv_iload_n B dX3_left_1 rfl (lv_at hl 2 rfl) ?_
  refine mv_iload_n B dX3_left_2 rfl (lv_at hl 3 rfl) ?_
  refine mw_calli hI hA (va_runS (As := [.int (iI (a)), .int (iI (b)), .int (iI (t))]) (rest := []) B.fix (t_X3_are l D kA s.heap.size f ha hb ht) (cwS 3 B.2.2.2.2.1 (gS kw_442 kw_443 kw_4 kw_444) rfl rfl rfl (by decide +kernel) ⟨Nat.le_of_ble_eq_true rfl, Nat.le_of_ble_eq_true rfl⟩) ⟨mw_blind st_S.blind, mw_pre B hI (hSt.call hI hA)⟩ rfl rfl hl.1 rfl (lv_room (Nat.le_of_ble_eq_true rfl)) dX3_left_3 ⟨Nat.le_of_ble_eq_true rfl, Nat.le_of_ble_eq_true rfl⟩) (fun r f H locs hp hI2 => ?_)
  clear hI
  have hI := hI2
  clear hI2
  obtain ⟨rfl, rfl⟩ := hp
  refine mv_if_eq (tgt := 18) B dX3_left_6 (by decide) (by split <;> omega) (fun hc => ?_) (fun hc => ?_)
  · have h1 : ¬ (sOk a ∧ sOk b ∧ sOk t) := fun q => by rw [if_pos q] at hc; exact absurd hc (by decide)
    have e9 : sp_left Z a b t = (-1, Z) := by unfold sp_left; rw [if_neg (fun q => h1 ⟨q.1, q.2.1, q.2.2.1⟩)]
    refine mv_iconst B dX3_left_18 ?_
    exact mw_iret B hQ hrt hI ⟨by rw [e9], _, hm, h24, fun i hi => (hsl i hi).trans (congrFun (congrArg Prod.snd e9) i).symm⟩ dX3_left_19
  · have h1 : sOk a ∧ sOk b ∧ sOk t := by
      by_cases q : sOk a ∧ sOk b ∧ sOk t
      · exact q
      · rw [if_neg q] at hc; exact absurd rfl hc
    obtain ⟨L, S, G, U, hM, hL, hZ⟩ := id hm
    refine mv_aload_n B dX3_left_9 rfl (lv_at hl 0 rfl) ?_
    refine mw_get (C := RX3) (T := TX3) (N := 4) B hI hM.1 uin_X3 rfl 1 (by decide) kw_382 rfl dX3_left_10 ?_
    refine mv_iload_n B dX3_left_13 rfl (lv_at hl 2 rfl) ?_
    refine mw_iald B hI 0 hM.2.2.1 rfl (b.toNat) (by omega) (by omega) (by decide) dX3_left_14 ?_
    rw [(hZ (b.toNat) (by omega)).2]
    have sg_ := c3_sg (Z (b.toNat))
    refine mv_if_ne (tgt := 20) B dX3_left_15 (by decide) (by omega) (fun hd1 => ?_) (fun hd1 => ?_)
    · have hnz : Z b.toNat ≠ 0 := by omega
      refine mv_aload_n B dX3_left_20 rfl (lv_at hl 0 rfl) ?_
      refine mv_iload_n B dX3_left_21 rfl (lv_at hl 1 rfl) ?_
      refine mv_iload_n B dX3_left_22 rfl (lv_at hl 2 rfl) ?_
      refine mw_callv hI hA (va_runV (As := [.int (iI (a)), .int (iI (b))]) (rest := []) B.fix (t_X3_divide l D kA H.size f (a := a.toNat) (b := b.toNat) hm.self (by omega) (by omega) (by omega) (by omega) (by omega) (by omega) hnz) (cwV 2 B.2.2.2.2.1 (gV kw_457 kw_459 ks_27 kw_4 kw_460) rfl rfl rfl (by decide +kernel) ⟨Nat.le_of_ble_eq_true rfl, Nat.le_of_ble_eq_true rfl⟩) ⟨mw_blind st_S.blind, mw_recv B hI (by obtain ⟨_, _, _, _, q, _⟩ := hm; exact q.1) rfl, mw_pre B hI (hSt.call hI hA)⟩ rfl rfl hl.1 rfl (lv_room (Nat.le_of_ble_eq_true rfl)) dX3_left_23 ⟨Nat.le_of_ble_eq_true rfl, Nat.le_of_ble_eq_true rfl⟩) (fun f H locs hp hI2 => ?_)
      clear hI
      have hI := hI2
      clear hI2
      obtain ⟨Z1, hZ1, hm⟩ : ∃ Z', Z' = upI (upI Z 18 ((Z (a.toNat)).tdiv (Z (b.toNat)))) 19 ((Z (a.toNat)).tmod (Z (b.toNat))) ∧ MM kA f0 f o li si su di Z' := ⟨_, rfl, hm.tr hp⟩
      have v1 : Z1 18 = (Z (a.toNat)).tdiv (Z (b.toNat)) := by rw [hZ1, upI_ne _ _ (by decide), upI_self]
      have u1 : Z1 19 = (Z (a.toNat)).tmod (Z (b.toNat)) := by rw [hZ1, upI_self]
      have r1 : ∀ i, i ≠ 18 → i ≠ 19 → Z1 i = Z i := fun i h1 h2 => by rw [hZ1, upI_ne _ _ h2, upI_ne _ _ h1]
      have hsl : ∀ i, i < 16 → Z1 i = Z i := fun i hi => (r1 i (by omega) (by omega)).trans (hsl i hi)
      have h24 : Z1 24 = 1000000 ^ 50 := (r1 24 (by omega) (by omega)).trans h24
      refine mv_aload_n B dX3_left_26 rfl (lv_at hl 0 rfl) ?_
      refine mv_iload_n B dX3_left_27 rfl (lv_at hl 3 rfl) ?_
      refine mv_bipush B dX3_left_28 (by decide) ?_
      refine mw_calli hI hA (va_runV (As := [.int (iI (t)), .int (iI (19))]) (rest := []) B.fix (t_X3_keep l D kA H.size f (x := t) (r := 19) hm.self (by omega) h24 h1.2.2 (by omega)) (cwV 2 B.2.2.2.2.1 (gV kw_422 kw_424 ks_24 kw_4 kw_425) rfl rfl rfl (by decide +kernel) ⟨Nat.le_of_ble_eq_true rfl, Nat.le_of_ble_eq_true rfl⟩) ⟨mw_blind st_S.blind, mw_recv B hI (by obtain ⟨_, _, _, _, q, _⟩ := hm; exact q.1) rfl, mw_pre B hI (hSt.call hI hA)⟩ rfl rfl hl.1 rfl (lv_room (Nat.le_of_ble_eq_true rfl)) dX3_left_30 ⟨Nat.le_of_ble_eq_true rfl, Nat.le_of_ble_eq_true rfl⟩) (fun r f H locs hp hI2 => ?_)
      clear hI
      have hI := hI2
      clear hI2
      obtain ⟨rfl, hp⟩ := hp
      have hm := hm.tr hp
      clear hp
      have e9 : sp_left Z a b t = kp Z t ((Z a.toNat).tmod (Z b.toNat)) := by unfold sp_left; rw [if_pos ⟨h1.1, h1.2.1, h1.2.2, hnz⟩]
      have e7 : Z1 (19) = (Z a.toNat).tmod (Z b.toNat) := by rw [u1]
      have e8 := kp_same (Y := Z) (Y1 := Z1) (x := t) e7 hsl
      rw [← e9] at e8
      exact mw_iret B hQ hrt hI ⟨by rw [e8.1], _, hm, kp_24 h1.2.2 h24, e8.2⟩ dX3_left_33
    · have e9 : sp_left Z a b t = (-1, Z) := by unfold sp_left; rw [if_neg (fun q => by omega)]
      refine mv_iconst B dX3_left_18 ?_
      exact mw_iret B hQ hrt hI ⟨by rw [e9], _, hm, h24, fun i hi => (hsl i hi).trans (congrFun (congrArg Prod.snd e9) i).symm⟩ dX3_left_19
abbrev rm_X3_divisor : Room := { frames := 4, cells := 0, slots := 0, locals := 94 }
set_option maxHeartbeats 4000000 in
set_option maxRecDepth 100000 in
/-- divisor -/
theorem t_X3_divisor (l : Launch) (D : va_G) (kA : Nat → ClassId) (sz : Nat) (f0 : mw_M) {o li si su di : Nat} {Z : Nat → Int}{a b t : Int} (hm : MM kA f0 f0 o li si su di Z) (h24 : Z 24 = 1000000 ^ 50) (hB : ∀ i, i < 16 → ((Z i).natAbs : Int) < 1000000 ^ 50) (ha : -2147483648 ≤ a ∧ a ≤ 2147483647) (hb : -2147483648 ≤ b ∧ b ≤ 2147483647) (ht : -2147483648 ≤ t ∧ t ≤ 2147483647) : mw_Mi l yX3_divisor (Cond.code yX3_divisor cX3_divisor 4 ((some .int)) :: gw) rm_X3_divisor D vwCl (tyL kA) st_S [.ref o, .int (iI (a)), .int (iI (b)), .int (iI (t))] f0 sz (fun v f => v = iI (sp_divisor Z a b t).1 ∧ ∃ Z', MM kA f0 f o li si su di Z' ∧ Z' 24 = 1000000 ^ 50 ∧ ∀ i, i < 16 → Z' i = (sp_divisor Z a b t).2 i) 0 0 := by
  refine mw_ofi (cc := cX3_divisor) (maxL := 4) (ret := (some .int)) (by decide) rfl (Nat.le_of_ble_eq_true rfl) ?_
  intro p e s m below meth c A ls Q hQ B hrt hnm hA hI hSt hl
  have hl : lv_has ls 4 [(0, .ref o), (1, .int (iI (a))), (2, .int (iI (b))), (3, .int (iI (t)))] := hl
  obtain ⟨f, hI, hm, hf⟩ : ∃ f, mw_I D vwCl A s s.heap [] f ∧ MM kA f0 f o li si su di Z ∧ f = f0 := ⟨f0, hI, hm, rfl⟩
  have hsl : ∀ i, i < 16 → Z i = Z i := fun _ _ => rfl
  have h240 := h24
  refine mv_iload_n B dX3_divisor_0 rfl (lv_at hl 1 rfl) ?_
  refine mv_iload_n B dX3_divisor_1 rfl (lv_at hl 2 rfl) ?_
  refine mv_iload_n B dX3_divisor_2 rfl (lv_at hl 3 rfl) ?_
  refine mw_calli hI hA (va_runS (As := [.int (iI (a)), .int (iI (b)), .int (iI (t))]) (rest := []) B.fix (t_X3_are l D kA s.heap.size f ha hb ht) (cwS 3 B.2.2.2.2.1 (gS kw_442 kw_443 kw_4 kw_444) rfl rfl rfl (by decide +kernel) ⟨Nat.le_of_ble_eq_true rfl, Nat.le_of_ble_eq_true rfl⟩) ⟨mw_blind st_S.blind, mw_pre B hI (hSt.call hI hA)⟩ rfl rfl hl.1 rfl (lv_room (Nat.le_of_ble_eq_true rfl)) dX3_divisor_3 ⟨Nat.le_of_ble_eq_true rfl, Nat.le_of_ble_eq_true rfl⟩) (fun r f H locs hp hI2 => ?_)
  clear hI
  have hI := hI2
  clear hI2
  obtain ⟨rfl, rfl⟩ := hp
  refine mv_if_ne (tgt := 11) B dX3_divisor_6 (by decide) (by split <;> omega) (fun hc => ?_) (fun hc => ?_)
  · have h1 : sOk a ∧ sOk b ∧ sOk t := by
      by_cases q : sOk a ∧ sOk b ∧ sOk t
      · exact q
      · rw [if_neg q] at hc; exact absurd rfl hc
    refine mv_aload_n B dX3_divisor_11 rfl (lv_at hl 0 rfl) ?_
    refine mv_iload_n B dX3_divisor_12 rfl (lv_at hl 1 rfl) ?_
    refine mv_iload_n B dX3_divisor_13 rfl (lv_at hl 2 rfl) ?_
    refine mw_callv hI hA (va_runV (As := [.int (iI (a)), .int (iI (b))]) (rest := []) B.fix (t_X3_common l D kA H.size f (a := a.toNat) (b := b.toNat) hm.self (by omega) (by omega) (by omega) (by omega) (by omega) (by omega)) (cwV 2 B.2.2.2.2.1 (gV kw_477 kw_479 ks_30 kw_4 kw_480) rfl rfl rfl (by decide +kernel) ⟨Nat.le_of_ble_eq_true rfl, Nat.le_of_ble_eq_true rfl⟩) ⟨mw_blind st_S.blind, mw_recv B hI (by obtain ⟨_, _, _, _, q, _⟩ := hm; exact q.1) rfl, mw_pre B hI (hSt.call hI hA)⟩ rfl rfl hl.1 rfl (lv_room (Nat.le_of_ble_eq_true rfl)) dX3_divisor_14 ⟨Nat.le_of_ble_eq_true rfl, Nat.le_of_ble_eq_true rfl⟩) (fun f H locs hp hI2 => ?_)
    clear hI
    have hI := hI2
    clear hI2
    obtain ⟨Z1, hp, v1, r1⟩ := hp
    have hm := hm.tr hp
    clear hp
    have hsl : ∀ i, i < 16 → Z1 i = Z i := fun i hi => (r1 i (by omega) (by omega)).trans (hsl i hi)
    have h24 : Z1 24 = 1000000 ^ 50 := (r1 24 (by omega) (by omega)).trans h24
    refine mv_aload_n B dX3_divisor_17 rfl (lv_at hl 0 rfl) ?_
    refine mv_iload_n B dX3_divisor_18 rfl (lv_at hl 3 rfl) ?_
    refine mv_bipush B dX3_divisor_19 (by decide) ?_
    refine mw_calli hI hA (va_runV (As := [.int (iI (t)), .int (iI (20))]) (rest := []) B.fix (t_X3_keep l D kA H.size f (x := t) (r := 20) hm.self (by omega) h24 h1.2.2 (by omega)) (cwV 2 B.2.2.2.2.1 (gV kw_422 kw_424 ks_24 kw_4 kw_425) rfl rfl rfl (by decide +kernel) ⟨Nat.le_of_ble_eq_true rfl, Nat.le_of_ble_eq_true rfl⟩) ⟨mw_blind st_S.blind, mw_recv B hI (by obtain ⟨_, _, _, _, q, _⟩ := hm; exact q.1) rfl, mw_pre B hI (hSt.call hI hA)⟩ rfl rfl hl.1 rfl (lv_room (Nat.le_of_ble_eq_true rfl)) dX3_divisor_21 ⟨Nat.le_of_ble_eq_true rfl, Nat.le_of_ble_eq_true rfl⟩) (fun r f H locs hp hI2 => ?_)
    clear hI
    have hI := hI2
    clear hI2
    obtain ⟨rfl, hp⟩ := hp
    have hm := hm.tr hp
    clear hp
    have e9 : sp_divisor Z a b t = kp Z t ((Int.gcd (Z a.toNat) (Z b.toNat) : Int)) := by unfold sp_divisor; rw [if_pos h1]
    have e7 : Z1 (20) = (Int.gcd (Z a.toNat) (Z b.toNat) : Int) := by exact v1
    have e8 := kp_same (Y := Z) (Y1 := Z1) (x := t) e7 hsl
    rw [← e9] at e8
    exact mw_iret B hQ hrt hI ⟨by rw [e8.1], _, hm, kp_24 h1.2.2 h24, e8.2⟩ dX3_divisor_24
  · have h1 : ¬ (sOk a ∧ sOk b ∧ sOk t) := fun q => by rw [if_pos q] at hc; exact absurd hc (by decide)
    have e9 : sp_divisor Z a b t = (-1, Z) := by unfold sp_divisor; rw [if_neg h1]
    refine mv_iconst B dX3_divisor_9 ?_
    exact mw_iret B hQ hrt hI ⟨by rw [e9], _, hm, h24, fun i hi => (hsl i hi).trans (congrFun (congrArg Prod.snd e9) i).symm⟩ dX3_divisor_10
abbrev rm_X3_order : Room := { frames := 3, cells := 0, slots := 0, locals := 67 }
set_option maxHeartbeats 4000000 in
set_option maxRecDepth 100000 in
/-- order -/
theorem t_X3_order (l : Launch) (D : va_G) (kA : Nat → ClassId) (sz : Nat) (f0 : mw_M) {o li si su di : Nat} {Z : Nat → Int}{a b : Int} (hm : MM kA f0 f0 o li si su di Z) (h24 : Z 24 = 1000000 ^ 50) (hB : ∀ i, i < 16 → ((Z i).natAbs : Int) < 1000000 ^ 50) (ha : -2147483648 ≤ a ∧ a ≤ 2147483647) (hb : -2147483648 ≤ b ∧ b ≤ 2147483647) : mw_Mi l yX3_order (Cond.code yX3_order cX3_order 3 ((some .int)) :: gw) rm_X3_order D vwCl (tyL kA) st_S [.ref o, .int (iI (a)), .int (iI (b))] f0 sz (fun v f => v = iI (sp_order Z a b) ∧ ∃ Z', MM kA f0 f o li si su di Z' ∧ Z' 24 = 1000000 ^ 50 ∧ ∀ i, i < 16 → Z' i = Z i) 0 0 := by
  refine mw_ofi (cc := cX3_order) (maxL := 3) (ret := (some .int)) (by decide) rfl (Nat.le_of_ble_eq_true rfl) ?_
  intro p e s m below meth c A ls Q hQ B hrt hnm hA hI hSt hl
  have hl : lv_has ls 3 [(0, .ref o), (1, .int (iI (a))), (2, .int (iI (b)))] := hl
  obtain ⟨f, hI, hm, hf⟩ : ∃ f, mw_I D vwCl A s s.heap [] f ∧ MM kA f0 f o li si su di Z ∧ f = f0 := ⟨f0, hI, hm, rfl⟩
  have hsl : ∀ i, i < 16 → Z i = Z i := fun _ _ => rfl
  have h240 := h24
  refine mv_iload_n B dX3_order_0 rfl (lv_at hl 1 rfl) ?_
  refine mw_calli hI hA (va_runS (As := [.int (iI (a))]) (rest := []) B.fix (t_X3_isSlot l D kA s.heap.size f ha) (cwS 1 B.2.2.2.2.1 (gS kw_399 kw_400 kw_4 kw_401) rfl rfl rfl (by decide +kernel) ⟨Nat.le_of_ble_eq_true rfl, Nat.le_of_ble_eq_true rfl⟩) ⟨mw_blind st_S.blind, mw_pre B hI (hSt.call hI hA)⟩ rfl rfl hl.1 rfl (lv_room (Nat.le_of_ble_eq_true rfl)) dX3_order_1 ⟨Nat.le_of_ble_eq_true rfl, Nat.le_of_ble_eq_true rfl⟩) (fun r f H locs hp hI2 => ?_)
  clear hI
  have hI := hI2
  clear hI2
  obtain ⟨rfl, rfl⟩ := hp
  refine mv_if_eq (tgt := 25) B dX3_order_4 (by decide) (by split <;> omega) (fun hc => ?_) (fun hc => ?_)
  · have h1 : ¬ (sOk a) := fun q => by rw [if_pos q] at hc; exact absurd hc (by decide)
    have e9 : sp_order Z a b = -1 := by unfold sp_order; rw [if_neg (fun q => h1 q.1)]
    refine mv_iconst B dX3_order_25 ?_
    exact mw_iret B hQ hrt hI ⟨by rw [e9], _, hm, h24, hsl⟩ dX3_order_26
  · have h1 : sOk a := by
      by_cases q : sOk a
      · exact q
      · rw [if_neg q] at hc; exact absurd rfl hc
    refine mv_iload_n B dX3_order_7 rfl (lv_at hl 2 rfl) ?_
    refine mw_calli hI hA (va_runS (As := [.int (iI (b))]) (rest := []) B.fix (t_X3_isSlot l D kA H.size f hb) (cwS 1 B.2.2.2.2.1 (gS kw_399 kw_400 kw_4 kw_401) rfl rfl rfl (by decide +kernel) ⟨Nat.le_of_ble_eq_true rfl, Nat.le_of_ble_eq_true rfl⟩) ⟨mw_blind st_S.blind, mw_pre B hI (hSt.call hI hA)⟩ rfl rfl hl.1 rfl (lv_room (Nat.le_of_ble_eq_true rfl)) dX3_order_8 ⟨Nat.le_of_ble_eq_true rfl, Nat.le_of_ble_eq_true rfl⟩) (fun r f H locs hp hI2 => ?_)
    clear hI
    have hI := hI2
    clear hI2
    obtain ⟨rfl, rfl⟩ := hp
    refine mv_if_eq (tgt := 25) B dX3_order_11 (by decide) (by split <;> omega) (fun hc2 => ?_) (fun hc2 => ?_)
    · have h2 : ¬ (sOk b) := fun q => by rw [if_pos q] at hc2; exact absurd hc2 (by decide)
      have e9 : sp_order Z a b = -1 := by unfold sp_order; rw [if_neg (fun q => h2 q.2)]
      refine mv_iconst B dX3_order_25 ?_
      exact mw_iret B hQ hrt hI ⟨by rw [e9], _, hm, h24, hsl⟩ dX3_order_26
    · have h2 : sOk b := by
        by_cases q : sOk b
        · exact q
        · rw [if_neg q] at hc2; exact absurd rfl hc2
      refine mv_iconst B dX3_order_14 ?_
      refine mv_aload_n B dX3_order_15 rfl (lv_at hl 0 rfl) ?_
      refine mv_iload_n B dX3_order_16 rfl (lv_at hl 1 rfl) ?_
      refine mv_iload_n B dX3_order_17 rfl (lv_at hl 2 rfl) ?_
      obtain ⟨L, S, G, U, hM, hL, hZ⟩ := id hm
      refine mw_calli hI hA (va_runV (As := [.int (iI (a)), .int (iI (b))]) (rest := [.int (iI (1))]) B.fix (t_X3_compare l D kA H.size f (a := a.toNat) (b := b.toNat) hM.self hL (by omega) (by omega) (by omega) (by omega) (hZ (a.toNat) (by omega)) (hZ (b.toNat) (by omega))) (cwV 2 B.2.2.2.2.1 (gV kw_513 kw_515 ks_34 kw_4 kw_516) rfl rfl rfl (by decide +kernel) ⟨Nat.le_of_ble_eq_true rfl, Nat.le_of_ble_eq_true rfl⟩) ⟨mw_blind st_S.blind, mw_recv B hI hM.1 rfl, mw_pre B hI (hSt.call hI hA)⟩ rfl rfl hl.1 rfl (lv_room (Nat.le_of_ble_eq_true rfl)) dX3_order_18 ⟨Nat.le_of_ble_eq_true rfl, Nat.le_of_ble_eq_true rfl⟩) (fun r f H locs hp hI2 => ?_)
      clear hI
      have hI := hI2
      clear hI2
      obtain ⟨rfl, rfl⟩ := hp
      refine mv_iadd B dX3_order_21 ?_
      refine mv_goto (tgt := 26) B dX3_order_22 (by decide) ?_
      have e9 : sp_order Z a b = 1 + c3 (Z a.toNat) (Z b.toNat) := by unfold sp_order; rw [if_pos ⟨h1, h2⟩]
      exact mw_iret B hQ hrt hI ⟨by rw [e9], _, hm, h24, hsl⟩ dX3_order_26
abbrev rm_X3_sign : Room := { frames := 1, cells := 0, slots := 0, locals := 20 }
set_option maxHeartbeats 4000000 in
set_option maxRecDepth 100000 in
/-- sign -/
theorem t_X3_sign (l : Launch) (D : va_G) (kA : Nat → ClassId) (sz : Nat) (f0 : mw_M) {o li si su di : Nat} {Z : Nat → Int}{a : Int} (hm : MM kA f0 f0 o li si su di Z) (h24 : Z 24 = 1000000 ^ 50) (hB : ∀ i, i < 16 → ((Z i).natAbs : Int) < 1000000 ^ 50) (ha : -2147483648 ≤ a ∧ a ≤ 2147483647) : mw_Mi l yX3_sign (Cond.code yX3_sign cX3_sign 2 ((some .int)) :: gw) rm_X3_sign D vwCl (tyL kA) st_S [.ref o, .int (iI (a))] f0 sz (fun v f => v = iI (sp_sign Z a) ∧ ∃ Z', MM kA f0 f o li si su di Z' ∧ Z' 24 = 1000000 ^ 50 ∧ ∀ i, i < 16 → Z' i = Z i) 0 0 := by
  refine mw_ofi (cc := cX3_sign) (maxL := 2) (ret := (some .int)) (by decide) rfl (Nat.le_of_ble_eq_true rfl) ?_
  intro p e s m below meth c A ls Q hQ B hrt hnm hA hI hSt hl
  have hl : lv_has ls 2 [(0, .ref o), (1, .int (iI (a)))] := hl
  obtain ⟨f, hI, hm, hf⟩ : ∃ f, mw_I D vwCl A s s.heap [] f ∧ MM kA f0 f o li si su di Z ∧ f = f0 := ⟨f0, hI, hm, rfl⟩
  have hsl : ∀ i, i < 16 → Z i = Z i := fun _ _ => rfl
  have h240 := h24
  refine mv_iload_n B dX3_sign_0 rfl (lv_at hl 1 rfl) ?_
  refine mw_calli hI hA (va_runS (As := [.int (iI (a))]) (rest := []) B.fix (t_X3_isSlot l D kA s.heap.size f ha) (cwS 1 B.2.2.2.2.1 (gS kw_399 kw_400 kw_4 kw_401) rfl rfl rfl (by decide +kernel) ⟨Nat.le_of_ble_eq_true rfl, Nat.le_of_ble_eq_true rfl⟩) ⟨mw_blind st_S.blind, mw_pre B hI (hSt.call hI hA)⟩ rfl rfl hl.1 rfl (lv_room (Nat.le_of_ble_eq_true rfl)) dX3_sign_1 ⟨Nat.le_of_ble_eq_true rfl, Nat.le_of_ble_eq_true rfl⟩) (fun r f H locs hp hI2 => ?_)
  clear hI
  have hI := hI2
  clear hI2
  obtain ⟨rfl, rfl⟩ := hp
  refine mv_if_eq (tgt := 18) B dX3_sign_4 (by decide) (by split <;> omega) (fun hc => ?_) (fun hc => ?_)
  · have h1 : ¬ (sOk a) := fun q => by rw [if_pos q] at hc; exact absurd hc (by decide)
    have e9 : sp_sign Z a = -1 := by unfold sp_sign; rw [if_neg h1]
    refine mv_iconst B dX3_sign_18 ?_
    exact mw_iret B hQ hrt hI ⟨by rw [e9], _, hm, h24, hsl⟩ dX3_sign_19
  · have h1 : sOk a := by
      by_cases q : sOk a
      · exact q
      · rw [if_neg q] at hc; exact absurd rfl hc
    obtain ⟨L, S, G, U, hM, hL, hZ⟩ := id hm
    refine mv_iconst B dX3_sign_7 ?_
    refine mv_aload_n B dX3_sign_8 rfl (lv_at hl 0 rfl) ?_
    refine mw_get (C := RX3) (T := TX3) (N := 4) B hI hM.1 uin_X3 rfl 1 (by decide) kw_382 rfl dX3_sign_9 ?_
    refine mv_iload_n B dX3_sign_12 rfl (lv_at hl 1 rfl) ?_
    refine mw_iald B hI 0 hM.2.2.1 rfl (a.toNat) (by omega) (by omega) (by decide) dX3_sign_13 ?_
    rw [(hZ (a.toNat) (by omega)).2]
    have sg_ := c3_sg (Z (a.toNat))
    refine mv_iadd B dX3_sign_14 ?_
    refine mv_goto (tgt := 19) B dX3_sign_15 (by decide) ?_
    have e9 : sp_sign Z a = 1 + c3 (Z a.toNat) 0 := by unfold sp_sign; rw [if_pos h1]
    exact mw_iret B hQ hrt hI ⟨by rw [e9], _, hm, h24, hsl⟩ dX3_sign_19
abbrev rm_X3_ratio : Room := { frames := 3, cells := 0, slots := 0, locals := 73 }
set_option maxHeartbeats 4000000 in
set_option maxRecDepth 100000 in
/-- ratio -/
theorem t_X3_ratio (l : Launch) (D : va_G) (kA : Nat → ClassId) (sz : Nat) (f0 : mw_M) {o li si su di : Nat} {Z : Nat → Int}{a b c_ e_ : Int} (hm : MM kA f0 f0 o li si su di Z) (h24 : Z 24 = 1000000 ^ 50) (hB : ∀ i, i < 16 → ((Z i).natAbs : Int) < 1000000 ^ 50) (ha : -2147483648 ≤ a ∧ a ≤ 2147483647) (hb : -2147483648 ≤ b ∧ b ≤ 2147483647) (hc_ : -2147483648 ≤ c_ ∧ c_ ≤ 2147483647) (he_ : -2147483648 ≤ e_ ∧ e_ ≤ 2147483647) : mw_Mi l yX3_ratio (Cond.code yX3_ratio cX3_ratio 5 ((some .int)) :: gw) rm_X3_ratio D vwCl (tyL kA) st_S [.ref o, .int (iI (a)), .int (iI (b)), .int (iI (c_)), .int (iI (e_))] f0 sz (fun v f => v = iI (sp_ratio Z a b c_ e_) ∧ ∃ Z', MM kA f0 f o li si su di Z' ∧ Z' 24 = 1000000 ^ 50 ∧ ∀ i, i < 16 → Z' i = Z i) 0 0 := by
  refine mw_ofi (cc := cX3_ratio) (maxL := 5) (ret := (some .int)) (by decide) rfl (Nat.le_of_ble_eq_true rfl) ?_
  intro p e s m below meth c A ls Q hQ B hrt hnm hA hI hSt hl
  have hl : lv_has ls 5 [(0, .ref o), (1, .int (iI (a))), (2, .int (iI (b))), (3, .int (iI (c_))), (4, .int (iI (e_)))] := hl
  obtain ⟨f, hI, hm, hf⟩ : ∃ f, mw_I D vwCl A s s.heap [] f ∧ MM kA f0 f o li si su di Z ∧ f = f0 := ⟨f0, hI, hm, rfl⟩
  have hsl : ∀ i, i < 16 → Z i = Z i := fun _ _ => rfl
  have h240 := h24
  refine mv_iload_n B dX3_ratio_0 rfl (lv_at hl 1 rfl) ?_
  refine mv_iload_n B dX3_ratio_1 rfl (lv_at hl 2 rfl) ?_
  refine mv_iload_n B dX3_ratio_2 rfl (lv_at hl 3 rfl) ?_
  refine mw_calli hI hA (va_runS (As := [.int (iI (a)), .int (iI (b)), .int (iI (c_))]) (rest := []) B.fix (t_X3_are l D kA s.heap.size f ha hb hc_) (cwS 3 B.2.2.2.2.1 (gS kw_442 kw_443 kw_4 kw_444) rfl rfl rfl (by decide +kernel) ⟨Nat.le_of_ble_eq_true rfl, Nat.le_of_ble_eq_true rfl⟩) ⟨mw_blind st_S.blind, mw_pre B hI (hSt.call hI hA)⟩ rfl rfl hl.1 rfl (lv_room (Nat.le_of_ble_eq_true rfl)) dX3_ratio_3 ⟨Nat.le_of_ble_eq_true rfl, Nat.le_of_ble_eq_true rfl⟩) (fun r f H locs hp hI2 => ?_)
  clear hI
  have hI := hI2
  clear hI2
  obtain ⟨rfl, rfl⟩ := hp
  refine mv_if_eq (tgt := 36) B dX3_ratio_6 (by decide) (by split <;> omega) (fun hc => ?_) (fun hc => ?_)
  · have h1 : ¬ (sOk a ∧ sOk b ∧ sOk c_) := fun q => by rw [if_pos q] at hc; exact absurd hc (by decide)
    have e9 : sp_ratio Z a b c_ e_ = -1 := by unfold sp_ratio; rw [if_neg (fun q => h1 ⟨q.1, q.2.1, q.2.2.1⟩)]
    refine mv_iconst B dX3_ratio_36 ?_
    exact mw_iret B hQ hrt hI ⟨by rw [e9], _, hm, h24, hsl⟩ dX3_ratio_37
  · have h1 : sOk a ∧ sOk b ∧ sOk c_ := by
      by_cases q : sOk a ∧ sOk b ∧ sOk c_
      · exact q
      · rw [if_neg q] at hc; exact absurd rfl hc
    refine mv_iload B dX3_ratio_9 (lv_at hl 4 rfl) ?_
    refine mw_calli hI hA (va_runS (As := [.int (iI (e_))]) (rest := []) B.fix (t_X3_isSlot l D kA H.size f he_) (cwS 1 B.2.2.2.2.1 (gS kw_399 kw_400 kw_4 kw_401) rfl rfl rfl (by decide +kernel) ⟨Nat.le_of_ble_eq_true rfl, Nat.le_of_ble_eq_true rfl⟩) ⟨mw_blind st_S.blind, mw_pre B hI (hSt.call hI hA)⟩ rfl rfl hl.1 rfl (lv_room (Nat.le_of_ble_eq_true rfl)) dX3_ratio_11 ⟨Nat.le_of_ble_eq_true rfl, Nat.le_of_ble_eq_true rfl⟩) (fun r f H locs hp hI2 => ?_)
    clear hI
    have hI := hI2
    clear hI2
    obtain ⟨rfl, rfl⟩ := hp
    refine mv_if_eq (tgt := 36) B dX3_ratio_14 (by decide) (by split <;> omega) (fun hc2 => ?_) (fun hc2 => ?_)
    · have h2 : ¬ (sOk e_) := fun q => by rw [if_pos q] at hc2; exact absurd hc2 (by decide)
      have e9 : sp_ratio Z a b c_ e_ = -1 := by unfold sp_ratio; rw [if_neg (fun q => h2 q.2.2.2.1)]
      refine mv_iconst B dX3_ratio_36 ?_
      exact mw_iret B hQ hrt hI ⟨by rw [e9], _, hm, h24, hsl⟩ dX3_ratio_37
    · have h2 : sOk e_ := by
        by_cases q : sOk e_
        · exact q
        · rw [if_neg q] at hc2; exact absurd rfl hc2
      refine mv_aload_n B dX3_ratio_17 rfl (lv_at hl 0 rfl) ?_
      obtain ⟨L, S, G, U, hM, hL, hZ⟩ := id hm
      refine mw_get (C := RX3) (T := TX3) (N := 4) B hI hM.1 uin_X3 rfl 1 (by decide) kw_382 rfl dX3_ratio_18 ?_
      refine mv_iload_n B dX3_ratio_21 rfl (lv_at hl 2 rfl) ?_
      refine mw_iald B hI 0 hM.2.2.1 rfl (b.toNat) (by omega) (by omega) (by decide) dX3_ratio_22 ?_
      rw [(hZ (b.toNat) (by omega)).2]
      have sg_ := c3_sg (Z (b.toNat))
      have sgb := sg_
      refine mv_if_eq (tgt := 36) B dX3_ratio_23 (by decide) (by omega) (fun hd4 => ?_) (fun hd4 => ?_)
      · have e9 : sp_ratio Z a b c_ e_ = -1 := by unfold sp_ratio; rw [if_neg (fun q => by omega)]
        refine mv_iconst B dX3_ratio_36 ?_
        exact mw_iret B hQ hrt hI ⟨by rw [e9], _, hm, h24, hsl⟩ dX3_ratio_37
      · have hnb : Z b.toNat ≠ 0 := by omega
        refine mv_aload_n B dX3_ratio_26 rfl (lv_at hl 0 rfl) ?_
        refine mw_get (C := RX3) (T := TX3) (N := 4) B hI hM.1 uin_X3 rfl 1 (by decide) kw_382 rfl dX3_ratio_27 ?_
        refine mv_iload B dX3_ratio_30 (lv_at hl 4 rfl) ?_
        refine mw_iald B hI 0 hM.2.2.1 rfl (e_.toNat) (by omega) (by omega) (by decide) dX3_ratio_32 ?_
        rw [(hZ (e_.toNat) (by omega)).2]
        have sg_ := c3_sg (Z (e_.toNat))
        refine mv_if_ne (tgt := 38) B dX3_ratio_33 (by decide) (by omega) (fun hd5 => ?_) (fun hd5 => ?_)
        · have hne : Z e_.toNat ≠ 0 := by omega
          refine mv_aload_n B dX3_ratio_38 rfl (lv_at hl 0 rfl) ?_
          refine mv_bipush B dX3_ratio_39 (by decide) ?_
          refine mv_iload_n B dX3_ratio_41 rfl (lv_at hl 1 rfl) ?_
          refine mv_iload B dX3_ratio_42 (lv_at hl 4 rfl) ?_
          obtain ⟨L, S, G, U, hM, hL, hZ⟩ := id hm
          have em : mg L (a.toNat) * mg L (e_.toNat) = ((Z (a.toNat) * Z (e_.toNat)).natAbs : Int) := by rw [(hZ (a.toNat) (by omega)).1, (hZ (e_.toNat) (by omega)).1, abs_mul2]
          have hbd : mg L (a.toNat) * mg L (e_.toNat) < 65536 ^ 140 := by rw [em]; exact (mul140 (by rw [hsl _ (by omega)]; exact hB _ (by omega)) (by rw [hsl _ (by omega)]; exact hB _ (by omega)))
          refine mw_callv hI hA (va_runV (As := [.int (iI (16)), .int (iI (a)), .int (iI (e_))]) (rest := []) B.fix (t_X3_multiply l D kA H.size f (t := 16) (a := a.toNat) (b := e_.toNat) hM.self hL (by omega) (by omega) (by omega) (by omega) (by omega) (by omega) hbd) (cwV 3 B.2.2.2.2.1 (gV kw_376 kw_378 ks_19 kw_4 kw_379) rfl rfl rfl (by decide +kernel) ⟨Nat.le_of_ble_eq_true rfl, Nat.le_of_ble_eq_true rfl⟩) ⟨mw_blind st_S.blind, mw_recv B hI hM.1 rfl, mw_pre B hI (hSt.call hI hA)⟩ rfl rfl hl.1 rfl (lv_room (Nat.le_of_ble_eq_true rfl)) dX3_ratio_44 ⟨Nat.le_of_ble_eq_true rfl, Nat.le_of_ble_eq_true rfl⟩) (fun f H locs hp hI2 => ?_)
          clear hI
          have hI := hI2
          clear hI2
          obtain ⟨L1, U1, hM1, hL1, ro1, hv1⟩ := hp
          obtain ⟨Z1, hZ1, hm⟩ : ∃ Z', Z' = upI Z (16) (Z (a.toNat) * Z (e_.toNat)) ∧ MM kA f0 f o li si su di Z' := ⟨_, rfl, MM.u hZ (hM.tr hM1) hL1 ro1 (hv1.trans em) (by rw [(hZ (a.toNat) (by omega)).1, (hZ (e_.toNat) (by omega)).1, (hZ (a.toNat) (by omega)).2, (hZ (e_.toNat) (by omega)).2]; exact c3_mul _ _)⟩
          have v1 : Z1 (16) = Z (a.toNat) * Z (e_.toNat) := by rw [hZ1, upI_self]
          have r1 : ∀ i, i ≠ 16 → Z1 i = Z i := fun i hi => by rw [hZ1, upI_ne _ _ hi]
          have hsl : ∀ i, i < 16 → Z1 i = Z i := fun i hi => (r1 i (by omega)).trans (hsl i hi)
          have h24 : Z1 24 = 1000000 ^ 50 := (r1 24 (by omega)).trans h24
          refine mv_aload_n B dX3_ratio_47 rfl (lv_at hl 0 rfl) ?_
          refine mv_bipush B dX3_ratio_48 (by decide) ?_
          refine mv_iload_n B dX3_ratio_50 rfl (lv_at hl 3 rfl) ?_
          refine mv_iload_n B dX3_ratio_51 rfl (lv_at hl 2 rfl) ?_
          obtain ⟨L, S, G, U, hM, hL, hZ⟩ := id hm
          have em : mg L (c_.toNat) * mg L (b.toNat) = ((Z1 (c_.toNat) * Z1 (b.toNat)).natAbs : Int) := by rw [(hZ (c_.toNat) (by omega)).1, (hZ (b.toNat) (by omega)).1, abs_mul2]
          have hbd : mg L (c_.toNat) * mg L (b.toNat) < 65536 ^ 140 := by rw [em]; exact (mul140 (by rw [hsl _ (by omega)]; exact hB _ (by omega)) (by rw [hsl _ (by omega)]; exact hB _ (by omega)))
          refine mw_callv hI hA (va_runV (As := [.int (iI (17)), .int (iI (c_)), .int (iI (b))]) (rest := []) B.fix (t_X3_multiply l D kA H.size f (t := 17) (a := c_.toNat) (b := b.toNat) hM.self hL (by omega) (by omega) (by omega) (by omega) (by omega) (by omega) hbd) (cwV 3 B.2.2.2.2.1 (gV kw_376 kw_378 ks_19 kw_4 kw_379) rfl rfl rfl (by decide +kernel) ⟨Nat.le_of_ble_eq_true rfl, Nat.le_of_ble_eq_true rfl⟩) ⟨mw_blind st_S.blind, mw_recv B hI hM.1 rfl, mw_pre B hI (hSt.call hI hA)⟩ rfl rfl hl.1 rfl (lv_room (Nat.le_of_ble_eq_true rfl)) dX3_ratio_52 ⟨Nat.le_of_ble_eq_true rfl, Nat.le_of_ble_eq_true rfl⟩) (fun f H locs hp hI2 => ?_)
          clear hI
          have hI := hI2
          clear hI2
          obtain ⟨L1, U1, hM1, hL1, ro1, hv1⟩ := hp
          obtain ⟨Z2, hZ2, hm⟩ : ∃ Z', Z' = upI Z1 (17) (Z1 (c_.toNat) * Z1 (b.toNat)) ∧ MM kA f0 f o li si su di Z' := ⟨_, rfl, MM.u hZ (hM.tr hM1) hL1 ro1 (hv1.trans em) (by rw [(hZ (c_.toNat) (by omega)).1, (hZ (b.toNat) (by omega)).1, (hZ (c_.toNat) (by omega)).2, (hZ (b.toNat) (by omega)).2]; exact c3_mul _ _)⟩
          have v2 : Z2 (17) = Z1 (c_.toNat) * Z1 (b.toNat) := by rw [hZ2, upI_self]
          have r2 : ∀ i, i ≠ 17 → Z2 i = Z1 i := fun i hi => by rw [hZ2, upI_ne _ _ hi]
          have hsl : ∀ i, i < 16 → Z2 i = Z i := fun i hi => (r2 i (by omega)).trans (hsl i hi)
          have h24 : Z2 24 = 1000000 ^ 50 := (r2 24 (by omega)).trans h24
          refine mv_iconst B dX3_ratio_55 ?_
          refine mv_aload_n B dX3_ratio_56 rfl (lv_at hl 0 rfl) ?_
          refine mv_bipush B dX3_ratio_57 (by decide) ?_
          refine mv_bipush B dX3_ratio_59 (by decide) ?_
          have w1 : Z2 16 = Z a.toNat * Z e_.toNat := by rw [r2 16 (by decide), v1]
          have w2 : Z2 17 = Z c_.toNat * Z b.toNat := by rw [v2, r1 _ (by omega), r1 _ (by omega)]
          obtain ⟨L, S, G, U, hM, hL, hZ⟩ := id hm
          refine mw_calli hI hA (va_runV (As := [.int (iI (16)), .int (iI (17))]) (rest := [.int (iI (1))]) B.fix (t_X3_compare l D kA H.size f (a := 16) (b := 17) hM.self hL (by omega) (by omega) (by omega) (by omega) (hZ (16) (by omega)) (hZ (17) (by omega))) (cwV 2 B.2.2.2.2.1 (gV kw_513 kw_515 ks_34 kw_4 kw_516) rfl rfl rfl (by decide +kernel) ⟨Nat.le_of_ble_eq_true rfl, Nat.le_of_ble_eq_true rfl⟩) ⟨mw_blind st_S.blind, mw_recv B hI hM.1 rfl, mw_pre B hI (hSt.call hI hA)⟩ rfl rfl hl.1 rfl (lv_room (Nat.le_of_ble_eq_true rfl)) dX3_ratio_61 ⟨Nat.le_of_ble_eq_true rfl, Nat.le_of_ble_eq_true rfl⟩) (fun r f H locs hp hI2 => ?_)
          clear hI
          have hI := hI2
          clear hI2
          obtain ⟨rfl, rfl⟩ := hp
          rw [w1, w2]
          refine mv_aload_n B dX3_ratio_64 rfl (lv_at hl 0 rfl) ?_
          refine mw_get (C := RX3) (T := TX3) (N := 4) B hI hM.1 uin_X3 rfl 1 (by decide) kw_382 rfl dX3_ratio_65 ?_
          refine mv_iload_n B dX3_ratio_68 rfl (lv_at hl 2 rfl) ?_
          refine mw_iald B hI 0 hM.2.2.1 rfl (b.toNat) (by omega) (by omega) (by decide) dX3_ratio_69 ?_
          rw [(hZ (b.toNat) (by omega)).2]
          have sg_ := c3_sg (Z2 (b.toNat))
          refine mv_imul B dX3_ratio_70 ?_
          refine mv_aload_n B dX3_ratio_71 rfl (lv_at hl 0 rfl) ?_
          refine mw_get (C := RX3) (T := TX3) (N := 4) B hI hM.1 uin_X3 rfl 1 (by decide) kw_382 rfl dX3_ratio_72 ?_
          refine mv_iload B dX3_ratio_75 (lv_at hl 4 rfl) ?_
          refine mw_iald B hI 0 hM.2.2.1 rfl (e_.toNat) (by omega) (by omega) (by decide) dX3_ratio_77 ?_
          rw [(hZ (e_.toNat) (by omega)).2]
          have sg_ := c3_sg (Z2 (e_.toNat))
          refine mv_imul B dX3_ratio_78 ?_
          refine mv_iadd B dX3_ratio_79 ?_
          have e9 := rt_sg (x := Z a.toNat * Z e_.toNat) (y := Z c_.toNat * Z b.toNat) hnb hne
          have e10 : sp_ratio Z a b c_ e_ = 1 + c3 (Z a.toNat * Z e_.toNat) (Z c_.toNat * Z b.toNat) * c3 (Z b.toNat) 0 * c3 (Z e_.toNat) 0 := by unfold sp_ratio; rw [if_pos ⟨h1.1, h1.2.1, h1.2.2, h2, hnb, hne⟩, e9]
          exact mw_iret B hQ hrt hI ⟨by rw [e10, hsl _ (by omega), hsl _ (by omega)], _, hm, h24, hsl⟩ dX3_ratio_80
        · have e9 : sp_ratio Z a b c_ e_ = -1 := by unfold sp_ratio; rw [if_neg (fun q => by omega)]
          refine mv_iconst B dX3_ratio_36 ?_
          exact mw_iret B hQ hrt hI ⟨by rw [e9], _, hm, h24, hsl⟩ dX3_ratio_37
