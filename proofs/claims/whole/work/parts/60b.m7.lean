abbrev rm_X3_keepFraction : Room := { frames := 4, cells := 0, slots := 0, locals := 96 }
set_option maxHeartbeats 4000000 in
set_option maxRecDepth 100000 in
/-- keepFraction -/
theorem t_X3_keepFraction (l : Launch) (D : va_G) (kA : Nat → ClassId) (sz : Nat) (f0 : mw_M) {o li si su di : Nat} {Z : Nat → Int}{a b : Int} (hm : MM kA f0 f0 o li si su di Z) (h24 : Z 24 = 1000000 ^ 50) (hB : ∀ i, i < 16 → ((Z i).natAbs : Int) < 1000000 ^ 50) (h1 : sOk a) (h2 : sOk b) (hne : a ≠ b) (hq : Z 23 ≠ 0) : mw_Mi l yX3_keepFraction (Cond.code yX3_keepFraction cX3_keepFraction 4 ((some .int)) :: gw) rm_X3_keepFraction D vwCl (tyL kA) st_S [.ref o, .int (iI (a)), .int (iI (b))] f0 sz (fun v f => v = iI (kp2 Z a b (Z 22) (Z 23)).1 ∧ ∃ Z', MM kA f0 f o li si su di Z' ∧ Z' 24 = 1000000 ^ 50 ∧ ∀ i, i < 16 → Z' i = (kp2 Z a b (Z 22) (Z 23)).2 i) 0 0 := by
  refine mw_ofi (cc := cX3_keepFraction) (maxL := 4) (ret := (some .int)) (by decide) rfl (Nat.le_of_ble_eq_true rfl) ?_
  intro p e s m below meth c A ls Q hQ B hrt hnm hA hI hSt hl
  have hl : lv_has ls 4 [(0, .ref o), (1, .int (iI (a))), (2, .int (iI (b)))] := hl
  obtain ⟨f, hI, hm, hf⟩ : ∃ f, mw_I D vwCl A s s.heap [] f ∧ MM kA f0 f o li si su di Z ∧ f = f0 := ⟨f0, hI, hm, rfl⟩
  have hsl : ∀ i, i < 16 → Z i = Z i := fun _ _ => rfl
  have h240 := h24
  have hg : 0 < (Int.gcd (Z 22) (Z 23) : Int) := by have := Int.gcd_pos_of_ne_zero_right (Z 22) hq; omega
  have LN := lwN_in (p := Z 22) hq
  have LD := lwD_in (p := Z 22) (q := Z 23)
  generalize hgg : (Int.gcd (Z 22) (Z 23) : Int) = g at hg LN LD
  refine mv_aload_n B dX3_keepFraction_0 rfl (lv_at hl 0 rfl) ?_
  refine mv_bipush B dX3_keepFraction_1 (by decide) ?_
  refine mv_bipush B dX3_keepFraction_3 (by decide) ?_
  refine mw_callv hI hA (va_runV (As := [.int (iI (22)), .int (iI (23))]) (rest := []) B.fix (t_X3_common l D kA s.heap.size f (a := 22) (b := 23) hm.self (by omega) (by omega) (by omega) (by omega) (by omega) (by omega)) (cwV 2 B.2.2.2.2.1 (gV kw_477 kw_479 ks_30 kw_4 kw_480) rfl rfl rfl (by decide +kernel) ⟨Nat.le_of_ble_eq_true rfl, Nat.le_of_ble_eq_true rfl⟩) ⟨mw_blind st_S.blind, mw_recv B hI (by obtain ⟨_, _, _, _, q, _⟩ := hm; exact q.1) rfl, mw_pre B hI (hSt.call hI hA)⟩ rfl rfl hl.1 rfl (lv_room (Nat.le_of_ble_eq_true rfl)) dX3_keepFraction_5 ⟨Nat.le_of_ble_eq_true rfl, Nat.le_of_ble_eq_true rfl⟩) (fun f H locs hp hI2 => ?_)
  clear hI
  have hI := hI2
  clear hI2
  obtain ⟨Z1, hp, v1, r1⟩ := hp
  have hm := hm.tr hp
  clear hp
  have hsl : ∀ i, i < 16 → Z1 i = Z i := fun i hi => (r1 i (by omega) (by omega)).trans (hsl i hi)
  have h24 : Z1 24 = 1000000 ^ 50 := (r1 24 (by omega) (by omega)).trans h24
  rw [hgg] at v1
  refine mv_aload_n B dX3_keepFraction_8 rfl (lv_at hl 0 rfl) ?_
  refine mv_bipush B dX3_keepFraction_9 (by decide) ?_
  refine mv_bipush B dX3_keepFraction_11 (by decide) ?_
  obtain ⟨L, S, G, U, hM, hL, hZ⟩ := id hm
  refine mw_callv hI hA (va_runV (As := [.int (iI (16)), .int (iI (20))]) (rest := []) B.fix (t_X3_move l D kA H.size f (t := 16) (a := 20) hM.self hL (by omega) (by omega) (by omega) (by omega)) (cwV 2 B.2.2.2.2.1 (gV kw_430 kw_432 ks_26 kw_4 kw_433) rfl rfl rfl (by decide +kernel) ⟨Nat.le_of_ble_eq_true rfl, Nat.le_of_ble_eq_true rfl⟩) ⟨mw_blind st_S.blind, mw_recv B hI hM.1 rfl, mw_pre B hI (hSt.call hI hA)⟩ rfl rfl hl.1 rfl (lv_room (Nat.le_of_ble_eq_true rfl)) dX3_keepFraction_13 ⟨Nat.le_of_ble_eq_true rfl, Nat.le_of_ble_eq_true rfl⟩) (fun f H locs hp hI2 => ?_)
  clear hI
  have hI := hI2
  clear hI2
  obtain ⟨L1, hM1, hL1, ro1, hv1⟩ := hp
  obtain ⟨Z2, hZ2, hm⟩ : ∃ Z', Z' = upI Z1 (16) (Z1 (20)) ∧ MM kA f0 f o li si su di Z' := ⟨_, rfl, MM.u hZ (hM.tr hM1) hL1 ro1 (hv1.trans (hZ (20) (by omega)).1) (hZ (20) (by omega)).2⟩
  have v2 : Z2 (16) = Z1 (20) := by rw [hZ2, upI_self]
  have r2 : ∀ i, i ≠ 16 → Z2 i = Z1 i := fun i hi => by rw [hZ2, upI_ne _ _ hi]
  have hsl : ∀ i, i < 16 → Z2 i = Z i := fun i hi => (r2 i (by omega)).trans (hsl i hi)
  have h24 : Z2 24 = 1000000 ^ 50 := (r2 24 (by omega)).trans h24
  refine mv_aload_n B dX3_keepFraction_16 rfl (lv_at hl 0 rfl) ?_
  refine mv_bipush B dX3_keepFraction_17 (by decide) ?_
  refine mv_bipush B dX3_keepFraction_19 (by decide) ?_
  have a16 : Z2 16 = g := v2.trans v1
  refine mw_callv hI hA (va_runV (As := [.int (iI (22)), .int (iI (16))]) (rest := []) B.fix (t_X3_divide l D kA H.size f (a := 22) (b := 16) hm.self (by omega) (by omega) (by omega) (by omega) (by omega) (by omega) (by omega)) (cwV 2 B.2.2.2.2.1 (gV kw_457 kw_459 ks_27 kw_4 kw_460) rfl rfl rfl (by decide +kernel) ⟨Nat.le_of_ble_eq_true rfl, Nat.le_of_ble_eq_true rfl⟩) ⟨mw_blind st_S.blind, mw_recv B hI (by obtain ⟨_, _, _, _, q, _⟩ := hm; exact q.1) rfl, mw_pre B hI (hSt.call hI hA)⟩ rfl rfl hl.1 rfl (lv_room (Nat.le_of_ble_eq_true rfl)) dX3_keepFraction_21 ⟨Nat.le_of_ble_eq_true rfl, Nat.le_of_ble_eq_true rfl⟩) (fun f H locs hp hI2 => ?_)
  clear hI
  have hI := hI2
  clear hI2
  obtain ⟨Z3, hZ3, hm⟩ : ∃ Z', Z' = upI (upI Z2 18 ((Z2 (22)).tdiv (Z2 (16)))) 19 ((Z2 (22)).tmod (Z2 (16))) ∧ MM kA f0 f o li si su di Z' := ⟨_, rfl, hm.tr hp⟩
  have v3 : Z3 18 = (Z2 (22)).tdiv (Z2 (16)) := by rw [hZ3, upI_ne _ _ (by decide), upI_self]
  have u3 : Z3 19 = (Z2 (22)).tmod (Z2 (16)) := by rw [hZ3, upI_self]
  have r3 : ∀ i, i ≠ 18 → i ≠ 19 → Z3 i = Z2 i := fun i h1 h2 => by rw [hZ3, upI_ne _ _ h2, upI_ne _ _ h1]
  have hsl : ∀ i, i < 16 → Z3 i = Z i := fun i hi => (r3 i (by omega) (by omega)).trans (hsl i hi)
  have h24 : Z3 24 = 1000000 ^ 50 := (r3 24 (by omega) (by omega)).trans h24
  have a22 : Z3 22 = Z 22 := by rw [r3 22 (by decide) (by decide), r2 22 (by decide), r1 22 (by decide) (by decide)]
  have a23 : Z3 23 = Z 23 := by rw [r3 23 (by decide) (by decide), r2 23 (by decide), r1 23 (by decide) (by decide)]
  have a18 : Z3 18 = (Z 22).tdiv g := by rw [v3, a16, r2 22 (by decide), r1 22 (by decide) (by decide)]
  obtain ⟨L, S, G, U, hM, hL, hZ⟩ := id hm
  refine mv_aload_n B dX3_keepFraction_24 rfl (lv_at hl 0 rfl) ?_
  refine mw_get (C := RX3) (T := TX3) (N := 4) B hI hM.1 uin_X3 rfl 1 (by decide) kw_382 rfl dX3_keepFraction_25 ?_
  refine mv_bipush B dX3_keepFraction_28 (by decide) ?_
  refine mw_iald B hI 0 hM.2.2.1 rfl (22) (by omega) (by omega) (by decide) dX3_keepFraction_30 ?_
  rw [(hZ (22) (by omega)).2]
  have sg_ := c3_sg (Z3 (22))
  refine mv_aload_n B dX3_keepFraction_31 rfl (lv_at hl 0 rfl) ?_
  refine mw_get (C := RX3) (T := TX3) (N := 4) B hI hM.1 uin_X3 rfl 1 (by decide) kw_382 rfl dX3_keepFraction_32 ?_
  refine mv_bipush B dX3_keepFraction_35 (by decide) ?_
  refine mw_iald B hI 0 hM.2.2.1 rfl (23) (by omega) (by omega) (by decide) dX3_keepFraction_37 ?_
  rw [(hZ (23) (by omega)).2]
  have sg_ := c3_sg (Z3 (23))
  refine mv_imul B dX3_keepFraction_38 ?_
  refine mv_nmi (fun sg hsg => ?_)
  rw [a22, a23, LN.2] at hsg
  refine mv_istore_n (lv' := [(3, .int (iI (sg))), (0, .ref o), (1, .int (iI (a))), (2, .int (iI (b)))]) B dX3_keepFraction_39 rfl hl (by decide) rfl (fun ls hl => ?_)
  refine mv_aload_n B dX3_keepFraction_40 rfl (lv_at hl 1 rfl) ?_
  refine mv_bipush B dX3_keepFraction_41 (by decide) ?_
  refine mv_bipush B dX3_keepFraction_43 (by decide) ?_
  obtain ⟨L, S, G, U, hM, hL, hZ⟩ := id hm
  refine mw_callv hI hA (va_runV (As := [.int (iI (17)), .int (iI (18))]) (rest := []) B.fix (t_X3_move l D kA H.size f (t := 17) (a := 18) hM.self hL (by omega) (by omega) (by omega) (by omega)) (cwV 2 B.2.2.2.2.1 (gV kw_430 kw_432 ks_26 kw_4 kw_433) rfl rfl rfl (by decide +kernel) ⟨Nat.le_of_ble_eq_true rfl, Nat.le_of_ble_eq_true rfl⟩) ⟨mw_blind st_S.blind, mw_recv B hI hM.1 rfl, mw_pre B hI (hSt.call hI hA)⟩ rfl rfl hl.1 rfl (lv_room (Nat.le_of_ble_eq_true rfl)) dX3_keepFraction_45 ⟨Nat.le_of_ble_eq_true rfl, Nat.le_of_ble_eq_true rfl⟩) (fun f H locs hp hI2 => ?_)
  clear hI
  have hI := hI2
  clear hI2
  obtain ⟨L1, hM1, hL1, ro1, hv1⟩ := hp
  obtain ⟨Z4, hZ4, hm⟩ : ∃ Z', Z' = upI Z3 (17) (Z3 (18)) ∧ MM kA f0 f o li si su di Z' := ⟨_, rfl, MM.u hZ (hM.tr hM1) hL1 ro1 (hv1.trans (hZ (18) (by omega)).1) (hZ (18) (by omega)).2⟩
  have v4 : Z4 (17) = Z3 (18) := by rw [hZ4, upI_self]
  have r4 : ∀ i, i ≠ 17 → Z4 i = Z3 i := fun i hi => by rw [hZ4, upI_ne _ _ hi]
  have hsl : ∀ i, i < 16 → Z4 i = Z i := fun i hi => (r4 i (by omega)).trans (hsl i hi)
  have h24 : Z4 24 = 1000000 ^ 50 := (r4 24 (by omega)).trans h24
  rw [a18] at v4
  refine mv_aload_n B dX3_keepFraction_48 rfl (lv_at hl 1 rfl) ?_
  obtain ⟨L, S, G, U, hM, hL, hZ⟩ := id hm
  refine mw_get (C := RX3) (T := TX3) (N := 4) B hI hM.1 uin_X3 rfl 1 (by decide) kw_382 rfl dX3_keepFraction_49 ?_
  refine mv_bipush B dX3_keepFraction_52 (by decide) ?_
  refine mv_iload_n B dX3_keepFraction_54 rfl (lv_at hl 0 rfl) ?_
  have k17 := hZ 17 (by decide)
  unfold hz at k17
  rw [v4] at k17
  refine md_S B hI hM (17) (by omega) (by omega) dX3_keepFraction_55 (fun f H locs hM hI => ?_)
  obtain ⟨Z5, hZ5, hm⟩ : ∃ Z', Z' = upI Z4 (17) (lwN (Z 22) (Z 23)) ∧ MM kA f0 f o li si su di Z' := ⟨_, rfl, MM.of hZ hM hL (fun _ _ _ => rfl) (fun _ _ h => upI_ne _ _ h) (k17.1.trans LN.1.symm) (by rw [upI_self]; exact hsg)⟩
  have v5 : Z5 (17) = lwN (Z 22) (Z 23) := by rw [hZ5, upI_self]
  have r5 : ∀ i, i ≠ 17 → Z5 i = Z4 i := fun i hi => by rw [hZ5, upI_ne _ _ hi]
  have hsl : ∀ i, i < 16 → Z5 i = Z i := fun i hi => (r5 i (by omega)).trans (hsl i hi)
  have h24 : Z5 24 = 1000000 ^ 50 := (r5 24 (by omega)).trans h24
  refine mv_aload_n B dX3_keepFraction_56 rfl (lv_at hl 1 rfl) ?_
  refine mv_bipush B dX3_keepFraction_57 (by decide) ?_
  refine mv_bipush B dX3_keepFraction_59 (by decide) ?_
  have b23 : Z5 23 = Z 23 := by rw [r5 23 (by decide), r4 23 (by decide), a23]
  have b16 : Z5 16 = g := by rw [r5 16 (by decide), r4 16 (by decide), r3 16 (by decide) (by decide), a16]
  refine mw_callv hI hA (va_runV (As := [.int (iI (23)), .int (iI (16))]) (rest := []) B.fix (t_X3_divide l D kA H.size f (a := 23) (b := 16) hm.self (by omega) (by omega) (by omega) (by omega) (by omega) (by omega) (by omega)) (cwV 2 B.2.2.2.2.1 (gV kw_457 kw_459 ks_27 kw_4 kw_460) rfl rfl rfl (by decide +kernel) ⟨Nat.le_of_ble_eq_true rfl, Nat.le_of_ble_eq_true rfl⟩) ⟨mw_blind st_S.blind, mw_recv B hI (by obtain ⟨_, _, _, _, q, _⟩ := hm; exact q.1) rfl, mw_pre B hI (hSt.call hI hA)⟩ rfl rfl hl.1 rfl (lv_room (Nat.le_of_ble_eq_true rfl)) dX3_keepFraction_61 ⟨Nat.le_of_ble_eq_true rfl, Nat.le_of_ble_eq_true rfl⟩) (fun f H locs hp hI2 => ?_)
  clear hI
  have hI := hI2
  clear hI2
  obtain ⟨Z6, hZ6, hm⟩ : ∃ Z', Z' = upI (upI Z5 18 ((Z5 (23)).tdiv (Z5 (16)))) 19 ((Z5 (23)).tmod (Z5 (16))) ∧ MM kA f0 f o li si su di Z' := ⟨_, rfl, hm.tr hp⟩
  have v6 : Z6 18 = (Z5 (23)).tdiv (Z5 (16)) := by rw [hZ6, upI_ne _ _ (by decide), upI_self]
  have u6 : Z6 19 = (Z5 (23)).tmod (Z5 (16)) := by rw [hZ6, upI_self]
  have r6 : ∀ i, i ≠ 18 → i ≠ 19 → Z6 i = Z5 i := fun i h1 h2 => by rw [hZ6, upI_ne _ _ h2, upI_ne _ _ h1]
  have hsl : ∀ i, i < 16 → Z6 i = Z i := fun i hi => (r6 i (by omega) (by omega)).trans (hsl i hi)
  have h24 : Z6 24 = 1000000 ^ 50 := (r6 24 (by omega) (by omega)).trans h24
  refine mv_aload_n B dX3_keepFraction_64 rfl (lv_at hl 1 rfl) ?_
  refine mv_bipush B dX3_keepFraction_65 (by decide) ?_
  refine mv_bipush B dX3_keepFraction_67 (by decide) ?_
  refine mw_callv hI hA (va_runV (As := [.int (iI (16)), .int (iI (18))]) (rest := []) B.fix (t_X3_size l D kA H.size f (t := 16) (a := 18) hm.self (by omega) (by omega) (by omega) (by omega)) (cwV 2 B.2.2.2.2.1 (gV kw_481 kw_483 ks_31 kw_4 kw_484) rfl rfl rfl (by decide +kernel) ⟨Nat.le_of_ble_eq_true rfl, Nat.le_of_ble_eq_true rfl⟩) ⟨mw_blind st_S.blind, mw_recv B hI (by obtain ⟨_, _, _, _, q, _⟩ := hm; exact q.1) rfl, mw_pre B hI (hSt.call hI hA)⟩ rfl rfl hl.1 rfl (lv_room (Nat.le_of_ble_eq_true rfl)) dX3_keepFraction_69 ⟨Nat.le_of_ble_eq_true rfl, Nat.le_of_ble_eq_true rfl⟩) (fun f H locs hp hI2 => ?_)
  clear hI
  have hI := hI2
  clear hI2
  obtain ⟨Z7, hZ7, hm⟩ : ∃ Z', Z' = upI Z6 (16) (((Z6 (18)).natAbs : Int)) ∧ MM kA f0 f o li si su di Z' := ⟨_, rfl, hm.tr hp⟩
  have v7 : Z7 (16) = ((Z6 (18)).natAbs : Int) := by rw [hZ7, upI_self]
  have r7 : ∀ i, i ≠ 16 → Z7 i = Z6 i := fun i hi => by rw [hZ7, upI_ne _ _ hi]
  have hsl : ∀ i, i < 16 → Z7 i = Z i := fun i hi => (r7 i (by omega)).trans (hsl i hi)
  have h24 : Z7 24 = 1000000 ^ 50 := (r7 24 (by omega)).trans h24
  have c16 : Z7 16 = lwD (Z 22) (Z 23) := by rw [v7, v6, b23, b16]; exact LD
  have c17 : Z7 17 = lwN (Z 22) (Z 23) := by rw [r7 17 (by decide), r6 17 (by decide) (by decide), v5]
  refine mv_aload_n B dX3_keepFraction_72 rfl (lv_at hl 1 rfl) ?_
  refine mv_bipush B dX3_keepFraction_73 (by decide) ?_
  refine mw_calli hI hA (va_runV (As := [.int (iI (16))]) (rest := []) B.fix (t_X3_isLong l D kA H.size f (r := 16) hm.self (by omega) h24 (by omega)) (cwV 1 B.2.2.2.2.1 (gV kw_426 kw_428 ks_25 kw_4 kw_429) rfl rfl rfl (by decide +kernel) ⟨Nat.le_of_ble_eq_true rfl, Nat.le_of_ble_eq_true rfl⟩) ⟨mw_blind st_S.blind, mw_recv B hI (by obtain ⟨_, _, _, _, q, _⟩ := hm; exact q.1) rfl, mw_pre B hI (hSt.call hI hA)⟩ rfl rfl hl.1 rfl (lv_room (Nat.le_of_ble_eq_true rfl)) dX3_keepFraction_75 ⟨Nat.le_of_ble_eq_true rfl, Nat.le_of_ble_eq_true rfl⟩) (fun r f H locs hp hI2 => ?_)
  clear hI
  have hI := hI2
  clear hI2
  obtain ⟨rfl, rfl⟩ := hp
  refine mv_if_ne (tgt := 90) B dX3_keepFraction_78 (by decide) (by split <;> omega) (fun hd1 => ?_) (fun hd1 => ?_)
  · have Lo1 : ¬ ((Z7 (16)).natAbs : Int) < 1000000 ^ 50 := fun q => by rw [if_pos q] at hd1; exact hd1 rfl
    rw [c16] at Lo1
    have e9 : kp2 Z a b (Z 22) (Z 23) = (-1, Z) := kz2_n (fun q => Lo1 q.2)
    refine mv_iconst B dX3_keepFraction_90 ?_
    exact mw_iret B hQ hrt hI ⟨by rw [e9], _, hm, h24, fun i hi => (hsl i hi).trans (congrFun (congrArg Prod.snd e9) i).symm⟩ dX3_keepFraction_91
  · have Lo1 : ((Z7 (16)).natAbs : Int) < 1000000 ^ 50 := by
      by_cases q : ((Z7 (16)).natAbs : Int) < 1000000 ^ 50
      · exact q
      · rw [if_neg q] at hd1; exact absurd hd1 (by decide)
    rw [c16] at Lo1
    refine mv_aload_n B dX3_keepFraction_81 rfl (lv_at hl 1 rfl) ?_
    refine mv_bipush B dX3_keepFraction_82 (by decide) ?_
    refine mw_calli hI hA (va_runV (As := [.int (iI (17))]) (rest := []) B.fix (t_X3_isLong l D kA H.size f (r := 17) hm.self (by omega) h24 (by omega)) (cwV 1 B.2.2.2.2.1 (gV kw_426 kw_428 ks_25 kw_4 kw_429) rfl rfl rfl (by decide +kernel) ⟨Nat.le_of_ble_eq_true rfl, Nat.le_of_ble_eq_true rfl⟩) ⟨mw_blind st_S.blind, mw_recv B hI (by obtain ⟨_, _, _, _, q, _⟩ := hm; exact q.1) rfl, mw_pre B hI (hSt.call hI hA)⟩ rfl rfl hl.1 rfl (lv_room (Nat.le_of_ble_eq_true rfl)) dX3_keepFraction_84 ⟨Nat.le_of_ble_eq_true rfl, Nat.le_of_ble_eq_true rfl⟩) (fun r f H locs hp hI2 => ?_)
    clear hI
    have hI := hI2
    clear hI2
    obtain ⟨rfl, rfl⟩ := hp
    refine mv_if_eq (tgt := 92) B dX3_keepFraction_87 (by decide) (by split <;> omega) (fun hd2 => ?_) (fun hd2 => ?_)
    · have Lo2 : ((Z7 (17)).natAbs : Int) < 1000000 ^ 50 := by
        by_cases q : ((Z7 (17)).natAbs : Int) < 1000000 ^ 50
        · exact q
        · rw [if_neg q] at hd2; exact absurd hd2 (by decide)
      rw [c17] at Lo2
      refine mv_aload_n B dX3_keepFraction_92 rfl (lv_at hl 1 rfl) ?_
      refine mv_iload_n B dX3_keepFraction_93 rfl (lv_at hl 2 rfl) ?_
      refine mv_bipush B dX3_keepFraction_94 (by decide) ?_
      obtain ⟨L, S, G, U, hM, hL, hZ⟩ := id hm
      refine mw_callv hI hA (va_runV (As := [.int (iI (a)), .int (iI (17))]) (rest := []) B.fix (t_X3_move l D kA H.size f (t := a.toNat) (a := 17) hM.self hL (by omega) (by omega) (by omega) (by omega)) (cwV 2 B.2.2.2.2.1 (gV kw_430 kw_432 ks_26 kw_4 kw_433) rfl rfl rfl (by decide +kernel) ⟨Nat.le_of_ble_eq_true rfl, Nat.le_of_ble_eq_true rfl⟩) ⟨mw_blind st_S.blind, mw_recv B hI hM.1 rfl, mw_pre B hI (hSt.call hI hA)⟩ rfl rfl hl.1 rfl (lv_room (Nat.le_of_ble_eq_true rfl)) dX3_keepFraction_96 ⟨Nat.le_of_ble_eq_true rfl, Nat.le_of_ble_eq_true rfl⟩) (fun f H locs hp hI2 => ?_)
      clear hI
      have hI := hI2
      clear hI2
      obtain ⟨L1, hM1, hL1, ro1, hv1⟩ := hp
      obtain ⟨Z8, hZ8, hm⟩ : ∃ Z', Z' = upI Z7 (a.toNat) (Z7 (17)) ∧ MM kA f0 f o li si su di Z' := ⟨_, rfl, MM.u hZ (hM.tr hM1) hL1 ro1 (hv1.trans (hZ (17) (by omega)).1) (hZ (17) (by omega)).2⟩
      have v8 : Z8 (a.toNat) = Z7 (17) := by rw [hZ8, upI_self]
      have r8 : ∀ i, i ≠ a.toNat → Z8 i = Z7 i := fun i hi => by rw [hZ8, upI_ne _ _ hi]
      refine mv_aload_n B dX3_keepFraction_99 rfl (lv_at hl 1 rfl) ?_
      refine mv_iload_n B dX3_keepFraction_100 rfl (lv_at hl 3 rfl) ?_
      refine mv_bipush B dX3_keepFraction_101 (by decide) ?_
      obtain ⟨L, S, G, U, hM, hL, hZ⟩ := id hm
      refine mw_callv hI hA (va_runV (As := [.int (iI (b)), .int (iI (16))]) (rest := []) B.fix (t_X3_move l D kA H.size f (t := b.toNat) (a := 16) hM.self hL (by omega) (by omega) (by omega) (by omega)) (cwV 2 B.2.2.2.2.1 (gV kw_430 kw_432 ks_26 kw_4 kw_433) rfl rfl rfl (by decide +kernel) ⟨Nat.le_of_ble_eq_true rfl, Nat.le_of_ble_eq_true rfl⟩) ⟨mw_blind st_S.blind, mw_recv B hI hM.1 rfl, mw_pre B hI (hSt.call hI hA)⟩ rfl rfl hl.1 rfl (lv_room (Nat.le_of_ble_eq_true rfl)) dX3_keepFraction_103 ⟨Nat.le_of_ble_eq_true rfl, Nat.le_of_ble_eq_true rfl⟩) (fun f H locs hp hI2 => ?_)
      clear hI
      have hI := hI2
      clear hI2
      obtain ⟨L1, hM1, hL1, ro1, hv1⟩ := hp
      obtain ⟨Z9, hZ9, hm⟩ : ∃ Z', Z' = upI Z8 (b.toNat) (Z8 (16)) ∧ MM kA f0 f o li si su di Z' := ⟨_, rfl, MM.u hZ (hM.tr hM1) hL1 ro1 (hv1.trans (hZ (16) (by omega)).1) (hZ (16) (by omega)).2⟩
      have v9 : Z9 (b.toNat) = Z8 (16) := by rw [hZ9, upI_self]
      have r9 : ∀ i, i ≠ b.toNat → Z9 i = Z8 i := fun i hi => by rw [hZ9, upI_ne _ _ hi]
      refine mv_iconst B dX3_keepFraction_106 ?_
      have e9 : kp2 Z a b (Z 22) (Z 23) = (1, upI (upI Z a.toNat (lwN (Z 22) (Z 23))) b.toNat (lwD (Z 22) (Z 23))) := kz2_y Lo2 Lo1
      have d16 : Z8 16 = lwD (Z 22) (Z 23) := (r8 16 (by omega)).trans c16
      have hfin : ∀ i, i < 16 → Z9 i = upI (upI Z a.toNat (lwN (Z 22) (Z 23))) b.toNat (lwD (Z 22) (Z 23)) i := fun i hi => by
        by_cases e1 : i = b.toNat
        · rw [e1, upI_self, v9, d16]
        · rw [upI_ne _ _ e1, r9 i e1]
          by_cases e2 : i = a.toNat
          · rw [e2, upI_self, v8, c17]
          · rw [upI_ne _ _ e2, r8 i e2, hsl i hi]
      exact mw_iret B hQ hrt hI ⟨by rw [e9], Z9, hm, by rw [r9 24 (by omega), r8 24 (by omega)]; exact h24, fun i hi => by rw [e9]; exact hfin i hi⟩ dX3_keepFraction_107
    · have Lo2 : ¬ ((Z7 (17)).natAbs : Int) < 1000000 ^ 50 := fun q => by rw [if_pos q] at hd2; exact hd2 rfl
      rw [c17] at Lo2
      have e9 : kp2 Z a b (Z 22) (Z 23) = (-1, Z) := kz2_n (fun q => Lo2 q.1)
      refine mv_iconst B dX3_keepFraction_90 ?_
      exact mw_iret B hQ hrt hI ⟨by rw [e9], _, hm, h24, fun i hi => (hsl i hi).trans (congrFun (congrArg Prod.snd e9) i).symm⟩ dX3_keepFraction_91
abbrev rm_X3_lowest : Room := { frames := 5, cells := 0, slots := 0, locals := 119 }
set_option maxHeartbeats 4000000 in
set_option maxRecDepth 100000 in
/-- lowest -/
theorem t_X3_lowest (l : Launch) (D : va_G) (kA : Nat → ClassId) (sz : Nat) (f0 : mw_M) {o li si su di : Nat} {Z : Nat → Int}{a b : Int} (hm : MM kA f0 f0 o li si su di Z) (h24 : Z 24 = 1000000 ^ 50) (hB : ∀ i, i < 16 → ((Z i).natAbs : Int) < 1000000 ^ 50) (ha : -2147483648 ≤ a ∧ a ≤ 2147483647) (hb : -2147483648 ≤ b ∧ b ≤ 2147483647) : mw_Mi l yX3_lowest (Cond.code yX3_lowest cX3_lowest 3 ((some .int)) :: gw) rm_X3_lowest D vwCl (tyL kA) st_S [.ref o, .int (iI (a)), .int (iI (b))] f0 sz (fun v f => v = iI (sp_lowest Z a b).1 ∧ ∃ Z', MM kA f0 f o li si su di Z' ∧ Z' 24 = 1000000 ^ 50 ∧ ∀ i, i < 16 → Z' i = (sp_lowest Z a b).2 i) 0 0 := by
  refine mw_ofi (cc := cX3_lowest) (maxL := 3) (ret := (some .int)) (by decide) rfl (Nat.le_of_ble_eq_true rfl) ?_
  intro p e s m below meth c A ls Q hQ B hrt hnm hA hI hSt hl
  have hl : lv_has ls 3 [(0, .ref o), (1, .int (iI (a))), (2, .int (iI (b)))] := hl
  obtain ⟨f, hI, hm, hf⟩ : ∃ f, mw_I D vwCl A s s.heap [] f ∧ MM kA f0 f o li si su di Z ∧ f = f0 := ⟨f0, hI, hm, rfl⟩
  have hsl : ∀ i, i < 16 → Z i = Z i := fun _ _ => rfl
  have h240 := h24
  refine mv_iload_n B dX3_lowest_0 rfl (lv_at hl 1 rfl) ?_
  refine mw_calli hI hA (va_runS (As := [.int (iI (a))]) (rest := []) B.fix (t_X3_isSlot l D kA s.heap.size f ha) (cwS 1 B.2.2.2.2.1 (gS kw_399 kw_400 kw_4 kw_401) rfl rfl rfl (by decide +kernel) ⟨Nat.le_of_ble_eq_true rfl, Nat.le_of_ble_eq_true rfl⟩) ⟨mw_blind st_S.blind, mw_pre B hI (hSt.call hI hA)⟩ rfl rfl hl.1 rfl (lv_room (Nat.le_of_ble_eq_true rfl)) dX3_lowest_1 ⟨Nat.le_of_ble_eq_true rfl, Nat.le_of_ble_eq_true rfl⟩) (fun r f H locs hp hI2 => ?_)
  clear hI
  have hI := hI2
  clear hI2
  obtain ⟨rfl, rfl⟩ := hp
  refine mv_if_eq (tgt := 28) B dX3_lowest_4 (by decide) (by split <;> omega) (fun hc => ?_) (fun hc => ?_)
  · have h1 : ¬ (sOk a) := fun q => by rw [if_pos q] at hc; exact absurd hc (by decide)
    have e9 : sp_lowest Z a b = (-1, Z) := by unfold sp_lowest; rw [if_neg (fun q => h1 q.1)]
    refine mv_iconst B dX3_lowest_28 ?_
    exact mw_iret B hQ hrt hI ⟨by rw [e9], _, hm, h24, fun i hi => (hsl i hi).trans (congrFun (congrArg Prod.snd e9) i).symm⟩ dX3_lowest_29
  · have h1 : sOk a := by
      by_cases q : sOk a
      · exact q
      · rw [if_neg q] at hc; exact absurd rfl hc
    refine mv_iload_n B dX3_lowest_7 rfl (lv_at hl 2 rfl) ?_
    refine mw_calli hI hA (va_runS (As := [.int (iI (b))]) (rest := []) B.fix (t_X3_isSlot l D kA H.size f hb) (cwS 1 B.2.2.2.2.1 (gS kw_399 kw_400 kw_4 kw_401) rfl rfl rfl (by decide +kernel) ⟨Nat.le_of_ble_eq_true rfl, Nat.le_of_ble_eq_true rfl⟩) ⟨mw_blind st_S.blind, mw_pre B hI (hSt.call hI hA)⟩ rfl rfl hl.1 rfl (lv_room (Nat.le_of_ble_eq_true rfl)) dX3_lowest_8 ⟨Nat.le_of_ble_eq_true rfl, Nat.le_of_ble_eq_true rfl⟩) (fun r f H locs hp hI2 => ?_)
    clear hI
    have hI := hI2
    clear hI2
    obtain ⟨rfl, rfl⟩ := hp
    refine mv_if_eq (tgt := 28) B dX3_lowest_11 (by decide) (by split <;> omega) (fun hc2 => ?_) (fun hc2 => ?_)
    · have h2 : ¬ (sOk b) := fun q => by rw [if_pos q] at hc2; exact absurd hc2 (by decide)
      have e9 : sp_lowest Z a b = (-1, Z) := by unfold sp_lowest; rw [if_neg (fun q => h2 q.2.1)]
      refine mv_iconst B dX3_lowest_28 ?_
      exact mw_iret B hQ hrt hI ⟨by rw [e9], _, hm, h24, fun i hi => (hsl i hi).trans (congrFun (congrArg Prod.snd e9) i).symm⟩ dX3_lowest_29
    · have h2 : sOk b := by
        by_cases q : sOk b
        · exact q
        · rw [if_neg q] at hc2; exact absurd rfl hc2
      refine mv_iload_n B dX3_lowest_14 rfl (lv_at hl 1 rfl) ?_
      refine mv_iload_n B dX3_lowest_15 rfl (lv_at hl 2 rfl) ?_
      refine mv_icmp_eq (tgt := 28) B dX3_lowest_16 (by decide) (by omega) (fun hd3 => ?_) (fun hd3 => ?_)
      · have e9 : sp_lowest Z a b = (-1, Z) := by unfold sp_lowest; rw [if_neg (fun q => q.2.2.1 hd3)]
        refine mv_iconst B dX3_lowest_28 ?_
        exact mw_iret B hQ hrt hI ⟨by rw [e9], _, hm, h24, fun i hi => (hsl i hi).trans (congrFun (congrArg Prod.snd e9) i).symm⟩ dX3_lowest_29
      · obtain ⟨L, S, G, U, hM, hL, hZ⟩ := id hm
        refine mv_aload_n B dX3_lowest_19 rfl (lv_at hl 0 rfl) ?_
        refine mw_get (C := RX3) (T := TX3) (N := 4) B hI hM.1 uin_X3 rfl 1 (by decide) kw_382 rfl dX3_lowest_20 ?_
        refine mv_iload_n B dX3_lowest_23 rfl (lv_at hl 2 rfl) ?_
        refine mw_iald B hI 0 hM.2.2.1 rfl (b.toNat) (by omega) (by omega) (by decide) dX3_lowest_24 ?_
        rw [(hZ (b.toNat) (by omega)).2]
        have sg_ := c3_sg (Z (b.toNat))
        refine mv_if_ne (tgt := 30) B dX3_lowest_25 (by decide) (by omega) (fun hd4 => ?_) (fun hd4 => ?_)
        · have hnz : Z b.toNat ≠ 0 := by omega
          refine mv_aload_n B dX3_lowest_30 rfl (lv_at hl 0 rfl) ?_
          refine mv_bipush B dX3_lowest_31 (by decide) ?_
          refine mv_iload_n B dX3_lowest_33 rfl (lv_at hl 1 rfl) ?_
          refine mw_callv hI hA (va_runV (As := [.int (iI (22)), .int (iI (a))]) (rest := []) B.fix (t_X3_size l D kA H.size f (t := 22) (a := a.toNat) hm.self (by omega) (by omega) (by omega) (by omega)) (cwV 2 B.2.2.2.2.1 (gV kw_481 kw_483 ks_31 kw_4 kw_484) rfl rfl rfl (by decide +kernel) ⟨Nat.le_of_ble_eq_true rfl, Nat.le_of_ble_eq_true rfl⟩) ⟨mw_blind st_S.blind, mw_recv B hI (by obtain ⟨_, _, _, _, q, _⟩ := hm; exact q.1) rfl, mw_pre B hI (hSt.call hI hA)⟩ rfl rfl hl.1 rfl (lv_room (Nat.le_of_ble_eq_true rfl)) dX3_lowest_34 ⟨Nat.le_of_ble_eq_true rfl, Nat.le_of_ble_eq_true rfl⟩) (fun f H locs hp hI2 => ?_)
          clear hI
          have hI := hI2
          clear hI2
          obtain ⟨Z1, hZ1, hm⟩ : ∃ Z', Z' = upI Z (22) (((Z (a.toNat)).natAbs : Int)) ∧ MM kA f0 f o li si su di Z' := ⟨_, rfl, hm.tr hp⟩
          have v1 : Z1 (22) = ((Z (a.toNat)).natAbs : Int) := by rw [hZ1, upI_self]
          have r1 : ∀ i, i ≠ 22 → Z1 i = Z i := fun i hi => by rw [hZ1, upI_ne _ _ hi]
          have hsl : ∀ i, i < 16 → Z1 i = Z i := fun i hi => (r1 i (by omega)).trans (hsl i hi)
          have h24 : Z1 24 = 1000000 ^ 50 := (r1 24 (by omega)).trans h24
          refine mv_aload_n B dX3_lowest_37 rfl (lv_at hl 0 rfl) ?_
          refine mv_bipush B dX3_lowest_38 (by decide) ?_
          refine mv_iload_n B dX3_lowest_40 rfl (lv_at hl 2 rfl) ?_
          refine mw_callv hI hA (va_runV (As := [.int (iI (23)), .int (iI (b))]) (rest := []) B.fix (t_X3_size l D kA H.size f (t := 23) (a := b.toNat) hm.self (by omega) (by omega) (by omega) (by omega)) (cwV 2 B.2.2.2.2.1 (gV kw_481 kw_483 ks_31 kw_4 kw_484) rfl rfl rfl (by decide +kernel) ⟨Nat.le_of_ble_eq_true rfl, Nat.le_of_ble_eq_true rfl⟩) ⟨mw_blind st_S.blind, mw_recv B hI (by obtain ⟨_, _, _, _, q, _⟩ := hm; exact q.1) rfl, mw_pre B hI (hSt.call hI hA)⟩ rfl rfl hl.1 rfl (lv_room (Nat.le_of_ble_eq_true rfl)) dX3_lowest_41 ⟨Nat.le_of_ble_eq_true rfl, Nat.le_of_ble_eq_true rfl⟩) (fun f H locs hp hI2 => ?_)
          clear hI
          have hI := hI2
          clear hI2
          obtain ⟨Z2, hZ2, hm⟩ : ∃ Z', Z' = upI Z1 (23) (((Z1 (b.toNat)).natAbs : Int)) ∧ MM kA f0 f o li si su di Z' := ⟨_, rfl, hm.tr hp⟩
          have v2 : Z2 (23) = ((Z1 (b.toNat)).natAbs : Int) := by rw [hZ2, upI_self]
          have r2 : ∀ i, i ≠ 23 → Z2 i = Z1 i := fun i hi => by rw [hZ2, upI_ne _ _ hi]
          have hsl : ∀ i, i < 16 → Z2 i = Z i := fun i hi => (r2 i (by omega)).trans (hsl i hi)
          have h24 : Z2 24 = 1000000 ^ 50 := (r2 24 (by omega)).trans h24
          refine mv_aload_n B dX3_lowest_44 rfl (lv_at hl 0 rfl) ?_
          obtain ⟨L, S, G, U, hM, hL, hZ⟩ := id hm
          refine mw_get (C := RX3) (T := TX3) (N := 4) B hI hM.1 uin_X3 rfl 1 (by decide) kw_382 rfl dX3_lowest_45 ?_
          refine mv_bipush B dX3_lowest_48 (by decide) ?_
          refine mv_aload_n B dX3_lowest_50 rfl (lv_at hl 0 rfl) ?_
          refine mw_get (C := RX3) (T := TX3) (N := 4) B hI hM.1 uin_X3 rfl 1 (by decide) kw_382 rfl dX3_lowest_51 ?_
          refine mv_iload_n B dX3_lowest_54 rfl (lv_at hl 1 rfl) ?_
          refine mw_iald B hI 0 hM.2.2.1 rfl (a.toNat) (by omega) (by omega) (by decide) dX3_lowest_55 ?_
          rw [(hZ (a.toNat) (by omega)).2]
          have sg_ := c3_sg (Z2 (a.toNat))
          have k22 := hZ 22 (by decide)
          unfold hz at k22
          rw [r2 22 (by decide), v1] at k22
          refine md_S B hI hM (22) (by omega) (by omega) dX3_lowest_56 (fun f H locs hM hI => ?_)
          obtain ⟨Z3, hZ3, hm⟩ : ∃ Z', Z' = upI Z2 (22) (Z a.toNat) ∧ MM kA f0 f o li si su di Z' := ⟨_, rfl, MM.of hZ hM hL (fun _ _ _ => rfl) (fun _ _ h => upI_ne _ _ h) (by rw [k22.1]; omega) (by rw [upI_self]; rw [hsl _ (by omega)])⟩
          have v3 : Z3 (22) = Z a.toNat := by rw [hZ3, upI_self]
          have r3 : ∀ i, i ≠ 22 → Z3 i = Z2 i := fun i hi => by rw [hZ3, upI_ne _ _ hi]
          have hsl : ∀ i, i < 16 → Z3 i = Z i := fun i hi => (r3 i (by omega)).trans (hsl i hi)
          have h24 : Z3 24 = 1000000 ^ 50 := (r3 24 (by omega)).trans h24
          refine mv_aload_n B dX3_lowest_57 rfl (lv_at hl 0 rfl) ?_
          obtain ⟨L, S, G, U, hM, hL, hZ⟩ := id hm
          refine mw_get (C := RX3) (T := TX3) (N := 4) B hI hM.1 uin_X3 rfl 1 (by decide) kw_382 rfl dX3_lowest_58 ?_
          refine mv_bipush B dX3_lowest_61 (by decide) ?_
          refine mv_aload_n B dX3_lowest_63 rfl (lv_at hl 0 rfl) ?_
          refine mw_get (C := RX3) (T := TX3) (N := 4) B hI hM.1 uin_X3 rfl 1 (by decide) kw_382 rfl dX3_lowest_64 ?_
          refine mv_iload_n B dX3_lowest_67 rfl (lv_at hl 2 rfl) ?_
          refine mw_iald B hI 0 hM.2.2.1 rfl (b.toNat) (by omega) (by omega) (by decide) dX3_lowest_68 ?_
          rw [(hZ (b.toNat) (by omega)).2]
          have sg_ := c3_sg (Z3 (b.toNat))
          have k23 := hZ 23 (by decide)
          unfold hz at k23
          rw [r3 23 (by decide), v2, r1 _ (by omega)] at k23
          refine md_S B hI hM (23) (by omega) (by omega) dX3_lowest_69 (fun f H locs hM hI => ?_)
          obtain ⟨Z4, hZ4, hm⟩ : ∃ Z', Z' = upI Z3 (23) (Z b.toNat) ∧ MM kA f0 f o li si su di Z' := ⟨_, rfl, MM.of hZ hM hL (fun _ _ _ => rfl) (fun _ _ h => upI_ne _ _ h) (by rw [k23.1]; omega) (by rw [upI_self]; rw [hsl _ (by omega)])⟩
          have v4 : Z4 (23) = Z b.toNat := by rw [hZ4, upI_self]
          have r4 : ∀ i, i ≠ 23 → Z4 i = Z3 i := fun i hi => by rw [hZ4, upI_ne _ _ hi]
          have hsl : ∀ i, i < 16 → Z4 i = Z i := fun i hi => (r4 i (by omega)).trans (hsl i hi)
          have h24 : Z4 24 = 1000000 ^ 50 := (r4 24 (by omega)).trans h24
          refine mv_aload_n B dX3_lowest_70 rfl (lv_at hl 0 rfl) ?_
          refine mv_iload_n B dX3_lowest_71 rfl (lv_at hl 1 rfl) ?_
          refine mv_iload_n B dX3_lowest_72 rfl (lv_at hl 2 rfl) ?_
          have k22 : Z4 22 = Z a.toNat := by rw [r4 22 (by decide), v3]
          have k23 : Z4 23 = Z b.toNat := by rw [v4]
          refine mw_calli hI hA (va_runV (As := [.int (iI (a)), .int (iI (b))]) (rest := []) B.fix (t_X3_keepFraction l D kA H.size f hm.self h24 (fun i hi => by rw [hsl i hi]; exact hB i hi) h1 h2 hd3 (by rw [k23]; exact hnz)) (cwV 2 B.2.2.2.2.1 (gV kw_501 kw_503 ks_33 kw_4 kw_504) rfl rfl rfl (by decide +kernel) ⟨Nat.le_of_ble_eq_true rfl, Nat.le_of_ble_eq_true rfl⟩) ⟨mw_blind st_S.blind, mw_recv B hI (by obtain ⟨_, _, _, _, q, _⟩ := hm; exact q.1) rfl, mw_pre B hI (hSt.call hI hA)⟩ rfl rfl hl.1 rfl (lv_room (Nat.le_of_ble_eq_true rfl)) dX3_lowest_73 ⟨Nat.le_of_ble_eq_true rfl, Nat.le_of_ble_eq_true rfl⟩) (fun r f H locs hp hI2 => ?_)
          clear hI
          have hI := hI2
          clear hI2
          obtain ⟨rfl, Z99, hp, x24, xs⟩ := hp
          have hm := hm.tr hp
          have e8 := kp2_cong (Y := Z) (Y1 := Z4) (a := a) (b := b) (p := Z a.toNat) (q := Z b.toNat) hsl
          rw [k22, k23] at xs
          rw [k22, k23]
          have e9 : sp_lowest Z a b = kp2 Z a b (Z a.toNat) (Z b.toNat) := by unfold sp_lowest; rw [if_pos ⟨h1, h2, hd3, hnz⟩]
          rw [← e9] at e8
          exact mw_iret B hQ hrt hI ⟨by rw [e8.1], Z99, hm, x24, fun i hi => (xs i hi).trans (e8.2 i hi)⟩ dX3_lowest_76
        · have e9 : sp_lowest Z a b = (-1, Z) := by unfold sp_lowest; rw [if_neg (fun q => by omega)]
          refine mv_iconst B dX3_lowest_28 ?_
          exact mw_iret B hQ hrt hI ⟨by rw [e9], _, hm, h24, fun i hi => (hsl i hi).trans (congrFun (congrArg Prod.snd e9) i).symm⟩ dX3_lowest_29
abbrev rm_X3_fraction : Room := { frames := 5, cells := 0, slots := 0, locals := 119 }
set_option maxHeartbeats 4000000 in
set_option maxRecDepth 100000 in
/-- fraction -/
theorem t_X3_fraction (l : Launch) (D : va_G) (kA : Nat → ClassId) (sz : Nat) (f0 : mw_M) {o li si su di : Nat} {Z : Nat → Int}{a b c_ e_ : Int} (hm : MM kA f0 f0 o li si su di Z) (h24 : Z 24 = 1000000 ^ 50) (hB : ∀ i, i < 16 → ((Z i).natAbs : Int) < 1000000 ^ 50) (ha : -2147483648 ≤ a ∧ a ≤ 2147483647) (hb : -2147483648 ≤ b ∧ b ≤ 2147483647) (hc_ : -2147483648 ≤ c_ ∧ c_ ≤ 2147483647) (he_ : -2147483648 ≤ e_ ∧ e_ ≤ 2147483647) : mw_Mi l yX3_fraction (Cond.code yX3_fraction cX3_fraction 5 ((some .int)) :: gw) rm_X3_fraction D vwCl (tyL kA) st_S [.ref o, .int (iI (a)), .int (iI (b)), .int (iI (c_)), .int (iI (e_))] f0 sz (fun v f => v = iI (sp_fraction Z a b c_ e_).1 ∧ ∃ Z', MM kA f0 f o li si su di Z' ∧ Z' 24 = 1000000 ^ 50 ∧ ∀ i, i < 16 → Z' i = (sp_fraction Z a b c_ e_).2 i) 0 0 := by
  refine mw_ofi (cc := cX3_fraction) (maxL := 5) (ret := (some .int)) (by decide) rfl (Nat.le_of_ble_eq_true rfl) ?_
  intro p e s m below meth c A ls Q hQ B hrt hnm hA hI hSt hl
  have hl : lv_has ls 5 [(0, .ref o), (1, .int (iI (a))), (2, .int (iI (b))), (3, .int (iI (c_))), (4, .int (iI (e_)))] := hl
  obtain ⟨f, hI, hm, hf⟩ : ∃ f, mw_I D vwCl A s s.heap [] f ∧ MM kA f0 f o li si su di Z ∧ f = f0 := ⟨f0, hI, hm, rfl⟩
  have hsl : ∀ i, i < 16 → Z i = Z i := fun _ _ => rfl
  have h240 := h24
  refine mv_iload_n B dX3_fraction_0 rfl (lv_at hl 1 rfl) ?_
  refine mv_iload_n B dX3_fraction_1 rfl (lv_at hl 2 rfl) ?_
  refine mv_iload_n B dX3_fraction_2 rfl (lv_at hl 3 rfl) ?_
  refine mw_calli hI hA (va_runS (As := [.int (iI (a)), .int (iI (b)), .int (iI (c_))]) (rest := []) B.fix (t_X3_are l D kA s.heap.size f ha hb hc_) (cwS 3 B.2.2.2.2.1 (gS kw_442 kw_443 kw_4 kw_444) rfl rfl rfl (by decide +kernel) ⟨Nat.le_of_ble_eq_true rfl, Nat.le_of_ble_eq_true rfl⟩) ⟨mw_blind st_S.blind, mw_pre B hI (hSt.call hI hA)⟩ rfl rfl hl.1 rfl (lv_room (Nat.le_of_ble_eq_true rfl)) dX3_fraction_3 ⟨Nat.le_of_ble_eq_true rfl, Nat.le_of_ble_eq_true rfl⟩) (fun r f H locs hp hI2 => ?_)
  clear hI
  have hI := hI2
  clear hI2
  obtain ⟨rfl, rfl⟩ := hp
  refine mv_if_eq (tgt := 41) B dX3_fraction_6 (by decide) (by split <;> omega) (fun hc => ?_) (fun hc => ?_)
  · have h1 : ¬ (sOk a ∧ sOk b ∧ sOk c_) := fun q => by rw [if_pos q] at hc; exact absurd hc (by decide)
    have e9 : sp_fraction Z a b c_ e_ = (-1, Z) := by unfold sp_fraction; rw [if_neg (fun q => h1 ⟨q.1, q.2.1, q.2.2.1⟩)]
    refine mv_iconst B dX3_fraction_41 ?_
    exact mw_iret B hQ hrt hI ⟨by rw [e9], _, hm, h24, fun i hi => (hsl i hi).trans (congrFun (congrArg Prod.snd e9) i).symm⟩ dX3_fraction_42
  · have h1 : sOk a ∧ sOk b ∧ sOk c_ := by
      by_cases q : sOk a ∧ sOk b ∧ sOk c_
      · exact q
      · rw [if_neg q] at hc; exact absurd rfl hc
    refine mv_iload B dX3_fraction_9 (lv_at hl 4 rfl) ?_
    refine mw_calli hI hA (va_runS (As := [.int (iI (e_))]) (rest := []) B.fix (t_X3_isSlot l D kA H.size f he_) (cwS 1 B.2.2.2.2.1 (gS kw_399 kw_400 kw_4 kw_401) rfl rfl rfl (by decide +kernel) ⟨Nat.le_of_ble_eq_true rfl, Nat.le_of_ble_eq_true rfl⟩) ⟨mw_blind st_S.blind, mw_pre B hI (hSt.call hI hA)⟩ rfl rfl hl.1 rfl (lv_room (Nat.le_of_ble_eq_true rfl)) dX3_fraction_11 ⟨Nat.le_of_ble_eq_true rfl, Nat.le_of_ble_eq_true rfl⟩) (fun r f H locs hp hI2 => ?_)
    clear hI
    have hI := hI2
    clear hI2
    obtain ⟨rfl, rfl⟩ := hp
    refine mv_if_eq (tgt := 41) B dX3_fraction_14 (by decide) (by split <;> omega) (fun hc2 => ?_) (fun hc2 => ?_)
    · have h2 : ¬ (sOk e_) := fun q => by rw [if_pos q] at hc2; exact absurd hc2 (by decide)
      have e9 : sp_fraction Z a b c_ e_ = (-1, Z) := by unfold sp_fraction; rw [if_neg (fun q => h2 q.2.2.2.1)]
      refine mv_iconst B dX3_fraction_41 ?_
      exact mw_iret B hQ hrt hI ⟨by rw [e9], _, hm, h24, fun i hi => (hsl i hi).trans (congrFun (congrArg Prod.snd e9) i).symm⟩ dX3_fraction_42
    · have h2 : sOk e_ := by
        by_cases q : sOk e_
        · exact q
        · rw [if_neg q] at hc2; exact absurd rfl hc2
      refine mv_iload_n B dX3_fraction_17 rfl (lv_at hl 1 rfl) ?_
      refine mv_iload_n B dX3_fraction_18 rfl (lv_at hl 2 rfl) ?_
      refine mv_icmp_eq (tgt := 41) B dX3_fraction_19 (by decide) (by omega) (fun hd3 => ?_) (fun hd3 => ?_)
      · have e9 : sp_fraction Z a b c_ e_ = (-1, Z) := by unfold sp_fraction; rw [if_neg (fun q => q.2.2.2.2.1 hd3)]
        refine mv_iconst B dX3_fraction_41 ?_
        exact mw_iret B hQ hrt hI ⟨by rw [e9], _, hm, h24, fun i hi => (hsl i hi).trans (congrFun (congrArg Prod.snd e9) i).symm⟩ dX3_fraction_42
      · obtain ⟨L, S, G, U, hM, hL, hZ⟩ := id hm
        refine mv_aload_n B dX3_fraction_22 rfl (lv_at hl 0 rfl) ?_
        refine mw_get (C := RX3) (T := TX3) (N := 4) B hI hM.1 uin_X3 rfl 1 (by decide) kw_382 rfl dX3_fraction_23 ?_
        refine mv_iload_n B dX3_fraction_26 rfl (lv_at hl 2 rfl) ?_
        refine mw_iald B hI 0 hM.2.2.1 rfl (b.toNat) (by omega) (by omega) (by decide) dX3_fraction_27 ?_
        rw [(hZ (b.toNat) (by omega)).2]
        have sg_ := c3_sg (Z (b.toNat))
        have sgb := sg_
        refine mv_if_eq (tgt := 41) B dX3_fraction_28 (by decide) (by omega) (fun hd4 => ?_) (fun hd4 => ?_)
        · have e9 : sp_fraction Z a b c_ e_ = (-1, Z) := by unfold sp_fraction; rw [if_neg (fun q => by omega)]
          refine mv_iconst B dX3_fraction_41 ?_
          exact mw_iret B hQ hrt hI ⟨by rw [e9], _, hm, h24, fun i hi => (hsl i hi).trans (congrFun (congrArg Prod.snd e9) i).symm⟩ dX3_fraction_42
        · have hnb : Z b.toNat ≠ 0 := by omega
          refine mv_aload_n B dX3_fraction_31 rfl (lv_at hl 0 rfl) ?_
          refine mw_get (C := RX3) (T := TX3) (N := 4) B hI hM.1 uin_X3 rfl 1 (by decide) kw_382 rfl dX3_fraction_32 ?_
          refine mv_iload B dX3_fraction_35 (lv_at hl 4 rfl) ?_
          refine mw_iald B hI 0 hM.2.2.1 rfl (e_.toNat) (by omega) (by omega) (by decide) dX3_fraction_37 ?_
          rw [(hZ (e_.toNat) (by omega)).2]
          have sg_ := c3_sg (Z (e_.toNat))
          refine mv_if_ne (tgt := 43) B dX3_fraction_38 (by decide) (by omega) (fun hd5 => ?_) (fun hd5 => ?_)
          · have hne : Z e_.toNat ≠ 0 := by omega
            refine mv_aload_n B dX3_fraction_43 rfl (lv_at hl 0 rfl) ?_
            refine mv_bipush B dX3_fraction_44 (by decide) ?_
            refine mv_iload_n B dX3_fraction_46 rfl (lv_at hl 1 rfl) ?_
            refine mv_iload B dX3_fraction_47 (lv_at hl 4 rfl) ?_
            obtain ⟨L, S, G, U, hM, hL, hZ⟩ := id hm
            have em : mg L (a.toNat) * mg L (e_.toNat) = ((Z (a.toNat) * Z (e_.toNat)).natAbs : Int) := by rw [(hZ (a.toNat) (by omega)).1, (hZ (e_.toNat) (by omega)).1, abs_mul2]
            have hbd : mg L (a.toNat) * mg L (e_.toNat) < 65536 ^ 140 := by rw [em]; exact (mul140 (by rw [hsl _ (by omega)]; exact hB _ (by omega)) (by rw [hsl _ (by omega)]; exact hB _ (by omega)))
            refine mw_callv hI hA (va_runV (As := [.int (iI (16)), .int (iI (a)), .int (iI (e_))]) (rest := []) B.fix (t_X3_multiply l D kA H.size f (t := 16) (a := a.toNat) (b := e_.toNat) hM.self hL (by omega) (by omega) (by omega) (by omega) (by omega) (by omega) hbd) (cwV 3 B.2.2.2.2.1 (gV kw_376 kw_378 ks_19 kw_4 kw_379) rfl rfl rfl (by decide +kernel) ⟨Nat.le_of_ble_eq_true rfl, Nat.le_of_ble_eq_true rfl⟩) ⟨mw_blind st_S.blind, mw_recv B hI hM.1 rfl, mw_pre B hI (hSt.call hI hA)⟩ rfl rfl hl.1 rfl (lv_room (Nat.le_of_ble_eq_true rfl)) dX3_fraction_49 ⟨Nat.le_of_ble_eq_true rfl, Nat.le_of_ble_eq_true rfl⟩) (fun f H locs hp hI2 => ?_)
            clear hI
            have hI := hI2
            clear hI2
            obtain ⟨L1, U1, hM1, hL1, ro1, hv1⟩ := hp
            obtain ⟨Z1, hZ1, hm⟩ : ∃ Z', Z' = upI Z (16) (Z (a.toNat) * Z (e_.toNat)) ∧ MM kA f0 f o li si su di Z' := ⟨_, rfl, MM.u hZ (hM.tr hM1) hL1 ro1 (hv1.trans em) (by rw [(hZ (a.toNat) (by omega)).1, (hZ (e_.toNat) (by omega)).1, (hZ (a.toNat) (by omega)).2, (hZ (e_.toNat) (by omega)).2]; exact c3_mul _ _)⟩
            have v1 : Z1 (16) = Z (a.toNat) * Z (e_.toNat) := by rw [hZ1, upI_self]
            have r1 : ∀ i, i ≠ 16 → Z1 i = Z i := fun i hi => by rw [hZ1, upI_ne _ _ hi]
            have hsl : ∀ i, i < 16 → Z1 i = Z i := fun i hi => (r1 i (by omega)).trans (hsl i hi)
            have h24 : Z1 24 = 1000000 ^ 50 := (r1 24 (by omega)).trans h24
            refine mv_aload_n B dX3_fraction_52 rfl (lv_at hl 0 rfl) ?_
            refine mv_bipush B dX3_fraction_53 (by decide) ?_
            refine mv_iload_n B dX3_fraction_55 rfl (lv_at hl 3 rfl) ?_
            refine mv_iload_n B dX3_fraction_56 rfl (lv_at hl 2 rfl) ?_
            obtain ⟨L, S, G, U, hM, hL, hZ⟩ := id hm
            have em : mg L (c_.toNat) * mg L (b.toNat) = ((Z1 (c_.toNat) * Z1 (b.toNat)).natAbs : Int) := by rw [(hZ (c_.toNat) (by omega)).1, (hZ (b.toNat) (by omega)).1, abs_mul2]
            have hbd : mg L (c_.toNat) * mg L (b.toNat) < 65536 ^ 140 := by rw [em]; exact (mul140 (by rw [hsl _ (by omega)]; exact hB _ (by omega)) (by rw [hsl _ (by omega)]; exact hB _ (by omega)))
            refine mw_callv hI hA (va_runV (As := [.int (iI (17)), .int (iI (c_)), .int (iI (b))]) (rest := []) B.fix (t_X3_multiply l D kA H.size f (t := 17) (a := c_.toNat) (b := b.toNat) hM.self hL (by omega) (by omega) (by omega) (by omega) (by omega) (by omega) hbd) (cwV 3 B.2.2.2.2.1 (gV kw_376 kw_378 ks_19 kw_4 kw_379) rfl rfl rfl (by decide +kernel) ⟨Nat.le_of_ble_eq_true rfl, Nat.le_of_ble_eq_true rfl⟩) ⟨mw_blind st_S.blind, mw_recv B hI hM.1 rfl, mw_pre B hI (hSt.call hI hA)⟩ rfl rfl hl.1 rfl (lv_room (Nat.le_of_ble_eq_true rfl)) dX3_fraction_57 ⟨Nat.le_of_ble_eq_true rfl, Nat.le_of_ble_eq_true rfl⟩) (fun f H locs hp hI2 => ?_)
            clear hI
            have hI := hI2
            clear hI2
            obtain ⟨L1, U1, hM1, hL1, ro1, hv1⟩ := hp
            obtain ⟨Z2, hZ2, hm⟩ : ∃ Z', Z' = upI Z1 (17) (Z1 (c_.toNat) * Z1 (b.toNat)) ∧ MM kA f0 f o li si su di Z' := ⟨_, rfl, MM.u hZ (hM.tr hM1) hL1 ro1 (hv1.trans em) (by rw [(hZ (c_.toNat) (by omega)).1, (hZ (b.toNat) (by omega)).1, (hZ (c_.toNat) (by omega)).2, (hZ (b.toNat) (by omega)).2]; exact c3_mul _ _)⟩
            have v2 : Z2 (17) = Z1 (c_.toNat) * Z1 (b.toNat) := by rw [hZ2, upI_self]
            have r2 : ∀ i, i ≠ 17 → Z2 i = Z1 i := fun i hi => by rw [hZ2, upI_ne _ _ hi]
            have hsl : ∀ i, i < 16 → Z2 i = Z i := fun i hi => (r2 i (by omega)).trans (hsl i hi)
            have h24 : Z2 24 = 1000000 ^ 50 := (r2 24 (by omega)).trans h24
            refine mv_aload_n B dX3_fraction_60 rfl (lv_at hl 0 rfl) ?_
            refine mv_bipush B dX3_fraction_61 (by decide) ?_
            refine mv_bipush B dX3_fraction_63 (by decide) ?_
            refine mv_bipush B dX3_fraction_65 (by decide) ?_
            refine mv_iconst B dX3_fraction_67 ?_
            have w1 : Z2 16 = Z a.toNat * Z e_.toNat := by rw [r2 16 (by decide), v1]
            have w2 : Z2 17 = Z c_.toNat * Z b.toNat := by rw [v2, r1 _ (by omega), r1 _ (by omega)]
            refine mw_callv hI hA (va_runV (As := [.int (iI (22)), .int (iI (16)), .int (iI (17)), .int (iI (1))]) (rest := []) B.fix (t_X3_combine l D kA H.size f (t := 22) (a := 16) (b := 17) hm.self (by omega) (by omega) (by omega) (by omega) (by omega) (by omega) (by decide) (add140 (by rw [w1]; exact mulbd (hB _ (by omega)) (hB _ (by omega))) (by rw [w2]; exact mulbd (hB _ (by omega)) (hB _ (by omega))))) (cwV 4 B.2.2.2.2.1 (gV kw_406 kw_408 ks_20 kw_4 kw_409) rfl rfl rfl (by decide +kernel) ⟨Nat.le_of_ble_eq_true rfl, Nat.le_of_ble_eq_true rfl⟩) ⟨mw_blind st_S.blind, mw_recv B hI (by obtain ⟨_, _, _, _, q, _⟩ := hm; exact q.1) rfl, mw_pre B hI (hSt.call hI hA)⟩ rfl rfl hl.1 rfl (lv_room (Nat.le_of_ble_eq_true rfl)) dX3_fraction_68 ⟨Nat.le_of_ble_eq_true rfl, Nat.le_of_ble_eq_true rfl⟩) (fun f H locs hp hI2 => ?_)
            clear hI
            have hI := hI2
            clear hI2
            obtain ⟨Z3, hZ3, hm⟩ : ∃ Z', Z' = upI Z2 (22) (Z2 (16) + 1 * Z2 (17)) ∧ MM kA f0 f o li si su di Z' := ⟨_, rfl, hm.tr hp⟩
            have v3 : Z3 (22) = Z2 (16) + 1 * Z2 (17) := by rw [hZ3, upI_self]
            have r3 : ∀ i, i ≠ 22 → Z3 i = Z2 i := fun i hi => by rw [hZ3, upI_ne _ _ hi]
            have hsl : ∀ i, i < 16 → Z3 i = Z i := fun i hi => (r3 i (by omega)).trans (hsl i hi)
            have h24 : Z3 24 = 1000000 ^ 50 := (r3 24 (by omega)).trans h24
            refine mv_aload_n B dX3_fraction_71 rfl (lv_at hl 0 rfl) ?_
            refine mv_bipush B dX3_fraction_72 (by decide) ?_
            refine mv_iload_n B dX3_fraction_74 rfl (lv_at hl 2 rfl) ?_
            refine mv_iload B dX3_fraction_75 (lv_at hl 4 rfl) ?_
            obtain ⟨L, S, G, U, hM, hL, hZ⟩ := id hm
            have em : mg L (b.toNat) * mg L (e_.toNat) = ((Z3 (b.toNat) * Z3 (e_.toNat)).natAbs : Int) := by rw [(hZ (b.toNat) (by omega)).1, (hZ (e_.toNat) (by omega)).1, abs_mul2]
            have hbd : mg L (b.toNat) * mg L (e_.toNat) < 65536 ^ 140 := by rw [em]; exact (mul140 (by rw [hsl _ (by omega)]; exact hB _ (by omega)) (by rw [hsl _ (by omega)]; exact hB _ (by omega)))
            refine mw_callv hI hA (va_runV (As := [.int (iI (23)), .int (iI (b)), .int (iI (e_))]) (rest := []) B.fix (t_X3_multiply l D kA H.size f (t := 23) (a := b.toNat) (b := e_.toNat) hM.self hL (by omega) (by omega) (by omega) (by omega) (by omega) (by omega) hbd) (cwV 3 B.2.2.2.2.1 (gV kw_376 kw_378 ks_19 kw_4 kw_379) rfl rfl rfl (by decide +kernel) ⟨Nat.le_of_ble_eq_true rfl, Nat.le_of_ble_eq_true rfl⟩) ⟨mw_blind st_S.blind, mw_recv B hI hM.1 rfl, mw_pre B hI (hSt.call hI hA)⟩ rfl rfl hl.1 rfl (lv_room (Nat.le_of_ble_eq_true rfl)) dX3_fraction_77 ⟨Nat.le_of_ble_eq_true rfl, Nat.le_of_ble_eq_true rfl⟩) (fun f H locs hp hI2 => ?_)
            clear hI
            have hI := hI2
            clear hI2
            obtain ⟨L1, U1, hM1, hL1, ro1, hv1⟩ := hp
            obtain ⟨Z4, hZ4, hm⟩ : ∃ Z', Z' = upI Z3 (23) (Z3 (b.toNat) * Z3 (e_.toNat)) ∧ MM kA f0 f o li si su di Z' := ⟨_, rfl, MM.u hZ (hM.tr hM1) hL1 ro1 (hv1.trans em) (by rw [(hZ (b.toNat) (by omega)).1, (hZ (e_.toNat) (by omega)).1, (hZ (b.toNat) (by omega)).2, (hZ (e_.toNat) (by omega)).2]; exact c3_mul _ _)⟩
            have v4 : Z4 (23) = Z3 (b.toNat) * Z3 (e_.toNat) := by rw [hZ4, upI_self]
            have r4 : ∀ i, i ≠ 23 → Z4 i = Z3 i := fun i hi => by rw [hZ4, upI_ne _ _ hi]
            have hsl : ∀ i, i < 16 → Z4 i = Z i := fun i hi => (r4 i (by omega)).trans (hsl i hi)
            have h24 : Z4 24 = 1000000 ^ 50 := (r4 24 (by omega)).trans h24
            refine mv_aload_n B dX3_fraction_80 rfl (lv_at hl 0 rfl) ?_
            refine mv_iload_n B dX3_fraction_81 rfl (lv_at hl 1 rfl) ?_
            refine mv_iload_n B dX3_fraction_82 rfl (lv_at hl 2 rfl) ?_
            have k22 : Z4 22 = Z a.toNat * Z e_.toNat + Z c_.toNat * Z b.toNat := by rw [r4 22 (by decide), v3, w1, w2, Int.one_mul]
            have k23 : Z4 23 = Z b.toNat * Z e_.toNat := by rw [v4, r3 _ (by omega), r3 _ (by omega), r2 _ (by omega), r2 _ (by omega), r1 _ (by omega), r1 _ (by omega)]
            refine mw_calli hI hA (va_runV (As := [.int (iI (a)), .int (iI (b))]) (rest := []) B.fix (t_X3_keepFraction l D kA H.size f hm.self h24 (fun i hi => by rw [hsl i hi]; exact hB i hi) h1.1 h1.2.1 hd3 (by rw [k23]; exact (Int.mul_ne_zero hnb hne))) (cwV 2 B.2.2.2.2.1 (gV kw_501 kw_503 ks_33 kw_4 kw_504) rfl rfl rfl (by decide +kernel) ⟨Nat.le_of_ble_eq_true rfl, Nat.le_of_ble_eq_true rfl⟩) ⟨mw_blind st_S.blind, mw_recv B hI (by obtain ⟨_, _, _, _, q, _⟩ := hm; exact q.1) rfl, mw_pre B hI (hSt.call hI hA)⟩ rfl rfl hl.1 rfl (lv_room (Nat.le_of_ble_eq_true rfl)) dX3_fraction_83 ⟨Nat.le_of_ble_eq_true rfl, Nat.le_of_ble_eq_true rfl⟩) (fun r f H locs hp hI2 => ?_)
            clear hI
            have hI := hI2
            clear hI2
            obtain ⟨rfl, Z99, hp, x24, xs⟩ := hp
            have hm := hm.tr hp
            have e8 := kp2_cong (Y := Z) (Y1 := Z4) (a := a) (b := b) (p := Z a.toNat * Z e_.toNat + Z c_.toNat * Z b.toNat) (q := Z b.toNat * Z e_.toNat) hsl
            rw [k22, k23] at xs
            rw [k22, k23]
            have e9 : sp_fraction Z a b c_ e_ = kp2 Z a b (Z a.toNat * Z e_.toNat + Z c_.toNat * Z b.toNat) (Z b.toNat * Z e_.toNat) := by unfold sp_fraction; rw [if_pos ⟨h1.1, h1.2.1, h1.2.2, h2, hd3, hnb, hne⟩]
            rw [← e9] at e8
            exact mw_iret B hQ hrt hI ⟨by rw [e8.1], Z99, hm, x24, fun i hi => (xs i hi).trans (e8.2 i hi)⟩ dX3_fraction_86
          · have e9 : sp_fraction Z a b c_ e_ = (-1, Z) := by unfold sp_fraction; rw [if_neg (fun q => by omega)]
            refine mv_iconst B dX3_fraction_41 ?_
            exact mw_iret B hQ hrt hI ⟨by rw [e9], _, hm, h24, fun i hi => (hsl i hi).trans (congrFun (congrArg Prod.snd e9) i).symm⟩ dX3_fraction_42
abbrev rm_X3_spell : Room := { frames := 2, cells := 0, slots := 0, locals := 46 }
set_option maxHeartbeats 4000000 in
set_option maxRecDepth 100000 in
/-- spell -/
theorem t_X3_spell (l : Launch) (D : va_G) (kA : Nat → ClassId) (sz : Nat) (f0 : mw_M) {o li si su di : Nat} {Z : Nat → Int} {a : Nat} {xa : Int} (hm : MM kA f0 f0 o li si su di Z) (h24 : Z 24 = 1000000 ^ 50) (hB : ∀ i, i < 16 → ((Z i).natAbs : Int) < 1000000 ^ 50) (hxa : xa = (a : Int)) (ha : a < 16) : mw_Mi l yX3_spell (Cond.code yX3_spell cX3_spell 5 ((some .int)) :: gw) rm_X3_spell D vwCl (tyL kA) st_S [.ref o, .int (iI (xa))] f0 sz (fun v f => ∃ (n : Nat) (Z' L S G U : Nat → Int), v = iI (n : Int) ∧ n ≤ 300 ∧ isnd ((Z a).natAbs : Int) n ∧ (∀ i, i < n → G i = ((Z a).natAbs : Int) / 10 ^ i % 10) ∧ MS kA f0 f o li si su di L S G U ∧ lr L ∧ (∀ r, r < 25 → hz L S r (Z' r)) ∧ (∀ r, r ≠ 16 → Z' r = Z r)) 0 0 := by
  refine mw_ofi (cc := cX3_spell) (maxL := 5) (ret := (some .int)) (by decide) rfl (Nat.le_of_ble_eq_true rfl) ?_
  intro p e s m below meth c A ls Q hQ B hrt hnm hA hI hSt hl
  have hl : lv_has ls 5 [(0, .ref o), (1, .int (iI (xa)))] := hl
  subst hxa
  obtain ⟨f, hI, hm, hf⟩ : ∃ f, mw_I D vwCl A s s.heap [] f ∧ MM kA f0 f o li si su di Z ∧ f = f0 := ⟨f0, hI, hm, rfl⟩
  have hsl : ∀ i, i < 16 → Z i = Z i := fun _ _ => rfl
  have h240 := h24
  have mb := hB a ha
  obtain ⟨mm, hm0⟩ : ∃ m : Int, m = ((Z a).natAbs : Int) := ⟨_, rfl⟩
  rw [← hm0] at mb
  have m0 : 0 ≤ mm := by omega
  refine mv_iconst B dX3_spell_0 ?_
  refine mv_istore_n (lv' := [(2, .int (iI (0))), (0, .ref o), (1, .int (iI ((a : Int))))]) B dX3_spell_1 rfl hl (by decide) rfl (fun ls hl => ?_)
  refine mv_aload_n B dX3_spell_2 rfl (lv_at hl 1 rfl) ?_
  refine mv_bipush B dX3_spell_3 (by decide) ?_
  refine mv_iload_n B dX3_spell_5 rfl (lv_at hl 2 rfl) ?_
  obtain ⟨L, S, G, U, hM, hL, hZ⟩ := id hm
  refine mw_callv hI hA (va_runV (As := [.int (iI (16)), .int (iI ((a : Int)))]) (rest := []) B.fix (t_X3_move l D kA s.heap.size f (t := 16) (a := a) hM.self hL (by omega) (by omega) (by omega) (by omega)) (cwV 2 B.2.2.2.2.1 (gV kw_430 kw_432 ks_26 kw_4 kw_433) rfl rfl rfl (by decide +kernel) ⟨Nat.le_of_ble_eq_true rfl, Nat.le_of_ble_eq_true rfl⟩) ⟨mw_blind st_S.blind, mw_recv B hI hM.1 rfl, mw_pre B hI (hSt.call hI hA)⟩ rfl rfl hl.1 rfl (lv_room (Nat.le_of_ble_eq_true rfl)) dX3_spell_6 ⟨Nat.le_of_ble_eq_true rfl, Nat.le_of_ble_eq_true rfl⟩) (fun f H locs hp hI2 => ?_)
  clear hI
  have hI := hI2
  clear hI2
  obtain ⟨L1, hM1, hL1, ro1, hv1⟩ := hp
  obtain ⟨Z1, hZ1, hm⟩ : ∃ Z', Z' = upI Z (16) (Z (a)) ∧ MM kA f0 f o li si su di Z' := ⟨_, rfl, MM.u hZ (hM.tr hM1) hL1 ro1 (hv1.trans (hZ (a) (by omega)).1) (hZ (a) (by omega)).2⟩
  have v1 : Z1 (16) = Z (a) := by rw [hZ1, upI_self]
  have r1 : ∀ i, i ≠ 16 → Z1 i = Z i := fun i hi => by rw [hZ1, upI_ne _ _ hi]
  have hsl : ∀ i, i < 16 → Z1 i = Z i := fun i hi => (r1 i (by omega)).trans (hsl i hi)
  have h24 : Z1 24 = 1000000 ^ 50 := (r1 24 (by omega)).trans h24
  obtain ⟨L, S, G, U, hM, hL, hZ⟩ := hm
  have loop : ∀ (μ : Nat) (n : Nat) (i : Int) (L S G U Zc : Nat → Int) (f : mw_M) (H : Heap) (locs : List Loc) (ls : Array Slot), 301 - n < μ → i = (n : Int) → n ≤ 300 → lr L → (∀ r, r < 25 → hz L S r (Zc r)) → (∀ r, r ≠ 16 → Zc r = Z r) → ((Zc 16).natAbs : Int) = mm / 10 ^ n → (∀ i, i < n → G i = mm / 10 ^ i % 10) → (2 ≤ n → mm / 10 ^ (n - 1) ≠ 0) → MS kA f0 f o li si su di L S G U → mw_I D vwCl A s H locs f → lv_has ls 5 [(2, .int (iI (i))), (0, .ref o), (1, .int (iI ((a : Int))))] → W p l e rm_X3_spell s m ([.ref o, .int (iI ((a : Int)))] : List Value).toArray below meth c H locs 0 0 Q (F0 m 9 ls []) := by
    intro μ
    induction μ with
    | zero => intro n i L S G U Zc f H locs ls hμ; exact absurd hμ (Nat.not_lt_zero _)
    | succ μ ih =>
      intro n i L S G U Zc f H locs ls hμ hi hn hL hZ hr hv hG h2 hM hI hl
      refine mv_iload_n B dX3_spell_9 rfl (lv_at hl 0 rfl) ?_
      have ih0 := ih
      refine mv_if_eq (tgt := 23) B dX3_spell_10 (by decide) (by omega) (fun hd0 => ?_) (fun hd0 => ?_)
      · have n0 : n = 0 := by omega
        have hcont : 2 ≤ n + 1 → mm / 10 ^ (n + 1 - 1) ≠ 0 := fun h => absurd h (by omega)
        have hstep : n + 1 ≤ 300 := by omega
        have hL0 := hL
        have k16 := hZ 16 (by decide)
        unfold hz at k16
        rw [hv] at k16
        refine mv_iconst B dX3_spell_23 ?_
        refine mv_istore_n (lv' := [(3, .int (iI (0))), (2, .int (iI (i))), (0, .ref o), (1, .int (iI ((a : Int))))]) B dX3_spell_24 rfl hl (by decide) rfl (fun ls hl => ?_)
        refine mv_sipush B dX3_spell_25 (by decide) ?_
        refine mv_istore (lv' := [(4, .int (iI (139))), (3, .int (iI (0))), (2, .int (iI (i))), (0, .ref o), (1, .int (iI ((a : Int))))]) B dX3_spell_28 hl (by decide) rfl (fun ls hl => ?_)
        have loop2 : ∀ (μ : Nat) (j : Nat) (y lf : Int) (L' : Nat → Int) (f : mw_M) (H : Heap) (locs : List Loc) (ls : Array Slot), j < μ → y = (j : Int) - 1 → j ≤ 140 → (0 ≤ lf ∧ lf < 10) → lr L' → (∀ i, ¬ (140 * 16 + j ≤ i ∧ i < 140 * 16 + 140) → L' i = L i) → mm / 10 ^ n = 10 * (ev (fun i => L' (140 * 16 + i)) 140 - ev (fun i => L (140 * 16 + i)) j) + lf * 65536 ^ j + ev (fun i => L (140 * 16 + i)) j → MS kA f0 f o li si su di L' S G U → mw_I D vwCl A s H locs f → lv_has ls 5 [(4, .int (iI (y))), (3, .int (iI (lf))), (2, .int (iI (i))), (0, .ref o), (1, .int (iI ((a : Int))))] → W p l e rm_X3_spell s m ([.ref o, .int (iI ((a : Int)))] : List Value).toArray below meth c H locs 0 0 Q (F0 m 30 ls []) := by
          intro μ
          induction μ with
          | zero => intro j y lf L' f H locs ls hμ; exact absurd hμ (Nat.not_lt_zero _)
          | succ μ ih =>
            intro j y lf L' f H locs ls hμ hy hj hlf hL' ho he hM hI hl
            refine mv_iload B dX3_spell_30 (lv_at hl 0 rfl) ?_
            refine mv_if_lt (tgt := 75) B dX3_spell_32 (by decide) (by omega) (fun hd5 => ?_) (fun hd5 => ?_)
            · obtain rfl : j = 0 := by omega
              rw [evz, ev_0, Int.pow_zero, Int.mul_one] at he
              have m16 : mg L' 16 = mm / 10 ^ n / 10 := by omega
              have l16 : lf = mm / 10 ^ n % 10 := by omega
              rw [div_next] at m16
              refine mv_aload_n B dX3_spell_75 rfl (lv_at hl 3 rfl) ?_
              refine mv_bipush B dX3_spell_76 (by decide) ?_
              refine mv_iconst B dX3_spell_78 ?_
              refine mw_callv hI hA (va_runV (As := [.int (iI (16)), .int (iI (1))]) (rest := []) B.fix (t_X3_settle l D kA H.size f (r := 16) hM.self hL' (by omega) (by omega)) (cwV 2 B.2.2.2.2.1 (gV kw_367 kw_369 ks_17 kw_4 kw_370) rfl rfl rfl (by decide +kernel) ⟨Nat.le_of_ble_eq_true rfl, Nat.le_of_ble_eq_true rfl⟩) ⟨mw_blind st_S.blind, mw_recv B hI hM.1 rfl, mw_pre B hI (hSt.call hI hA)⟩ rfl rfl hl.1 rfl (lv_room (Nat.le_of_ble_eq_true rfl)) dX3_spell_79 ⟨Nat.le_of_ble_eq_true rfl, Nat.le_of_ble_eq_true rfl⟩) (fun f H locs hp hI2 => ?_)
              clear hI
              have hI := hI2
              clear hI2
              have hM := hM.tr hp
              refine mv_aload_n B dX3_spell_82 rfl (lv_at hl 3 rfl) ?_
              refine mw_get (C := RX3) (T := TX3) (N := 4) B hI hM.1 uin_X3 rfl 3 (by decide) kw_384 rfl dX3_spell_83 ?_
              refine mv_iload_n B dX3_spell_86 rfl (lv_at hl 2 rfl) ?_
              refine mv_iload_n B dX3_spell_87 rfl (lv_at hl 1 rfl) ?_
              refine md_G B hI hM (n) (by omega) (by omega) dX3_spell_88 (fun f H locs hM hI => ?_)
              refine mv_iinc (k := 2) (lv' := [(2, .int (iI (i + 1))), (4, .int (iI (y))), (3, .int (iI (lf))), (0, .ref o), (1, .int (iI ((a : Int))))]) B dX3_spell_89 hl rfl (by decide) rfl (fun ls hl => ?_)
              refine mv_goto (tgt := 9) B dX3_spell_92 (by decide) ?_
              have q0 : 0 ≤ mm / 10 ^ (n + 1) := Int.ediv_nonneg m0 (Int.le_of_lt (tp_pos _))
              have hn1 : n + 1 ≤ 300 := hstep
              refine ih0 (n + 1) _ L' _ _ U (upI Zc 16 (mm / 10 ^ (n + 1))) f H locs ls (by omega) (by omega) hn1 hL' (fun r a1 => ?_) (fun r a1 => by rw [upI_ne _ _ a1]; exact hr r a1) (by rw [upI_self]; omega) (fun i hi => ?_) (fun _ => hcont (by omega)) hM hI (lv_sub hl [0, 3, 4] rfl)
              · by_cases q : r = 16
                · subst q
                  rw [upI_self]
                  refine ⟨by rw [m16]; omega, ?_⟩
                  rw [upI_self, m16]
                  by_cases z : mm / 10 ^ (n + 1) = 0
                  · rw [if_pos z, c3_eq z]
                  · rw [if_neg z, c3_gt (by omega)]
                · rw [upI_ne _ _ q]
                  refine ⟨(mg_same (fun i hi => ho _ (by omega))).trans (hZ r a1).1, ?_⟩
                  rw [upI_ne _ _ q]
                  exact (hZ r a1).2
              · by_cases q : i = n
                · subst q; rw [upI_self]; exact l16
                · rw [upI_ne _ _ q]; exact hG i (by omega)
            · obtain ⟨k, rfl⟩ : ∃ k, j = k + 1 := ⟨j - 1, by omega⟩
              have la := hL (140 * 16 + k) (by omega)
              have ea : L' (140 * 16 + k) = L (140 * 16 + k) := ho _ (by omega)
              refine mv_iload_n B dX3_spell_35 rfl (lv_at hl 1 rfl) ?_
              refine mv_bipush B dX3_spell_36 (by decide) ?_
              refine mv_shl (16) B dX3_spell_38 (by omega) (by omega) (by omega) ?_
              refine mv_aload_n B dX3_spell_39 rfl (lv_at hl 3 rfl) ?_
              refine mv_bipush B dX3_spell_40 (by decide) ?_
              refine mv_iload B dX3_spell_42 (lv_at hl 0 rfl) ?_
              refine mw_calli hI hA (va_runV (As := [.int (iI (16)), .int (iI (y))]) (rest := [.int (iI ((lf) * 2 ^ (16)))]) B.fix (t_X3_at l D kA H.size f (r := 16) (k := k) hM.self hL' (by omega) (by omega) (by omega) (by omega)) (cwV 2 B.2.2.2.2.1 (gV kw_371 kw_373 ks_18 kw_4 kw_374) rfl rfl rfl (by decide +kernel) ⟨Nat.le_of_ble_eq_true rfl, Nat.le_of_ble_eq_true rfl⟩) ⟨mw_blind st_S.blind, mw_recv B hI hM.1 rfl, mw_pre B hI (hSt.call hI hA)⟩ rfl rfl hl.1 rfl (lv_room (Nat.le_of_ble_eq_true rfl)) dX3_spell_44 ⟨Nat.le_of_ble_eq_true rfl, Nat.le_of_ble_eq_true rfl⟩) (fun r f H locs hp hI2 => ?_)
              clear hI
              have hI := hI2
              clear hI2
              obtain ⟨rfl, rfl⟩ := hp
              rw [ea]
              refine mv_or 16 B dX3_spell_47 (by omega) (by omega) ?_
              refine mv_nmi (fun tt htt => ?_)
              refine mv_istore_n (lv' := [(3, .int (iI (tt))), (4, .int (iI (y))), (2, .int (iI (i))), (0, .ref o), (1, .int (iI ((a : Int))))]) B dX3_spell_48 rfl hl (by decide) rfl (fun ls hl => ?_)
              refine mv_aload_n B dX3_spell_49 rfl (lv_at hl 3 rfl) ?_
              refine mw_get (C := RX3) (T := TX3) (N := 4) B hI hM.1 uin_X3 rfl 0 (by decide) kw_381 rfl dX3_spell_50 ?_
              refine mv_sipush B dX3_spell_53 (by decide) ?_
              refine mv_iload B dX3_spell_56 (lv_at hl 1 rfl) ?_
              refine mv_iadd B dX3_spell_58 ?_
              refine mv_iload_n B dX3_spell_59 rfl (lv_at hl 0 rfl) ?_
              refine mv_bipush B dX3_spell_60 (by decide) ?_
              refine mv_idiv B dX3_spell_62 (by omega) ?_
              refine md_L B hI hM (140 * 16 + k) (by omega) (by omega) dX3_spell_63 (fun f H locs hM hI => ?_)
              refine mv_iload_n B dX3_spell_64 rfl (lv_at hl 0 rfl) ?_
              refine mv_bipush B dX3_spell_65 (by decide) ?_
              refine mv_irem B dX3_spell_67 (by omega) ?_
              refine mv_istore_n (lv' := [(3, .int (iI ((tt) % (10)))), (4, .int (iI (y))), (2, .int (iI (i))), (0, .ref o), (1, .int (iI ((a : Int))))]) B dX3_spell_68 rfl hl (by decide) rfl (fun ls hl => ?_)
              refine mv_iinc (k := 1) (lv' := [(4, .int (iI (y + (-1)))), (3, .int (iI ((tt) % (10)))), (2, .int (iI (i))), (0, .ref o), (1, .int (iI ((a : Int))))]) B dX3_spell_69 hl rfl (by decide) rfl (fun ls hl => ?_)
              refine mv_goto (tgt := 30) B dX3_spell_72 (by decide) ?_
              refine ih k _ _ _ f H locs ls (by omega) (by omega) (by omega) (by omega) (hL'.up (by omega)) (fun i hi => by rw [upI_ne _ _ (by omega)]; exact ho i (by omega)) ?_ hM hI (lv_sub hl [0, 1, 2, 3, 4] rfl)
              rw [ro_up (by omega), ev_up (by omega)]
              rw [ev_s, ep_s] at he
              show _ = 10 * (ev (fun i => L' (140 * 16 + i)) 140 + (tt / 10 - L' (140 * 16 + k)) * 65536 ^ k - _) + _ + _
              rw [ea]
              exact sp_step he htt
        exact loop2 141 140 _ _ L f H locs ls (by decide) rfl (by decide) (by decide) hL (fun _ _ => rfl) (by rw [evz, k16.1]; omega) hM hI (lv_sub hl [0, 1, 2, 3, 4] rfl)
      · refine mv_aload_n B dX3_spell_13 rfl (lv_at hl 1 rfl) ?_
        refine mw_get (C := RX3) (T := TX3) (N := 4) B hI hM.1 uin_X3 rfl 1 (by decide) kw_382 rfl dX3_spell_14 ?_
        refine mv_bipush B dX3_spell_17 (by decide) ?_
        refine mw_iald B hI 0 hM.2.2.1 rfl (16) (by omega) (by omega) (by decide) dX3_spell_19 ?_
        rw [(hZ (16) (by omega)).2]
        have sg_ := c3_sg (Zc (16))
        refine mv_if_eq (tgt := 95) B dX3_spell_20 (by decide) (by omega) (fun hd1 => ?_) (fun hd1 => ?_)
        · have z16 : Zc 16 = 0 := by omega
          have zz : mm / 10 ^ n = 0 := by rw [← hv, z16]; rfl
          refine mv_iload_n B dX3_spell_95 rfl (lv_at hl 0 rfl) ?_
          exact mw_iret B hQ hrt hI ⟨n, Zc, L, S, G, U, by rw [hi], hn, by rw [← hm0]; exact isnd_of m0 (by omega) zz h2, fun i hi => by rw [← hm0]; exact hG i hi, hM, hL, hZ, hr⟩ dX3_spell_96
        · have zz : mm / 10 ^ n ≠ 0 := by omega
          have hcont : 2 ≤ n + 1 → mm / 10 ^ (n + 1 - 1) ≠ 0 := fun _ => zz
          have hstep : n + 1 ≤ 300 := tp_lt ((div_ne m0).mp zz) mb
          have hL0 := hL
          have k16 := hZ 16 (by decide)
          unfold hz at k16
          rw [hv] at k16
          refine mv_iconst B dX3_spell_23 ?_
          refine mv_istore_n (lv' := [(3, .int (iI (0))), (2, .int (iI (i))), (0, .ref o), (1, .int (iI ((a : Int))))]) B dX3_spell_24 rfl hl (by decide) rfl (fun ls hl => ?_)
          refine mv_sipush B dX3_spell_25 (by decide) ?_
          refine mv_istore (lv' := [(4, .int (iI (139))), (3, .int (iI (0))), (2, .int (iI (i))), (0, .ref o), (1, .int (iI ((a : Int))))]) B dX3_spell_28 hl (by decide) rfl (fun ls hl => ?_)
          have loop2 : ∀ (μ : Nat) (j : Nat) (y lf : Int) (L' : Nat → Int) (f : mw_M) (H : Heap) (locs : List Loc) (ls : Array Slot), j < μ → y = (j : Int) - 1 → j ≤ 140 → (0 ≤ lf ∧ lf < 10) → lr L' → (∀ i, ¬ (140 * 16 + j ≤ i ∧ i < 140 * 16 + 140) → L' i = L i) → mm / 10 ^ n = 10 * (ev (fun i => L' (140 * 16 + i)) 140 - ev (fun i => L (140 * 16 + i)) j) + lf * 65536 ^ j + ev (fun i => L (140 * 16 + i)) j → MS kA f0 f o li si su di L' S G U → mw_I D vwCl A s H locs f → lv_has ls 5 [(4, .int (iI (y))), (3, .int (iI (lf))), (2, .int (iI (i))), (0, .ref o), (1, .int (iI ((a : Int))))] → W p l e rm_X3_spell s m ([.ref o, .int (iI ((a : Int)))] : List Value).toArray below meth c H locs 0 0 Q (F0 m 30 ls []) := by
            intro μ
            induction μ with
            | zero => intro j y lf L' f H locs ls hμ; exact absurd hμ (Nat.not_lt_zero _)
            | succ μ ih =>
              intro j y lf L' f H locs ls hμ hy hj hlf hL' ho he hM hI hl
              refine mv_iload B dX3_spell_30 (lv_at hl 0 rfl) ?_
              refine mv_if_lt (tgt := 75) B dX3_spell_32 (by decide) (by omega) (fun hd5 => ?_) (fun hd5 => ?_)
              · obtain rfl : j = 0 := by omega
                rw [evz, ev_0, Int.pow_zero, Int.mul_one] at he
                have m16 : mg L' 16 = mm / 10 ^ n / 10 := by omega
                have l16 : lf = mm / 10 ^ n % 10 := by omega
                rw [div_next] at m16
                refine mv_aload_n B dX3_spell_75 rfl (lv_at hl 3 rfl) ?_
                refine mv_bipush B dX3_spell_76 (by decide) ?_
                refine mv_iconst B dX3_spell_78 ?_
                refine mw_callv hI hA (va_runV (As := [.int (iI (16)), .int (iI (1))]) (rest := []) B.fix (t_X3_settle l D kA H.size f (r := 16) hM.self hL' (by omega) (by omega)) (cwV 2 B.2.2.2.2.1 (gV kw_367 kw_369 ks_17 kw_4 kw_370) rfl rfl rfl (by decide +kernel) ⟨Nat.le_of_ble_eq_true rfl, Nat.le_of_ble_eq_true rfl⟩) ⟨mw_blind st_S.blind, mw_recv B hI hM.1 rfl, mw_pre B hI (hSt.call hI hA)⟩ rfl rfl hl.1 rfl (lv_room (Nat.le_of_ble_eq_true rfl)) dX3_spell_79 ⟨Nat.le_of_ble_eq_true rfl, Nat.le_of_ble_eq_true rfl⟩) (fun f H locs hp hI2 => ?_)
                clear hI
                have hI := hI2
                clear hI2
                have hM := hM.tr hp
                refine mv_aload_n B dX3_spell_82 rfl (lv_at hl 3 rfl) ?_
                refine mw_get (C := RX3) (T := TX3) (N := 4) B hI hM.1 uin_X3 rfl 3 (by decide) kw_384 rfl dX3_spell_83 ?_
                refine mv_iload_n B dX3_spell_86 rfl (lv_at hl 2 rfl) ?_
                refine mv_iload_n B dX3_spell_87 rfl (lv_at hl 1 rfl) ?_
                refine md_G B hI hM (n) (by omega) (by omega) dX3_spell_88 (fun f H locs hM hI => ?_)
                refine mv_iinc (k := 2) (lv' := [(2, .int (iI (i + 1))), (4, .int (iI (y))), (3, .int (iI (lf))), (0, .ref o), (1, .int (iI ((a : Int))))]) B dX3_spell_89 hl rfl (by decide) rfl (fun ls hl => ?_)
                refine mv_goto (tgt := 9) B dX3_spell_92 (by decide) ?_
                have q0 : 0 ≤ mm / 10 ^ (n + 1) := Int.ediv_nonneg m0 (Int.le_of_lt (tp_pos _))
                have hn1 : n + 1 ≤ 300 := hstep
                refine ih0 (n + 1) _ L' _ _ U (upI Zc 16 (mm / 10 ^ (n + 1))) f H locs ls (by omega) (by omega) hn1 hL' (fun r a1 => ?_) (fun r a1 => by rw [upI_ne _ _ a1]; exact hr r a1) (by rw [upI_self]; omega) (fun i hi => ?_) (fun _ => hcont (by omega)) hM hI (lv_sub hl [0, 3, 4] rfl)
                · by_cases q : r = 16
                  · subst q
                    rw [upI_self]
                    refine ⟨by rw [m16]; omega, ?_⟩
                    rw [upI_self, m16]
                    by_cases z : mm / 10 ^ (n + 1) = 0
                    · rw [if_pos z, c3_eq z]
                    · rw [if_neg z, c3_gt (by omega)]
                  · rw [upI_ne _ _ q]
                    refine ⟨(mg_same (fun i hi => ho _ (by omega))).trans (hZ r a1).1, ?_⟩
                    rw [upI_ne _ _ q]
                    exact (hZ r a1).2
                · by_cases q : i = n
                  · subst q; rw [upI_self]; exact l16
                  · rw [upI_ne _ _ q]; exact hG i (by omega)
              · obtain ⟨k, rfl⟩ : ∃ k, j = k + 1 := ⟨j - 1, by omega⟩
                have la := hL (140 * 16 + k) (by omega)
                have ea : L' (140 * 16 + k) = L (140 * 16 + k) := ho _ (by omega)
                refine mv_iload_n B dX3_spell_35 rfl (lv_at hl 1 rfl) ?_
                refine mv_bipush B dX3_spell_36 (by decide) ?_
                refine mv_shl (16) B dX3_spell_38 (by omega) (by omega) (by omega) ?_
                refine mv_aload_n B dX3_spell_39 rfl (lv_at hl 3 rfl) ?_
                refine mv_bipush B dX3_spell_40 (by decide) ?_
                refine mv_iload B dX3_spell_42 (lv_at hl 0 rfl) ?_
                refine mw_calli hI hA (va_runV (As := [.int (iI (16)), .int (iI (y))]) (rest := [.int (iI ((lf) * 2 ^ (16)))]) B.fix (t_X3_at l D kA H.size f (r := 16) (k := k) hM.self hL' (by omega) (by omega) (by omega) (by omega)) (cwV 2 B.2.2.2.2.1 (gV kw_371 kw_373 ks_18 kw_4 kw_374) rfl rfl rfl (by decide +kernel) ⟨Nat.le_of_ble_eq_true rfl, Nat.le_of_ble_eq_true rfl⟩) ⟨mw_blind st_S.blind, mw_recv B hI hM.1 rfl, mw_pre B hI (hSt.call hI hA)⟩ rfl rfl hl.1 rfl (lv_room (Nat.le_of_ble_eq_true rfl)) dX3_spell_44 ⟨Nat.le_of_ble_eq_true rfl, Nat.le_of_ble_eq_true rfl⟩) (fun r f H locs hp hI2 => ?_)
                clear hI
                have hI := hI2
                clear hI2
                obtain ⟨rfl, rfl⟩ := hp
                rw [ea]
                refine mv_or 16 B dX3_spell_47 (by omega) (by omega) ?_
                refine mv_nmi (fun tt htt => ?_)
                refine mv_istore_n (lv' := [(3, .int (iI (tt))), (4, .int (iI (y))), (2, .int (iI (i))), (0, .ref o), (1, .int (iI ((a : Int))))]) B dX3_spell_48 rfl hl (by decide) rfl (fun ls hl => ?_)
                refine mv_aload_n B dX3_spell_49 rfl (lv_at hl 3 rfl) ?_
                refine mw_get (C := RX3) (T := TX3) (N := 4) B hI hM.1 uin_X3 rfl 0 (by decide) kw_381 rfl dX3_spell_50 ?_
                refine mv_sipush B dX3_spell_53 (by decide) ?_
                refine mv_iload B dX3_spell_56 (lv_at hl 1 rfl) ?_
                refine mv_iadd B dX3_spell_58 ?_
                refine mv_iload_n B dX3_spell_59 rfl (lv_at hl 0 rfl) ?_
                refine mv_bipush B dX3_spell_60 (by decide) ?_
                refine mv_idiv B dX3_spell_62 (by omega) ?_
                refine md_L B hI hM (140 * 16 + k) (by omega) (by omega) dX3_spell_63 (fun f H locs hM hI => ?_)
                refine mv_iload_n B dX3_spell_64 rfl (lv_at hl 0 rfl) ?_
                refine mv_bipush B dX3_spell_65 (by decide) ?_
                refine mv_irem B dX3_spell_67 (by omega) ?_
                refine mv_istore_n (lv' := [(3, .int (iI ((tt) % (10)))), (4, .int (iI (y))), (2, .int (iI (i))), (0, .ref o), (1, .int (iI ((a : Int))))]) B dX3_spell_68 rfl hl (by decide) rfl (fun ls hl => ?_)
                refine mv_iinc (k := 1) (lv' := [(4, .int (iI (y + (-1)))), (3, .int (iI ((tt) % (10)))), (2, .int (iI (i))), (0, .ref o), (1, .int (iI ((a : Int))))]) B dX3_spell_69 hl rfl (by decide) rfl (fun ls hl => ?_)
                refine mv_goto (tgt := 30) B dX3_spell_72 (by decide) ?_
                refine ih k _ _ _ f H locs ls (by omega) (by omega) (by omega) (by omega) (hL'.up (by omega)) (fun i hi => by rw [upI_ne _ _ (by omega)]; exact ho i (by omega)) ?_ hM hI (lv_sub hl [0, 1, 2, 3, 4] rfl)
                rw [ro_up (by omega), ev_up (by omega)]
                rw [ev_s, ep_s] at he
                show _ = 10 * (ev (fun i => L' (140 * 16 + i)) 140 + (tt / 10 - L' (140 * 16 + k)) * 65536 ^ k - _) + _ + _
                rw [ea]
                exact sp_step he htt
          exact loop2 141 140 _ _ L f H locs ls (by decide) rfl (by decide) (by decide) hL (fun _ _ => rfl) (by rw [evz, k16.1]; omega) hM hI (lv_sub hl [0, 1, 2, 3, 4] rfl)
  exact loop 302 0 _ L S G U Z1 f H locs ls (by decide) rfl (by decide) hL hZ r1 (by rw [v1, Int.pow_zero, Int.ediv_one]; exact hm0.symm) (fun i hi => absurd hi (by omega)) (fun h => absurd h (by decide)) hM hI (lv_sub hl [0, 1, 2] rfl)
abbrev rm_X3_digits : Room := { frames := 3, cells := 0, slots := 0, locals := 70 }
set_option maxHeartbeats 4000000 in
set_option maxRecDepth 100000 in
/-- digits -/
theorem t_X3_digits (l : Launch) (D : va_G) (kA : Nat → ClassId) (sz : Nat) (f0 : mw_M) {o li si su di : Nat} {Z : Nat → Int}{a : Int} (hm : MM kA f0 f0 o li si su di Z) (h24 : Z 24 = 1000000 ^ 50) (hB : ∀ i, i < 16 → ((Z i).natAbs : Int) < 1000000 ^ 50) (ha : -2147483648 ≤ a ∧ a ≤ 2147483647) : mw_Mi l yX3_digits (Cond.code yX3_digits cX3_digits 2 ((some .int)) :: gw) rm_X3_digits D vwCl (tyL kA) st_S [.ref o, .int (iI (a))] f0 sz (fun v f => v = iI (sp_digits Z a) ∧ ∃ Z', MM kA f0 f o li si su di Z' ∧ Z' 24 = 1000000 ^ 50 ∧ ∀ i, i < 16 → Z' i = Z i) 0 0 := by
  refine mw_ofi (cc := cX3_digits) (maxL := 2) (ret := (some .int)) (by decide) rfl (Nat.le_of_ble_eq_true rfl) ?_
  intro p e s m below meth c A ls Q hQ B hrt hnm hA hI hSt hl
  have hl : lv_has ls 2 [(0, .ref o), (1, .int (iI (a)))] := hl
  obtain ⟨f, hI, hm, hf⟩ : ∃ f, mw_I D vwCl A s s.heap [] f ∧ MM kA f0 f o li si su di Z ∧ f = f0 := ⟨f0, hI, hm, rfl⟩
  have hsl : ∀ i, i < 16 → Z i = Z i := fun _ _ => rfl
  have h240 := h24
  refine mv_iload_n B dX3_digits_0 rfl (lv_at hl 1 rfl) ?_
  refine mw_calli hI hA (va_runS (As := [.int (iI (a))]) (rest := []) B.fix (t_X3_isSlot l D kA s.heap.size f ha) (cwS 1 B.2.2.2.2.1 (gS kw_399 kw_400 kw_4 kw_401) rfl rfl rfl (by decide +kernel) ⟨Nat.le_of_ble_eq_true rfl, Nat.le_of_ble_eq_true rfl⟩) ⟨mw_blind st_S.blind, mw_pre B hI (hSt.call hI hA)⟩ rfl rfl hl.1 rfl (lv_room (Nat.le_of_ble_eq_true rfl)) dX3_digits_1 ⟨Nat.le_of_ble_eq_true rfl, Nat.le_of_ble_eq_true rfl⟩) (fun r f H locs hp hI2 => ?_)
  clear hI
  have hI := hI2
  clear hI2
  obtain ⟨rfl, rfl⟩ := hp
  refine mv_if_eq (tgt := 15) B dX3_digits_4 (by decide) (by split <;> omega) (fun hc => ?_) (fun hc => ?_)
  · have h1 : ¬ (sOk a) := fun q => by rw [if_pos q] at hc; exact absurd hc (by decide)
    have e9 : sp_digits Z a = -1 := by unfold sp_digits; rw [if_neg h1]
    refine mv_iconst B dX3_digits_15 ?_
    exact mw_iret B hQ hrt hI ⟨by rw [e9], _, hm, h24, hsl⟩ dX3_digits_16
  · have h1 : sOk a := by
      by_cases q : sOk a
      · exact q
      · rw [if_neg q] at hc; exact absurd rfl hc
    refine mv_aload_n B dX3_digits_7 rfl (lv_at hl 0 rfl) ?_
    refine mv_iload_n B dX3_digits_8 rfl (lv_at hl 1 rfl) ?_
    refine mw_calli hI hA (va_runV (As := [.int (iI (a))]) (rest := []) B.fix (t_X3_spell l D kA H.size f (a := a.toNat) hm.self h24 hB (by omega) (by omega)) (cwV 1 B.2.2.2.2.1 (gV kw_529 kw_531 ks_35 kw_4 kw_532) rfl rfl rfl (by decide +kernel) ⟨Nat.le_of_ble_eq_true rfl, Nat.le_of_ble_eq_true rfl⟩) ⟨mw_blind st_S.blind, mw_recv B hI (by obtain ⟨_, _, _, _, q, _⟩ := hm; exact q.1) rfl, mw_pre B hI (hSt.call hI hA)⟩ rfl rfl hl.1 rfl (lv_room (Nat.le_of_ble_eq_true rfl)) dX3_digits_9 ⟨Nat.le_of_ble_eq_true rfl, Nat.le_of_ble_eq_true rfl⟩) (fun r f H locs hp hI2 => ?_)
    clear hI
    have hI := hI2
    clear hI2
    obtain ⟨n, Z1, L, S, G, U, rfl, hn, hnd, hG, hM1, hL, hZ, hr⟩ := hp
    have hM : MS kA f0 f o li si su di L S G U := by obtain ⟨_, _, _, _, q, _⟩ := hm; exact q.tr hM1
    have hm : MM kA f0 f o li si su di Z1 := ⟨L, S, G, U, hM, hL, hZ⟩
    have h24 : Z1 24 = 1000000 ^ 50 := (hr 24 (by decide)).trans h24
    have hsl : ∀ i, i < 16 → Z1 i = Z i := fun i hi => hr i (by omega)
    have hng := ndg_eq hnd
    refine mv_goto (tgt := 16) B dX3_digits_12 (by decide) ?_
    have e9 : sp_digits Z a = (n : Int) := by unfold sp_digits; rw [if_pos h1, hng]
    exact mw_iret B hQ hrt hI ⟨by rw [e9], _, hm, h24, hsl⟩ dX3_digits_16
abbrev rm_X3_digitAt : Room := { frames := 3, cells := 0, slots := 0, locals := 70 }
set_option maxHeartbeats 4000000 in
set_option maxRecDepth 100000 in
/-- digitAt -/
theorem t_X3_digitAt (l : Launch) (D : va_G) (kA : Nat → ClassId) (sz : Nat) (f0 : mw_M) {o li si su di : Nat} {Z : Nat → Int}{a i : Int} (hm : MM kA f0 f0 o li si su di Z) (h24 : Z 24 = 1000000 ^ 50) (hB : ∀ i, i < 16 → ((Z i).natAbs : Int) < 1000000 ^ 50) (ha : -2147483648 ≤ a ∧ a ≤ 2147483647) (hi : -2147483648 ≤ i ∧ i ≤ 2147483647) : mw_Mi l yX3_digitAt (Cond.code yX3_digitAt cX3_digitAt 4 ((some .int)) :: gw) rm_X3_digitAt D vwCl (tyL kA) st_S [.ref o, .int (iI (a)), .int (iI (i))] f0 sz (fun v f => v = iI (sp_digitAt Z a i) ∧ ∃ Z', MM kA f0 f o li si su di Z' ∧ Z' 24 = 1000000 ^ 50 ∧ ∀ i, i < 16 → Z' i = Z i) 0 0 := by
  refine mw_ofi (cc := cX3_digitAt) (maxL := 4) (ret := (some .int)) (by decide) rfl (Nat.le_of_ble_eq_true rfl) ?_
  intro p e s m below meth c A ls Q hQ B hrt hnm hA hI hSt hl
  have hl : lv_has ls 4 [(0, .ref o), (1, .int (iI (a))), (2, .int (iI (i)))] := hl
  obtain ⟨f, hI, hm, hf⟩ : ∃ f, mw_I D vwCl A s s.heap [] f ∧ MM kA f0 f o li si su di Z ∧ f = f0 := ⟨f0, hI, hm, rfl⟩
  have hsl : ∀ i, i < 16 → Z i = Z i := fun _ _ => rfl
  have h240 := h24
  refine mv_iload_n B dX3_digitAt_0 rfl (lv_at hl 1 rfl) ?_
  refine mw_calli hI hA (va_runS (As := [.int (iI (a))]) (rest := []) B.fix (t_X3_isSlot l D kA s.heap.size f ha) (cwS 1 B.2.2.2.2.1 (gS kw_399 kw_400 kw_4 kw_401) rfl rfl rfl (by decide +kernel) ⟨Nat.le_of_ble_eq_true rfl, Nat.le_of_ble_eq_true rfl⟩) ⟨mw_blind st_S.blind, mw_pre B hI (hSt.call hI hA)⟩ rfl rfl hl.1 rfl (lv_room (Nat.le_of_ble_eq_true rfl)) dX3_digitAt_1 ⟨Nat.le_of_ble_eq_true rfl, Nat.le_of_ble_eq_true rfl⟩) (fun r f H locs hp hI2 => ?_)
  clear hI
  have hI := hI2
  clear hI2
  obtain ⟨rfl, rfl⟩ := hp
  refine mv_if_ne (tgt := 9) B dX3_digitAt_4 (by decide) (by split <;> omega) (fun hc => ?_) (fun hc => ?_)
  · have h1 : sOk a := by
      by_cases q : sOk a
      · exact q
      · rw [if_neg q] at hc; exact absurd rfl hc
    refine mv_aload_n B dX3_digitAt_9 rfl (lv_at hl 0 rfl) ?_
    refine mv_iload_n B dX3_digitAt_10 rfl (lv_at hl 1 rfl) ?_
    refine mw_calli hI hA (va_runV (As := [.int (iI (a))]) (rest := []) B.fix (t_X3_spell l D kA H.size f (a := a.toNat) hm.self h24 hB (by omega) (by omega)) (cwV 1 B.2.2.2.2.1 (gV kw_529 kw_531 ks_35 kw_4 kw_532) rfl rfl rfl (by decide +kernel) ⟨Nat.le_of_ble_eq_true rfl, Nat.le_of_ble_eq_true rfl⟩) ⟨mw_blind st_S.blind, mw_recv B hI (by obtain ⟨_, _, _, _, q, _⟩ := hm; exact q.1) rfl, mw_pre B hI (hSt.call hI hA)⟩ rfl rfl hl.1 rfl (lv_room (Nat.le_of_ble_eq_true rfl)) dX3_digitAt_11 ⟨Nat.le_of_ble_eq_true rfl, Nat.le_of_ble_eq_true rfl⟩) (fun r f H locs hp hI2 => ?_)
    clear hI
    have hI := hI2
    clear hI2
    obtain ⟨n, Z1, L, S, G, U, rfl, hn, hnd, hG, hM1, hL, hZ, hr⟩ := hp
    have hM : MS kA f0 f o li si su di L S G U := by obtain ⟨_, _, _, _, q, _⟩ := hm; exact q.tr hM1
    have hm : MM kA f0 f o li si su di Z1 := ⟨L, S, G, U, hM, hL, hZ⟩
    have h24 : Z1 24 = 1000000 ^ 50 := (hr 24 (by decide)).trans h24
    have hsl : ∀ i, i < 16 → Z1 i = Z i := fun i hi => hr i (by omega)
    have hng := ndg_eq hnd
    refine mv_istore_n (lv' := [(3, .int (iI ((n : Int)))), (0, .ref o), (1, .int (iI (a))), (2, .int (iI (i)))]) B dX3_digitAt_14 rfl hl (by decide) rfl (fun ls hl => ?_)
    refine mv_iload_n B dX3_digitAt_15 rfl (lv_at hl 3 rfl) ?_
    refine mv_if_lt (tgt := 24) B dX3_digitAt_16 (by decide) (by omega) (fun hd1 => ?_) (fun hd1 => ?_)
    · have e9 : sp_digitAt Z a i = -1 := by unfold sp_digitAt; rw [if_neg (fun q => by rw [hng] at q; omega)]
      refine mv_iconst B dX3_digitAt_24 ?_
      refine mv_goto (tgt := 38) B dX3_digitAt_25 (by decide) ?_
      exact mw_iret B hQ hrt hI ⟨by rw [e9], _, hm, h24, hsl⟩ dX3_digitAt_38
    · refine mv_iload_n B dX3_digitAt_19 rfl (lv_at hl 3 rfl) ?_
      refine mv_iload_n B dX3_digitAt_20 rfl (lv_at hl 0 rfl) ?_
      refine mv_icmp_lt (tgt := 28) B dX3_digitAt_21 (by decide) (by omega) (fun hd2 => ?_) (fun hd2 => ?_)
      · refine mv_aload_n B dX3_digitAt_28 rfl (lv_at hl 1 rfl) ?_
        refine mw_get (C := RX3) (T := TX3) (N := 4) B hI hM.1 uin_X3 rfl 3 (by decide) kw_384 rfl dX3_digitAt_29 ?_
        refine mv_iload_n B dX3_digitAt_32 rfl (lv_at hl 0 rfl) ?_
        refine mv_iconst B dX3_digitAt_33 ?_
        refine mv_isub B dX3_digitAt_34 ?_
        refine mv_iload_n B dX3_digitAt_35 rfl (lv_at hl 3 rfl) ?_
        refine mv_isub B dX3_digitAt_36 ?_
        refine mw_iald B hI 0 hM.2.2.2.1 rfl (n - 1 - i.toNat) (by omega) (by omega) (by decide) dX3_digitAt_37 ?_
        have e9 : sp_digitAt Z a i = G (n - 1 - i.toNat) := by
          unfold sp_digitAt
          rw [hng, if_pos ⟨h1, by omega, by omega⟩, hG _ (by omega), show ((n : Int) - 1 - i).toNat = n - 1 - i.toNat by omega]
        exact mw_iret B hQ hrt hI ⟨by rw [e9], _, hm, h24, hsl⟩ dX3_digitAt_38
      · have e9 : sp_digitAt Z a i = -1 := by unfold sp_digitAt; rw [if_neg (fun q => by rw [hng] at q; omega)]
        refine mv_iconst B dX3_digitAt_24 ?_
        refine mv_goto (tgt := 38) B dX3_digitAt_25 (by decide) ?_
        exact mw_iret B hQ hrt hI ⟨by rw [e9], _, hm, h24, hsl⟩ dX3_digitAt_38
  · have h1 : ¬ (sOk a) := fun q => by rw [if_pos q] at hc; exact absurd hc (by decide)
    have e9 : sp_digitAt Z a i = -1 := by unfold sp_digitAt; rw [if_neg (fun q => h1 q.1)]
    refine mv_iconst B dX3_digitAt_7 ?_
    exact mw_iret B hQ hrt hI ⟨by rw [e9], _, hm, h24, hsl⟩ dX3_digitAt_8
abbrev rm_X3_modulo : Room := { frames := 2, cells := 0, slots := 0, locals := 44 }
set_option maxHeartbeats 4000000 in
set_option maxRecDepth 100000 in
/-- modulo -/
theorem t_X3_modulo (l : Launch) (D : va_G) (kA : Nat → ClassId) (sz : Nat) (f0 : mw_M) {o li si su di : Nat} {Z : Nat → Int}{a m_ : Int} (hm : MM kA f0 f0 o li si su di Z) (h24 : Z 24 = 1000000 ^ 50) (hB : ∀ i, i < 16 → ((Z i).natAbs : Int) < 1000000 ^ 50) (ha : -2147483648 ≤ a ∧ a ≤ 2147483647) (hm_ : -9223372036854775808 ≤ m_ ∧ m_ ≤ 9223372036854775807) : mw_Ml l yX3_modulo (Cond.code yX3_modulo cX3_modulo 7 ((some .long)) :: gw) rm_X3_modulo D vwCl (tyL kA) st_S [.ref o, .int (iI (a)), .long (lI (m_))] f0 sz (fun v f => v = lI (sp_modulo Z a m_) ∧ ∃ Z', MM kA f0 f o li si su di Z' ∧ Z' 24 = 1000000 ^ 50 ∧ ∀ i, i < 16 → Z' i = Z i) 0 0 := by
  refine mw_ofl (cc := cX3_modulo) (maxL := 7) (ret := (some .long)) (by decide) rfl (Nat.le_of_ble_eq_true rfl) ?_
  intro p e s m below meth c A ls Q hQ B hrt hnm hA hI hSt hl
  have hl : lv_has ls 7 [(0, .ref o), (1, .int (iI (a))), (2, .long (lI (m_)))] := hl
  obtain ⟨f, hI, hm, hf⟩ : ∃ f, mw_I D vwCl A s s.heap [] f ∧ MM kA f0 f o li si su di Z ∧ f = f0 := ⟨f0, hI, hm, rfl⟩
  have hsl : ∀ i, i < 16 → Z i = Z i := fun _ _ => rfl
  have h240 := h24
  refine mv_iload_n B dX3_modulo_0 rfl (lv_at hl 1 rfl) ?_
  refine mw_calli hI hA (va_runS (As := [.int (iI (a))]) (rest := []) B.fix (t_X3_isSlot l D kA s.heap.size f ha) (cwS 1 B.2.2.2.2.1 (gS kw_399 kw_400 kw_4 kw_401) rfl rfl rfl (by decide +kernel) ⟨Nat.le_of_ble_eq_true rfl, Nat.le_of_ble_eq_true rfl⟩) ⟨mw_blind st_S.blind, mw_pre B hI (hSt.call hI hA)⟩ rfl rfl hl.1 rfl (lv_room (Nat.le_of_ble_eq_true rfl)) dX3_modulo_1 ⟨Nat.le_of_ble_eq_true rfl, Nat.le_of_ble_eq_true rfl⟩) (fun r f H locs hp hI2 => ?_)
  clear hI
  have hI := hI2
  clear hI2
  obtain ⟨rfl, rfl⟩ := hp
  refine mv_if_eq (tgt := 21) B dX3_modulo_4 (by decide) (by split <;> omega) (fun hc => ?_) (fun hc => ?_)
  · have h1 : ¬ (sOk a) := fun q => by rw [if_pos q] at hc; exact absurd hc (by decide)
    have e9 : sp_modulo Z a m_ = -1 := by unfold sp_modulo; rw [if_neg (fun q => h1 q.1)]
    refine mv_ldc2 (z := -1) B dX3_modulo_21 kw_542 (by decide) ?_
    exact mw_lret B hQ hrt hI ⟨by rw [e9], _, hm, h24, hsl⟩ dX3_modulo_24
  · have h1 : sOk a := by
      by_cases q : sOk a
      · exact q
      · rw [if_neg q] at hc; exact absurd rfl hc
    refine mv_lload_n B dX3_modulo_7 rfl (lv_at hl 2 rfl) ?_
    refine mv_lconst1 B dX3_modulo_8 ?_
    refine mv_lcmp_lt (tgt := 21) B dX3_modulo_9 dX3_modulo_10 (by decide) (by omega) (fun hd1 => ?_) (fun hd1 => ?_)
    · have e9 : sp_modulo Z a m_ = -1 := by unfold sp_modulo; rw [if_neg (fun q => by omega)]
      refine mv_ldc2 (z := -1) B dX3_modulo_21 kw_542 (by decide) ?_
      exact mw_lret B hQ hrt hI ⟨by rw [e9], _, hm, h24, hsl⟩ dX3_modulo_24
    · refine mv_lload_n B dX3_modulo_13 rfl (lv_at hl 2 rfl) ?_
      refine mv_ldc2 (z := 1152921504606846976) B dX3_modulo_14 kw_541 (by decide) ?_
      refine mv_lcmp_le (tgt := 25) B dX3_modulo_17 dX3_modulo_18 (by decide) (by omega) (fun hd2 => ?_) (fun hd2 => ?_)
      · obtain ⟨X, hX⟩ : ∃ X : Int, X = ((Z a.toNat).natAbs : Int) := ⟨_, rfl⟩
        have X0 : 0 ≤ X := by omega
        have X1 : X < 2 ^ 2240 := by
          have := hm.lt (show a.toNat < 25 by omega)
          rw [← hX, p2_140] at this
          exact this
        have e0 : X / 2 ^ 2240 = 0 := Int.ediv_eq_zero_of_lt X0 X1
        refine mv_lconst0 B dX3_modulo_25 ?_
        refine mv_lstore (lv' := [(4, .long (lI (0))), (0, .ref o), (1, .int (iI (a))), (2, .long (lI (m_)))]) B dX3_modulo_26 hl (by decide) rfl (fun ls hl => ?_)
        refine mv_sipush B dX3_modulo_28 (by decide) ?_
        refine mv_istore (lv' := [(6, .int (iI (2239))), (4, .long (lI (0))), (0, .ref o), (1, .int (iI (a))), (2, .long (lI (m_)))]) B dX3_modulo_31 hl (by decide) rfl (fun ls hl => ?_)
        have loop : ∀ (μ : Nat) (j : Nat) (i lf : Int) (f : mw_M) (H : Heap) (locs : List Loc) (ls : Array Slot), j < μ → i = (j : Int) - 1 → j ≤ 2240 → lf = X / 2 ^ j % m_ → MM kA f0 f o li si su di Z → mw_I D vwCl A s H locs f → lv_has ls 7 [(6, .int (iI (i))), (4, .long (lI (lf))), (0, .ref o), (1, .int (iI (a))), (2, .long (lI (m_)))] → W p l e rm_X3_modulo s m ([.ref o, .int (iI (a)), .long (lI (m_))] : List Value).toArray below meth c H locs 0 0 Q (F0 m 33 ls []) := by
          intro μ
          induction μ with
          | zero => intro j i lf f H locs ls hμ; exact absurd hμ (Nat.not_lt_zero _)
          | succ μ ih =>
            intro j i lf f H locs ls hμ hi hj hlf hm hI hl
            have lb : 0 ≤ lf ∧ lf < m_ := by rw [hlf]; exact ⟨Int.emod_nonneg _ (by omega), Int.emod_lt_of_pos _ (by omega)⟩
            refine mv_iload B dX3_modulo_33 (lv_at hl 0 rfl) ?_
            refine mv_if_lt (tgt := 63) B dX3_modulo_35 (by decide) (by omega) (fun hd4 => ?_) (fun hd4 => ?_)
            · obtain rfl : j = 0 := by omega
              rw [Int.pow_zero, Int.ediv_one] at hlf
              have e9 : sp_modulo Z a m_ = Z a.toNat % m_ := by unfold sp_modulo; rw [if_pos ⟨h1, by omega, by omega⟩]
              obtain ⟨L, S, G, U, hM, hL, hZ⟩ := id hm
              refine mv_aload_n B dX3_modulo_63 rfl (lv_at hl 2 rfl) ?_
              refine mw_get (C := RX3) (T := TX3) (N := 4) B hI hM.1 uin_X3 rfl 1 (by decide) kw_382 rfl dX3_modulo_64 ?_
              refine mv_iload_n B dX3_modulo_67 rfl (lv_at hl 3 rfl) ?_
              refine mw_iald B hI 0 hM.2.2.1 rfl (a.toNat) (by omega) (by omega) (by decide) dX3_modulo_68 ?_
              rw [(hZ (a.toNat) (by omega)).2]
              have sg_ := c3_sg (Z (a.toNat))
              refine mv_if_ge (tgt := 81) B dX3_modulo_69 (by decide) (by omega) (fun hd5 => ?_) (fun hd5 => ?_)
              · refine mv_lload B dX3_modulo_81 (lv_at hl 1 rfl) ?_
                exact mw_lret B hQ hrt hI ⟨by rw [e9, hlf, show Z a.toNat = X by omega], _, hm, h24, hsl⟩ dX3_modulo_83
              · refine mv_lload_n B dX3_modulo_72 rfl (lv_at hl 4 rfl) ?_
                refine mv_lload B dX3_modulo_73 (lv_at hl 1 rfl) ?_
                refine mv_lsub B dX3_modulo_75 ?_
                refine mv_lload_n B dX3_modulo_76 rfl (lv_at hl 4 rfl) ?_
                refine mv_lrem B dX3_modulo_77 (by omega) ?_
                refine mv_goto (tgt := 83) B dX3_modulo_78 (by decide) ?_
                exact mw_lret B hQ hrt hI ⟨by rw [e9, hlf, md_neg, show Z a.toNat = -X by omega], _, hm, h24, hsl⟩ dX3_modulo_83
            · obtain ⟨k, rfl⟩ : ∃ k, j = k + 1 := ⟨j - 1, by omega⟩
              have bi := bd_in X k
              have b2 : X / 2 ^ k % 2 = 0 ∨ X / 2 ^ k % 2 = 1 := by omega
              refine mv_ldc2 (z := 2) B dX3_modulo_38 kw_543 (by decide) ?_
              refine mv_lload B dX3_modulo_41 (lv_at hl 1 rfl) ?_
              refine mv_lmul B dX3_modulo_43 ?_
              refine mv_aload_n B dX3_modulo_44 rfl (lv_at hl 2 rfl) ?_
              refine mv_iload_n B dX3_modulo_45 rfl (lv_at hl 3 rfl) ?_
              refine mv_iload B dX3_modulo_46 (lv_at hl 0 rfl) ?_
              obtain ⟨L, S, G, U, hM, hL, hZ⟩ := id hm
              refine mw_calli hI hA (va_runV (As := [.int (iI (a)), .int (iI (i))]) (rest := [.long (lI ((2) * (lf)))]) B.fix (t_X3_bit l D kA H.size f (r := a.toNat) (k := k) hM.self hL (by omega) (by omega) (by omega) (by omega)) (cwV 2 B.2.2.2.2.1 (gV kw_461 kw_463 ks_28 kw_4 kw_464) rfl rfl rfl (by decide +kernel) ⟨Nat.le_of_ble_eq_true rfl, Nat.le_of_ble_eq_true rfl⟩) ⟨mw_blind st_S.blind, mw_recv B hI hM.1 rfl, mw_pre B hI (hSt.call hI hA)⟩ rfl rfl hl.1 rfl (lv_room (Nat.le_of_ble_eq_true rfl)) dX3_modulo_48 ⟨Nat.le_of_ble_eq_true rfl, Nat.le_of_ble_eq_true rfl⟩) (fun r f H locs hp hI2 => ?_)
              clear hI
              have hI := hI2
              clear hI2
              obtain ⟨rfl, rfl⟩ := hp
              rw [(hZ (a.toNat) (by omega)).1]
              rw [← hX]
              refine mv_i2l B dX3_modulo_51 (by omega) ?_
              refine mv_ladd B dX3_modulo_52 ?_
              refine mv_lload_n B dX3_modulo_53 rfl (lv_at hl 4 rfl) ?_
              refine mv_lrem B dX3_modulo_54 (by omega) ?_
              refine mv_lstore (lv' := [(4, .long (lI ((((2) * (lf)) + (X / 2 ^ k % 2)) % (m_)))), (6, .int (iI (i))), (0, .ref o), (1, .int (iI (a))), (2, .long (lI (m_)))]) B dX3_modulo_55 hl (by decide) rfl (fun ls hl => ?_)
              refine mv_iinc (k := 1) (lv' := [(6, .int (iI (i + (-1)))), (4, .long (lI ((((2) * (lf)) + (X / 2 ^ k % 2)) % (m_)))), (0, .ref o), (1, .int (iI (a))), (2, .long (lI (m_)))]) B dX3_modulo_57 hl rfl (by decide) rfl (fun ls hl => ?_)
              refine mv_goto (tgt := 33) B dX3_modulo_60 (by decide) ?_
              exact ih k _ _ f H locs ls (by omega) (by omega) (by omega) (by rw [hlf]; exact md_step bi) hm hI (lv_sub hl [0, 1, 2, 3, 4] rfl)
        exact loop 2241 2240 _ _ f H locs ls (by decide) rfl (by decide) (by rw [e0, Int.zero_emod]) hm hI (lv_sub hl [0, 1, 2, 3, 4] rfl)
      · have e9 : sp_modulo Z a m_ = -1 := by unfold sp_modulo; rw [if_neg (fun q => by omega)]
        refine mv_ldc2 (z := -1) B dX3_modulo_21 kw_542 (by decide) ?_
        exact mw_lret B hQ hrt hI ⟨by rw [e9], _, hm, h24, hsl⟩ dX3_modulo_24
abbrev rm_X3_low : Room := { frames := 1, cells := 0, slots := 0, locals := 22 }
set_option maxHeartbeats 4000000 in
set_option maxRecDepth 100000 in
/-- low -/
theorem t_X3_low (l : Launch) (D : va_G) (kA : Nat → ClassId) (sz : Nat) (f0 : mw_M) {o li si su di : Nat} {Z : Nat → Int}{a : Int} (hm : MM kA f0 f0 o li si su di Z) (h24 : Z 24 = 1000000 ^ 50) (hB : ∀ i, i < 16 → ((Z i).natAbs : Int) < 1000000 ^ 50) (ha : -2147483648 ≤ a ∧ a ≤ 2147483647) : mw_Ml l yX3_low (Cond.code yX3_low cX3_low 5 ((some .long)) :: gw) rm_X3_low D vwCl (tyL kA) st_S [.ref o, .int (iI (a))] f0 sz (fun v f => v = lI (sp_low Z a) ∧ ∃ Z', MM kA f0 f o li si su di Z' ∧ Z' 24 = 1000000 ^ 50 ∧ ∀ i, i < 16 → Z' i = Z i) 0 0 := by
  refine mw_ofl (cc := cX3_low) (maxL := 5) (ret := (some .long)) (by decide) rfl (Nat.le_of_ble_eq_true rfl) ?_
  intro p e s m below meth c A ls Q hQ B hrt hnm hA hI hSt hl
  have hl : lv_has ls 5 [(0, .ref o), (1, .int (iI (a)))] := hl
  obtain ⟨f, hI, hm, hf⟩ : ∃ f, mw_I D vwCl A s s.heap [] f ∧ MM kA f0 f o li si su di Z ∧ f = f0 := ⟨f0, hI, hm, rfl⟩
  have hsl : ∀ i, i < 16 → Z i = Z i := fun _ _ => rfl
  have h240 := h24
  refine mv_iload_n B dX3_low_0 rfl (lv_at hl 1 rfl) ?_
  refine mw_calli hI hA (va_runS (As := [.int (iI (a))]) (rest := []) B.fix (t_X3_isSlot l D kA s.heap.size f ha) (cwS 1 B.2.2.2.2.1 (gS kw_399 kw_400 kw_4 kw_401) rfl rfl rfl (by decide +kernel) ⟨Nat.le_of_ble_eq_true rfl, Nat.le_of_ble_eq_true rfl⟩) ⟨mw_blind st_S.blind, mw_pre B hI (hSt.call hI hA)⟩ rfl rfl hl.1 rfl (lv_room (Nat.le_of_ble_eq_true rfl)) dX3_low_1 ⟨Nat.le_of_ble_eq_true rfl, Nat.le_of_ble_eq_true rfl⟩) (fun r f H locs hp hI2 => ?_)
  clear hI
  have hI := hI2
  clear hI2
  obtain ⟨rfl, rfl⟩ := hp
  refine mv_if_ne (tgt := 9) B dX3_low_4 (by decide) (by split <;> omega) (fun hc => ?_) (fun hc => ?_)
  · have h1 : sOk a := by
      by_cases q : sOk a
      · exact q
      · rw [if_neg q] at hc; exact absurd rfl hc
    have e9 : sp_low Z a = Z a.toNat := by unfold sp_low; rw [if_pos h1]
    obtain ⟨L, S, G, U, hM, hL, hZ⟩ := hm
    have ra := hL.row (show a.toNat < 25 by omega) (Nat.le_refl 140)
    refine mv_lconst0 B dX3_low_9 ?_
    refine mv_lstore_n (lv' := [(2, .long (lI (0))), (0, .ref o), (1, .int (iI (a)))]) B dX3_low_10 rfl hl (by decide) rfl (fun ls hl => ?_)
    refine mv_iconst B dX3_low_11 ?_
    refine mv_istore (lv' := [(4, .int (iI (3))), (2, .long (lI (0))), (0, .ref o), (1, .int (iI (a)))]) B dX3_low_12 hl (by decide) rfl (fun ls hl => ?_)
    have loop : ∀ (μ : Nat) (j : Nat) (i v_ : Int) (f : mw_M) (H : Heap) (locs : List Loc) (ls : Array Slot), j < μ → i = (j : Int) - 1 → j ≤ 4 → (0 ≤ v_ ∧ v_ < 65536 ^ (4 - j)) → v_ * 65536 ^ j + ev (fun i => L (140 * a.toNat + i)) j = ev (fun i => L (140 * a.toNat + i)) 4 → MS kA f0 f o li si su di L S G U → mw_I D vwCl A s H locs f → lv_has ls 5 [(4, .int (iI (i))), (2, .long (lI (v_))), (0, .ref o), (1, .int (iI (a)))] → W p l e rm_X3_low s m ([.ref o, .int (iI (a))] : List Value).toArray below meth c H locs 0 0 Q (F0 m 14 ls []) := by
      intro μ
      induction μ with
      | zero => intro j i v_ f H locs ls hμ; exact absurd hμ (Nat.not_lt_zero _)
      | succ μ ih =>
        intro j i v_ f H locs ls hμ hi hj hv he hM hI hl
        refine mv_iload B dX3_low_14 (lv_at hl 0 rfl) ?_
        refine mv_if_lt (tgt := 39) B dX3_low_16 (by decide) (by omega) (fun hd4 => ?_) (fun hd4 => ?_)
        · obtain rfl : j = 0 := by omega
          rw [ev_0, Int.pow_zero] at he
          have es := ev_split (fun i => L (140 * a.toNat + i)) 4 136
          have k0 := (hZ a.toNat (by omega)).1
          rw [show ev (fun i => L (140 * a.toNat + i)) (4 + 136) = ((Z a.toNat).natAbs : Int) from k0, show (65536 : Int) ^ 4 = 18446744073709551616 from by decide] at es
          obtain ⟨tt, htt⟩ : ∃ tt : Int, ((Z a.toNat).natAbs : Int) = v_ + 18446744073709551616 * tt := ⟨_, by rw [es, ← he, Int.mul_one, Int.add_zero]⟩
          have hm : MM kA f0 f o li si su di Z := ⟨L, S, G, U, hM, hL, hZ⟩
          refine mv_aload_n B dX3_low_39 rfl (lv_at hl 2 rfl) ?_
          refine mw_get (C := RX3) (T := TX3) (N := 4) B hI hM.1 uin_X3 rfl 1 (by decide) kw_382 rfl dX3_low_40 ?_
          refine mv_iload_n B dX3_low_43 rfl (lv_at hl 3 rfl) ?_
          refine mw_iald B hI 0 hM.2.2.1 rfl (a.toNat) (by omega) (by omega) (by decide) dX3_low_44 ?_
          rw [(hZ (a.toNat) (by omega)).2]
          have sg_ := c3_sg (Z (a.toNat))
          refine mv_if_ge (tgt := 53) B dX3_low_45 (by decide) (by omega) (fun hd5 => ?_) (fun hd5 => ?_)
          · refine mv_lload_n B dX3_low_53 rfl (lv_at hl 1 rfl) ?_
            exact mw_lret B hQ hrt hI ⟨by rw [e9, show Z a.toNat = v_ + 18446744073709551616 * tt by omega, lI_mod], _, hm, h24, hsl⟩ dX3_low_54
          · refine mv_lload_n B dX3_low_48 rfl (lv_at hl 1 rfl) ?_
            refine mv_lneg B dX3_low_49 ?_
            refine mv_goto (tgt := 54) B dX3_low_50 (by decide) ?_
            exact mw_lret B hQ hrt hI ⟨by rw [e9, show Z a.toNat = -v_ + 18446744073709551616 * (-tt) by omega, lI_mod], _, hm, h24, hsl⟩ dX3_low_54
        · obtain ⟨k, rfl⟩ : ∃ k, j = k + 1 := ⟨j - 1, by omega⟩
          have la := hL (140 * a.toNat + k) (by omega)
          have b1 := ep_le (show 4 - (k + 1) ≤ 3 by omega)
          have b3 : (65536 : Int) ^ 3 = 281474976710656 := by decide
          have b4 : (65536 : Int) ^ (4 - k) = 65536 ^ (4 - (k + 1)) * 65536 := by rw [← ep_s]; congr 1; omega
          refine mv_lload_n B dX3_low_19 rfl (lv_at hl 1 rfl) ?_
          refine mv_bipush B dX3_low_20 (by decide) ?_
          refine mv_lshl16 B dX3_low_22 (by omega) ?_
          refine mv_aload_n B dX3_low_23 rfl (lv_at hl 2 rfl) ?_
          refine mv_iload_n B dX3_low_24 rfl (lv_at hl 3 rfl) ?_
          refine mv_iload B dX3_low_25 (lv_at hl 0 rfl) ?_
          refine mw_calli hI hA (va_runV (As := [.int (iI (a)), .int (iI (i))]) (rest := [.long (lI (v_ * 65536))]) B.fix (t_X3_at l D kA H.size f (r := a.toNat) (k := k) hM.self hL (by omega) (by omega) (by omega) (by omega)) (cwV 2 B.2.2.2.2.1 (gV kw_371 kw_373 ks_18 kw_4 kw_374) rfl rfl rfl (by decide +kernel) ⟨Nat.le_of_ble_eq_true rfl, Nat.le_of_ble_eq_true rfl⟩) ⟨mw_blind st_S.blind, mw_recv B hI hM.1 rfl, mw_pre B hI (hSt.call hI hA)⟩ rfl rfl hl.1 rfl (lv_room (Nat.le_of_ble_eq_true rfl)) dX3_low_27 ⟨Nat.le_of_ble_eq_true rfl, Nat.le_of_ble_eq_true rfl⟩) (fun r f H locs hp hI2 => ?_)
          clear hI
          have hI := hI2
          clear hI2
          obtain ⟨rfl, rfl⟩ := hp
          refine mv_i2l B dX3_low_30 (by omega) ?_
          refine mv_lor16 B dX3_low_31 (by omega) (by omega) ?_
          refine mv_lstore_n (lv' := [(2, .long (lI (v_ * 65536 + L (140 * a.toNat + k)))), (4, .int (iI (i))), (0, .ref o), (1, .int (iI (a)))]) B dX3_low_32 rfl hl (by decide) rfl (fun ls hl => ?_)
          refine mv_iinc (k := 1) (lv' := [(4, .int (iI (i + (-1)))), (2, .long (lI (v_ * 65536 + L (140 * a.toNat + k)))), (0, .ref o), (1, .int (iI (a)))]) B dX3_low_33 hl rfl (by decide) rfl (fun ls hl => ?_)
          refine mv_goto (tgt := 14) B dX3_low_36 (by decide) ?_
          refine ih k _ _ f H locs ls (by omega) (by omega) (by omega) (by omega) ?_ hM hI (lv_sub hl [0, 1, 2, 3] rfl)
          rw [← he, ev_s, ep_s]
          grind
    exact loop 5 4 _ _ f H locs ls (by decide) rfl (by decide) (by decide) (by rw [Int.zero_mul, Int.zero_add]) hM hI (lv_sub hl [0, 1, 2, 3] rfl)
  · have h1 : ¬ (sOk a) := fun q => by rw [if_pos q] at hc; exact absurd hc (by decide)
    refine mv_lconst0 B dX3_low_7 ?_
    have e9 : sp_low Z a = 0 := by unfold sp_low; rw [if_neg h1]
    exact mw_lret B hQ hrt hI ⟨by rw [e9], _, hm, h24, hsl⟩ dX3_low_8
