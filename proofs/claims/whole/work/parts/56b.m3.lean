abbrev rm_X3_combine : Room := { frames := 2, cells := 0, slots := 0, locals := 47 }
set_option maxHeartbeats 4000000 in
set_option maxRecDepth 100000 in
/-- combine -/
theorem t_X3_combine (l : Launch) (D : va_G) (kA : Nat → ClassId) (sz : Nat) (f0 : mw_M) {o li si su di : Nat} {Z : Nat → Int} {t a b : Nat} {by_ : Int} {xt : Int} {xa : Int} {xb : Int} (hm : MM kA f0 f0 o li si su di Z) (hxt : xt = (t : Int)) (hxa : xa = (a : Int)) (hxb : xb = (b : Int)) (ht : t < 25) (ha : a < 25) (hb : b < 25) (hby : by_ = 1 ∨ by_ = -1) (hs : ((Z a).natAbs : Int) + ((Z b).natAbs : Int) < 65536 ^ 140) : mw_Mv l yX3_combine (Cond.code yX3_combine cX3_combine 7 (none) :: gw) rm_X3_combine D vwCl (tyL kA) st_S [.ref o, .int (iI (xt)), .int (iI (xa)), .int (iI (xb)), .int (iI (by_))] f0 sz (fun f => MM kA f0 f o li si su di (upI Z t (Z a + by_ * Z b))) 0 0 := by
  refine mw_ofv (cc := cX3_combine) (maxL := 7) (ret := none) (by decide) rfl (Nat.le_of_ble_eq_true rfl) ?_
  intro p e s m below meth c A ls Q hQ B hrt hnm hA hI hSt hl
  have hl : lv_has ls 7 [(0, .ref o), (1, .int (iI (xt))), (2, .int (iI (xa))), (3, .int (iI (xb))), (4, .int (iI (by_)))] := hl
  subst hxt
  subst hxa
  subst hxb
  obtain ⟨f, hI, hm, hf⟩ : ∃ f, mw_I D vwCl A s s.heap [] f ∧ MM kA f0 f o li si su di Z ∧ f = f0 := ⟨f0, hI, hm, rfl⟩
  obtain ⟨L, S, G, U, hM, hL, hZ⟩ := id hm
  refine mv_aload_n B dX3_combine_0 rfl (lv_at hl 0 rfl) ?_
  refine mw_get (C := RX3) (T := TX3) (N := 4) B hI hM.1 uin_X3 rfl 1 (by decide) kw_382 rfl dX3_combine_1 ?_
  refine mv_iload_n B dX3_combine_4 rfl (lv_at hl 3 rfl) ?_
  refine mw_iald B hI 0 hM.2.2.1 rfl (b) (by omega) (by omega) (by decide) dX3_combine_5 ?_
  rw [(hZ (b) (by omega)).2]
  have sg_ := c3_sg (Z (b))
  refine mv_iload B dX3_combine_6 (lv_at hl 4 rfl) ?_
  refine mv_imul B dX3_combine_8 ?_
  refine mv_nmi (fun ot hot => ?_)
  obtain ⟨y, hy⟩ : ∃ y, y = by_ * Z b := ⟨_, rfl⟩
  have oy : ot = c3 y 0 ∧ y.natAbs = (Z b).natAbs := by
    have s2 := c3_sg (Z b)
    have s3 := c3_sg y
    rcases hby with q | q
    · rw [q, Int.one_mul] at hy; rw [q] at hot; rw [hy, hot]; omega
    · rw [q] at hy hot; omega
  have ka := hZ a ha
  have kb := hZ b hb
  have s1 := c3_sg (Z a)
  have s3 := c3_sg y
  have s5 := c3_sg (Z a + y)
  rw [← oy.1] at s3
  have hadd : mg L a + mg L b < 65536 ^ 140 := by rw [ka.1, kb.1]; exact hs
  refine mv_istore (lv' := [(5, .int (iI (ot))), (0, .ref o), (1, .int (iI ((t : Int)))), (2, .int (iI ((a : Int)))), (3, .int (iI ((b : Int)))), (4, .int (iI (by_)))]) B dX3_combine_9 hl (by decide) rfl (fun ls hl => ?_)
  refine mv_aload_n B dX3_combine_11 rfl (lv_at hl 1 rfl) ?_
  refine mw_get (C := RX3) (T := TX3) (N := 4) B hI hM.1 uin_X3 rfl 1 (by decide) kw_382 rfl dX3_combine_12 ?_
  refine mv_iload_n B dX3_combine_15 rfl (lv_at hl 3 rfl) ?_
  refine mw_iald B hI 0 hM.2.2.1 rfl (a) (by omega) (by omega) (by decide) dX3_combine_16 ?_
  rw [(hZ (a) (by omega)).2]
  have sg_ := c3_sg (Z (a))
  have j56 : ∀ (sg : Int), sg = c3 (Z a + y) 0 → (((Z a + y).natAbs : Int) = ((Z a).natAbs : Int) + ((Z b).natAbs : Int)) → W p l e rm_X3_combine s m ([.ref o, .int (iI ((t : Int))), .int (iI ((a : Int))), .int (iI ((b : Int))), .int (iI (by_))] : List Value).toArray below meth c s.heap [] 0 0 Q (F0 m 56 ls [.int (iI (sg))]) := by
    intro sg hsg hab
    refine mv_istore (lv' := [(6, .int (iI (sg))), (5, .int (iI (ot))), (0, .ref o), (1, .int (iI ((t : Int)))), (2, .int (iI ((a : Int)))), (3, .int (iI ((b : Int)))), (4, .int (iI (by_)))]) B dX3_combine_56 hl (by decide) rfl (fun ls hl => ?_)
    refine mv_aload_n B dX3_combine_58 rfl (lv_at hl 2 rfl) ?_
    refine mv_iload_n B dX3_combine_59 rfl (lv_at hl 3 rfl) ?_
    refine mv_iload_n B dX3_combine_60 rfl (lv_at hl 4 rfl) ?_
    refine mv_iload_n B dX3_combine_61 rfl (lv_at hl 5 rfl) ?_
    refine mw_callv hI hA (va_runV (As := [.int (iI ((t : Int))), .int (iI ((a : Int))), .int (iI ((b : Int)))]) (rest := []) B.fix (t_X3_addSizes l D kA s.heap.size f (t := t) (a := a) (b := b) hM.self hL (by omega) (by omega) (by omega) (by omega) (by omega) (by omega) hadd) (cwV 3 B.2.2.2.2.1 (gV kw_410 kw_412 ks_21 kw_4 kw_413) rfl rfl rfl (by decide +kernel) ⟨Nat.le_of_ble_eq_true rfl, Nat.le_of_ble_eq_true rfl⟩) ⟨mw_blind st_S.blind, mw_recv B hI hM.1 rfl, mw_pre B hI (hSt.call hI hA)⟩ rfl rfl hl.1 rfl (lv_room (Nat.le_of_ble_eq_true rfl)) dX3_combine_62 ⟨Nat.le_of_ble_eq_true rfl, Nat.le_of_ble_eq_true rfl⟩) (fun f H locs hp hI2 => ?_)
    clear hI
    have hI := hI2
    clear hI2
    obtain ⟨L1, hM1, hL1, ro1, hv1⟩ := hp
    have hM := hM.tr hM1
    refine mv_aload_n B dX3_combine_65 rfl (lv_at hl 2 rfl) ?_
    refine mv_iload_n B dX3_combine_66 rfl (lv_at hl 3 rfl) ?_
    refine mv_iload B dX3_combine_67 (lv_at hl 0 rfl) ?_
    refine mw_callv hI hA (va_runV (As := [.int (iI ((t : Int))), .int (iI (sg))]) (rest := []) B.fix (t_X3_settle l D kA H.size f (r := t) hM.self hL1 (by omega) (by omega)) (cwV 2 B.2.2.2.2.1 (gV kw_367 kw_369 ks_17 kw_4 kw_370) rfl rfl rfl (by decide +kernel) ⟨Nat.le_of_ble_eq_true rfl, Nat.le_of_ble_eq_true rfl⟩) ⟨mw_blind st_S.blind, mw_recv B hI hM.1 rfl, mw_pre B hI (hSt.call hI hA)⟩ rfl rfl hl.1 rfl (lv_room (Nat.le_of_ble_eq_true rfl)) dX3_combine_69 ⟨Nat.le_of_ble_eq_true rfl, Nat.le_of_ble_eq_true rfl⟩) (fun f H locs hp hI2 => ?_)
    clear hI
    have hI := hI2
    clear hI2
    have hM := hM.tr hp
    refine mv_goto (tgt := 123) B dX3_combine_72 (by decide) ?_
    exact mw_vret B hQ hrt hI (by rw [← hy]; exact MM.st hZ hM hL1 ro1 (by rw [hv1, ka.1, kb.1]; omega) (fun _ => by omega)) dX3_combine_123
  refine mv_if_eq (tgt := 36) B dX3_combine_17 (by decide) (by omega) (fun hd0 => ?_) (fun hd0 => ?_)
  · refine mv_aload_n B dX3_combine_36 rfl (lv_at hl 1 rfl) ?_
    refine mw_get (C := RX3) (T := TX3) (N := 4) B hI hM.1 uin_X3 rfl 1 (by decide) kw_382 rfl dX3_combine_37 ?_
    refine mv_iload_n B dX3_combine_40 rfl (lv_at hl 3 rfl) ?_
    refine mw_iald B hI 0 hM.2.2.1 rfl (a) (by omega) (by omega) (by decide) dX3_combine_41 ?_
    rw [(hZ (a) (by omega)).2]
    have sg_ := c3_sg (Z (a))
    refine mv_if_ne (tgt := 50) B dX3_combine_42 (by decide) (by omega) (fun hd3 => ?_) (fun hd3 => ?_)
    · refine mv_aload_n B dX3_combine_50 rfl (lv_at hl 1 rfl) ?_
      refine mw_get (C := RX3) (T := TX3) (N := 4) B hI hM.1 uin_X3 rfl 1 (by decide) kw_382 rfl dX3_combine_51 ?_
      refine mv_iload_n B dX3_combine_54 rfl (lv_at hl 3 rfl) ?_
      refine mw_iald B hI 0 hM.2.2.1 rfl (a) (by omega) (by omega) (by decide) dX3_combine_55 ?_
      rw [(hZ (a) (by omega)).2]
      have sg_ := c3_sg (Z (a))
      exact j56 _ (by omega) (by omega)
    · refine mv_iload B dX3_combine_45 (lv_at hl 0 rfl) ?_
      refine mv_goto (tgt := 56) B dX3_combine_47 (by decide) ?_
      exact j56 _ (by omega) (by omega)
  · refine mv_iload B dX3_combine_20 (lv_at hl 0 rfl) ?_
    refine mv_if_eq (tgt := 36) B dX3_combine_22 (by decide) (by omega) (fun hd1 => ?_) (fun hd1 => ?_)
    · refine mv_aload_n B dX3_combine_36 rfl (lv_at hl 1 rfl) ?_
      refine mw_get (C := RX3) (T := TX3) (N := 4) B hI hM.1 uin_X3 rfl 1 (by decide) kw_382 rfl dX3_combine_37 ?_
      refine mv_iload_n B dX3_combine_40 rfl (lv_at hl 3 rfl) ?_
      refine mw_iald B hI 0 hM.2.2.1 rfl (a) (by omega) (by omega) (by decide) dX3_combine_41 ?_
      rw [(hZ (a) (by omega)).2]
      have sg_ := c3_sg (Z (a))
      refine mv_if_ne (tgt := 50) B dX3_combine_42 (by decide) (by omega) (fun hd3 => ?_) (fun hd3 => ?_)
      · refine mv_aload_n B dX3_combine_50 rfl (lv_at hl 1 rfl) ?_
        refine mw_get (C := RX3) (T := TX3) (N := 4) B hI hM.1 uin_X3 rfl 1 (by decide) kw_382 rfl dX3_combine_51 ?_
        refine mv_iload_n B dX3_combine_54 rfl (lv_at hl 3 rfl) ?_
        refine mw_iald B hI 0 hM.2.2.1 rfl (a) (by omega) (by omega) (by decide) dX3_combine_55 ?_
        rw [(hZ (a) (by omega)).2]
        have sg_ := c3_sg (Z (a))
        exact j56 _ (by omega) (by omega)
      · refine mv_iload B dX3_combine_45 (lv_at hl 0 rfl) ?_
        refine mv_goto (tgt := 56) B dX3_combine_47 (by decide) ?_
        exact j56 _ (by omega) (by omega)
    · refine mv_aload_n B dX3_combine_25 rfl (lv_at hl 1 rfl) ?_
      refine mw_get (C := RX3) (T := TX3) (N := 4) B hI hM.1 uin_X3 rfl 1 (by decide) kw_382 rfl dX3_combine_26 ?_
      refine mv_iload_n B dX3_combine_29 rfl (lv_at hl 3 rfl) ?_
      refine mw_iald B hI 0 hM.2.2.1 rfl (a) (by omega) (by omega) (by decide) dX3_combine_30 ?_
      rw [(hZ (a) (by omega)).2]
      have sg_ := c3_sg (Z (a))
      refine mv_iload B dX3_combine_31 (lv_at hl 0 rfl) ?_
      refine mv_icmp_ne (tgt := 75) B dX3_combine_33 (by decide) (by omega) (fun hd2 => ?_) (fun hd2 => ?_)
      · refine mv_aload_n B dX3_combine_75 rfl (lv_at hl 1 rfl) ?_
        refine mv_iload_n B dX3_combine_76 rfl (lv_at hl 3 rfl) ?_
        refine mv_iload_n B dX3_combine_77 rfl (lv_at hl 4 rfl) ?_
        obtain ⟨L, S, G, U, hM, hL, hZ⟩ := id hm
        refine mw_calli hI hA (va_runV (As := [.int (iI ((a : Int))), .int (iI ((b : Int)))]) (rest := []) B.fix (t_X3_sizes l D kA s.heap.size f (a := a) (b := b) hM.self hL (by omega) (by omega) (by omega) (by omega)) (cwV 2 B.2.2.2.2.1 (gV kw_414 kw_416 ks_22 kw_4 kw_417) rfl rfl rfl (by decide +kernel) ⟨Nat.le_of_ble_eq_true rfl, Nat.le_of_ble_eq_true rfl⟩) ⟨mw_blind st_S.blind, mw_recv B hI hM.1 rfl, mw_pre B hI (hSt.call hI hA)⟩ rfl rfl hl.1 rfl (lv_room (Nat.le_of_ble_eq_true rfl)) dX3_combine_78 ⟨Nat.le_of_ble_eq_true rfl, Nat.le_of_ble_eq_true rfl⟩) (fun r f H locs hp hI2 => ?_)
        clear hI
        have hI := hI2
        clear hI2
        obtain ⟨rfl, rfl⟩ := hp
        rw [(hZ (a) (by omega)).1, (hZ (b) (by omega)).1]
        have cc_ := c3_in ((Z (a)).natAbs : Int) ((Z (b)).natAbs : Int)
        have ka := hZ a ha
        have kb := hZ b hb
        refine mv_if_lt (tgt := 109) B dX3_combine_81 (by decide) (by omega) (fun hd4 => ?_) (fun hd4 => ?_)
        · have hle : mg L a ≤ mg L b := by rw [ka.1, kb.1]; omega
          refine mv_aload_n B dX3_combine_109 rfl (lv_at hl 1 rfl) ?_
          refine mv_iload_n B dX3_combine_110 rfl (lv_at hl 2 rfl) ?_
          refine mv_iload_n B dX3_combine_111 rfl (lv_at hl 4 rfl) ?_
          refine mv_iload_n B dX3_combine_112 rfl (lv_at hl 3 rfl) ?_
          refine mw_callv hI hA (va_runV (As := [.int (iI ((t : Int))), .int (iI ((b : Int))), .int (iI ((a : Int)))]) (rest := []) B.fix (t_X3_takeSizes l D kA H.size f (t := t) (a := b) (b := a) hM.self hL (by omega) (by omega) (by omega) (by omega) (by omega) (by omega) hle) (cwV 3 B.2.2.2.2.1 (gV kw_418 kw_420 ks_23 kw_4 kw_421) rfl rfl rfl (by decide +kernel) ⟨Nat.le_of_ble_eq_true rfl, Nat.le_of_ble_eq_true rfl⟩) ⟨mw_blind st_S.blind, mw_recv B hI hM.1 rfl, mw_pre B hI (hSt.call hI hA)⟩ rfl rfl hl.1 rfl (lv_room (Nat.le_of_ble_eq_true rfl)) dX3_combine_113 ⟨Nat.le_of_ble_eq_true rfl, Nat.le_of_ble_eq_true rfl⟩) (fun f H locs hp hI2 => ?_)
          clear hI
          have hI := hI2
          clear hI2
          obtain ⟨L1, hM1, hL1, ro1, hv1⟩ := hp
          have hM := hM.tr hM1
          refine mv_aload_n B dX3_combine_116 rfl (lv_at hl 1 rfl) ?_
          refine mv_iload_n B dX3_combine_117 rfl (lv_at hl 2 rfl) ?_
          refine mv_iload B dX3_combine_118 (lv_at hl 0 rfl) ?_
          refine mw_callv hI hA (va_runV (As := [.int (iI ((t : Int))), .int (iI (ot))]) (rest := []) B.fix (t_X3_settle l D kA H.size f (r := t) hM.self hL1 (by omega) (by omega)) (cwV 2 B.2.2.2.2.1 (gV kw_367 kw_369 ks_17 kw_4 kw_370) rfl rfl rfl (by decide +kernel) ⟨Nat.le_of_ble_eq_true rfl, Nat.le_of_ble_eq_true rfl⟩) ⟨mw_blind st_S.blind, mw_recv B hI hM.1 rfl, mw_pre B hI (hSt.call hI hA)⟩ rfl rfl hl.1 rfl (lv_room (Nat.le_of_ble_eq_true rfl)) dX3_combine_120 ⟨Nat.le_of_ble_eq_true rfl, Nat.le_of_ble_eq_true rfl⟩) (fun f H locs hp hI2 => ?_)
          clear hI
          have hI := hI2
          clear hI2
          have hM := hM.tr hp
          exact mw_vret B hQ hrt hI (by rw [← hy]; exact MM.st hZ hM hL1 ro1 (by rw [hv1, kb.1, ka.1]; omega) (fun _ => by omega)) dX3_combine_123
        · have hle : mg L b ≤ mg L a := by rw [ka.1, kb.1]; omega
          refine mv_aload_n B dX3_combine_84 rfl (lv_at hl 1 rfl) ?_
          refine mw_get (C := RX3) (T := TX3) (N := 4) B hI hM.1 uin_X3 rfl 1 (by decide) kw_382 rfl dX3_combine_85 ?_
          refine mv_iload_n B dX3_combine_88 rfl (lv_at hl 3 rfl) ?_
          refine mw_iald B hI 0 hM.2.2.1 rfl (a) (by omega) (by omega) (by decide) dX3_combine_89 ?_
          rw [(hZ (a) (by omega)).2]
          have sg_ := c3_sg (Z (a))
          refine mv_istore (lv' := [(6, .int (iI (c3 (Z (a)) 0))), (5, .int (iI (ot))), (0, .ref o), (1, .int (iI ((t : Int)))), (2, .int (iI ((a : Int)))), (3, .int (iI ((b : Int)))), (4, .int (iI (by_)))]) B dX3_combine_90 hl (by decide) rfl (fun ls hl => ?_)
          refine mv_aload_n B dX3_combine_92 rfl (lv_at hl 2 rfl) ?_
          refine mv_iload_n B dX3_combine_93 rfl (lv_at hl 3 rfl) ?_
          refine mv_iload_n B dX3_combine_94 rfl (lv_at hl 4 rfl) ?_
          refine mv_iload_n B dX3_combine_95 rfl (lv_at hl 5 rfl) ?_
          refine mw_callv hI hA (va_runV (As := [.int (iI ((t : Int))), .int (iI ((a : Int))), .int (iI ((b : Int)))]) (rest := []) B.fix (t_X3_takeSizes l D kA H.size f (t := t) (a := a) (b := b) hM.self hL (by omega) (by omega) (by omega) (by omega) (by omega) (by omega) hle) (cwV 3 B.2.2.2.2.1 (gV kw_418 kw_420 ks_23 kw_4 kw_421) rfl rfl rfl (by decide +kernel) ⟨Nat.le_of_ble_eq_true rfl, Nat.le_of_ble_eq_true rfl⟩) ⟨mw_blind st_S.blind, mw_recv B hI hM.1 rfl, mw_pre B hI (hSt.call hI hA)⟩ rfl rfl hl.1 rfl (lv_room (Nat.le_of_ble_eq_true rfl)) dX3_combine_96 ⟨Nat.le_of_ble_eq_true rfl, Nat.le_of_ble_eq_true rfl⟩) (fun f H locs hp hI2 => ?_)
          clear hI
          have hI := hI2
          clear hI2
          obtain ⟨L1, hM1, hL1, ro1, hv1⟩ := hp
          have hM := hM.tr hM1
          refine mv_aload_n B dX3_combine_99 rfl (lv_at hl 2 rfl) ?_
          refine mv_iload_n B dX3_combine_100 rfl (lv_at hl 3 rfl) ?_
          refine mv_iload B dX3_combine_101 (lv_at hl 0 rfl) ?_
          refine mw_callv hI hA (va_runV (As := [.int (iI ((t : Int))), .int (iI (c3 (Z (a)) 0))]) (rest := []) B.fix (t_X3_settle l D kA H.size f (r := t) hM.self hL1 (by omega) (by omega)) (cwV 2 B.2.2.2.2.1 (gV kw_367 kw_369 ks_17 kw_4 kw_370) rfl rfl rfl (by decide +kernel) ⟨Nat.le_of_ble_eq_true rfl, Nat.le_of_ble_eq_true rfl⟩) ⟨mw_blind st_S.blind, mw_recv B hI hM.1 rfl, mw_pre B hI (hSt.call hI hA)⟩ rfl rfl hl.1 rfl (lv_room (Nat.le_of_ble_eq_true rfl)) dX3_combine_103 ⟨Nat.le_of_ble_eq_true rfl, Nat.le_of_ble_eq_true rfl⟩) (fun f H locs hp hI2 => ?_)
          clear hI
          have hI := hI2
          clear hI2
          have hM := hM.tr hp
          refine mv_goto (tgt := 123) B dX3_combine_106 (by decide) ?_
          exact mw_vret B hQ hrt hI (by rw [← hy]; exact MM.st hZ hM hL1 ro1 (by rw [hv1, ka.1, kb.1]; omega) (fun _ => by omega)) dX3_combine_123
      · refine mv_aload_n B dX3_combine_36 rfl (lv_at hl 1 rfl) ?_
        refine mw_get (C := RX3) (T := TX3) (N := 4) B hI hM.1 uin_X3 rfl 1 (by decide) kw_382 rfl dX3_combine_37 ?_
        refine mv_iload_n B dX3_combine_40 rfl (lv_at hl 3 rfl) ?_
        refine mw_iald B hI 0 hM.2.2.1 rfl (a) (by omega) (by omega) (by decide) dX3_combine_41 ?_
        rw [(hZ (a) (by omega)).2]
        have sg_ := c3_sg (Z (a))
        refine mv_if_ne (tgt := 50) B dX3_combine_42 (by decide) (by omega) (fun hd3 => ?_) (fun hd3 => ?_)
        · refine mv_aload_n B dX3_combine_50 rfl (lv_at hl 1 rfl) ?_
          refine mw_get (C := RX3) (T := TX3) (N := 4) B hI hM.1 uin_X3 rfl 1 (by decide) kw_382 rfl dX3_combine_51 ?_
          refine mv_iload_n B dX3_combine_54 rfl (lv_at hl 3 rfl) ?_
          refine mw_iald B hI 0 hM.2.2.1 rfl (a) (by omega) (by omega) (by decide) dX3_combine_55 ?_
          rw [(hZ (a) (by omega)).2]
          have sg_ := c3_sg (Z (a))
          exact j56 _ (by omega) (by omega)
        · refine mv_iload B dX3_combine_45 (lv_at hl 0 rfl) ?_
          refine mv_goto (tgt := 56) B dX3_combine_47 (by decide) ?_
          exact j56 _ (by omega) (by omega)
abbrev rm_X3_size : Room := { frames := 2, cells := 0, slots := 0, locals := 45 }
set_option maxHeartbeats 4000000 in
set_option maxRecDepth 100000 in
/-- size -/
theorem t_X3_size (l : Launch) (D : va_G) (kA : Nat → ClassId) (sz : Nat) (f0 : mw_M) {o li si su di : Nat} {Z : Nat → Int} {t a : Nat} {xt : Int} {xa : Int} (hm : MM kA f0 f0 o li si su di Z) (hxt : xt = (t : Int)) (hxa : xa = (a : Int)) (ht : t < 25) (ha : a < 25) : mw_Mv l yX3_size (Cond.code yX3_size cX3_size 3 (none) :: gw) rm_X3_size D vwCl (tyL kA) st_S [.ref o, .int (iI (xt)), .int (iI (xa))] f0 sz (fun f => MM kA f0 f o li si su di (upI Z t ((Z a).natAbs : Int))) 0 0 := by
  refine mw_ofv (cc := cX3_size) (maxL := 3) (ret := none) (by decide) rfl (Nat.le_of_ble_eq_true rfl) ?_
  intro p e s m below meth c A ls Q hQ B hrt hnm hA hI hSt hl
  have hl : lv_has ls 3 [(0, .ref o), (1, .int (iI (xt))), (2, .int (iI (xa)))] := hl
  subst hxt
  subst hxa
  obtain ⟨f, hI, hm, hf⟩ : ∃ f, mw_I D vwCl A s s.heap [] f ∧ MM kA f0 f o li si su di Z ∧ f = f0 := ⟨f0, hI, hm, rfl⟩
  obtain ⟨L, S, G, U, hM, hL, hZ⟩ := id hm
  refine mv_aload_n B dX3_size_0 rfl (lv_at hl 0 rfl) ?_
  refine mv_iload_n B dX3_size_1 rfl (lv_at hl 1 rfl) ?_
  refine mv_iload_n B dX3_size_2 rfl (lv_at hl 2 rfl) ?_
  refine mw_callv hI hA (va_runV (As := [.int (iI ((t : Int))), .int (iI ((a : Int)))]) (rest := []) B.fix (t_X3_move l D kA s.heap.size f (t := t) (a := a) hM.self hL (by omega) (by omega) (by omega) (by omega)) (cwV 2 B.2.2.2.2.1 (gV kw_430 kw_432 ks_26 kw_4 kw_433) rfl rfl rfl (by decide +kernel) ⟨Nat.le_of_ble_eq_true rfl, Nat.le_of_ble_eq_true rfl⟩) ⟨mw_blind st_S.blind, mw_recv B hI hM.1 rfl, mw_pre B hI (hSt.call hI hA)⟩ rfl rfl hl.1 rfl (lv_room (Nat.le_of_ble_eq_true rfl)) dX3_size_3 ⟨Nat.le_of_ble_eq_true rfl, Nat.le_of_ble_eq_true rfl⟩) (fun f H locs hp hI2 => ?_)
  clear hI
  have hI := hI2
  clear hI2
  obtain ⟨L1, hM1, hL1, ro1, hv1⟩ := hp
  have hM := hM.tr hM1
  have ka := hZ a ha
  have s1 := c3_sg (Z a)
  have ea : upI S t (S a) a = c3 (Z a) 0 := by
    by_cases q : a = t
    · rw [q, upI_self, ← q]; exact ka.2
    · rw [upI_ne _ _ q]; exact ka.2
  refine mv_aload_n B dX3_size_6 rfl (lv_at hl 0 rfl) ?_
  refine mw_get (C := RX3) (T := TX3) (N := 4) B hI hM.1 uin_X3 rfl 1 (by decide) kw_382 rfl dX3_size_7 ?_
  refine mv_iload_n B dX3_size_10 rfl (lv_at hl 1 rfl) ?_
  refine mv_aload_n B dX3_size_11 rfl (lv_at hl 0 rfl) ?_
  refine mw_get (C := RX3) (T := TX3) (N := 4) B hI hM.1 uin_X3 rfl 1 (by decide) kw_382 rfl dX3_size_12 ?_
  refine mv_iload_n B dX3_size_15 rfl (lv_at hl 2 rfl) ?_
  refine mw_iald B hI 0 hM.2.2.1 rfl (a) (by omega) (by omega) (by decide) dX3_size_16 ?_
  rw [ea]
  refine mv_if_ne (tgt := 24) B dX3_size_17 (by decide) (by omega) (fun hd0 => ?_) (fun hd0 => ?_)
  · refine mv_iconst B dX3_size_24 ?_
    refine md_S B hI hM (t) (by omega) (by omega) dX3_size_25 (fun f H locs hM hI => ?_)
    exact mw_vret B hQ hrt hI (MM.of hZ hM hL1 ro1 (fun _ _ h => by rw [upI_ne _ _ h, upI_ne _ _ h]) (by rw [hv1, ka.1]; omega) (by rw [upI_self, c3_gt (by omega)])) dX3_size_26
  · refine mv_iconst B dX3_size_20 ?_
    refine mv_goto (tgt := 25) B dX3_size_21 (by decide) ?_
    refine md_S B hI hM (t) (by omega) (by omega) dX3_size_25 (fun f H locs hM hI => ?_)
    exact mw_vret B hQ hrt hI (MM.of hZ hM hL1 ro1 (fun _ _ h => by rw [upI_ne _ _ h, upI_ne _ _ h]) (by rw [hv1, ka.1]; omega) (by rw [upI_self, c3_eq (by omega)])) dX3_size_26
abbrev rm_X3_divide : Room := { frames := 3, cells := 0, slots := 0, locals := 72 }
set_option maxHeartbeats 4000000 in
set_option maxRecDepth 100000 in
/-- divide -/
theorem t_X3_divide (l : Launch) (D : va_G) (kA : Nat → ClassId) (sz : Nat) (f0 : mw_M) {o li si su di : Nat} {Z : Nat → Int} {a b : Nat} {xa : Int} {xb : Int} (hm : MM kA f0 f0 o li si su di Z) (hxa : xa = (a : Int)) (hxb : xb = (b : Int)) (ha : a < 25) (hb : b < 25) (ha1 : a ≠ 18 ∧ a ≠ 19) (hb1 : b ≠ 18 ∧ b ≠ 19) (hz0 : Z b ≠ 0) : mw_Mv l yX3_divide (Cond.code yX3_divide cX3_divide 5 (none) :: gw) rm_X3_divide D vwCl (tyL kA) st_S [.ref o, .int (iI (xa)), .int (iI (xb))] f0 sz (fun f => MM kA f0 f o li si su di (upI (upI Z 18 ((Z a).tdiv (Z b))) 19 ((Z a).tmod (Z b)))) 0 0 := by
  refine mw_ofv (cc := cX3_divide) (maxL := 5) (ret := none) (by decide) rfl (Nat.le_of_ble_eq_true rfl) ?_
  intro p e s m below meth c A ls Q hQ B hrt hnm hA hI hSt hl
  have hl : lv_has ls 5 [(0, .ref o), (1, .int (iI (xa))), (2, .int (iI (xb)))] := hl
  subst hxa
  subst hxb
  obtain ⟨f, hI, hm, hf⟩ : ∃ f, mw_I D vwCl A s s.heap [] f ∧ MM kA f0 f o li si su di Z ∧ f = f0 := ⟨f0, hI, hm, rfl⟩
  refine mv_aload_n B dX3_divide_0 rfl (lv_at hl 0 rfl) ?_
  refine mv_bipush B dX3_divide_1 (by decide) ?_
  refine mv_lconst0 B dX3_divide_3 ?_
  obtain ⟨L, S, G, U, hM, hL, hZ⟩ := id hm
  refine mw_callv hI hA (va_runV (As := [.int (iI (18)), .long (lI (0))]) (rest := []) B.fix (t_X3_put l D kA s.heap.size f (t := 18) hM.self hL (by omega) (by omega) (by omega)) (cwV 2 B.2.2.2.2.1 (gV kw_362 kw_364 ks_16 kw_4 kw_365) rfl rfl rfl (by decide +kernel) ⟨Nat.le_of_ble_eq_true rfl, Nat.le_of_ble_eq_true rfl⟩) ⟨mw_blind st_S.blind, mw_recv B hI hM.1 rfl, mw_pre B hI (hSt.call hI hA)⟩ rfl rfl hl.1 rfl (lv_room (Nat.le_of_ble_eq_true rfl)) dX3_divide_4 ⟨Nat.le_of_ble_eq_true rfl, Nat.le_of_ble_eq_true rfl⟩) (fun f H locs hp hI2 => ?_)
  clear hI
  have hI := hI2
  clear hI2
  obtain ⟨L1, hM1, hL1, ro1, hv1⟩ := hp
  obtain ⟨Z1, hZ1, hm⟩ : ∃ Z', Z' = upI Z (18) (0) ∧ MM kA f0 f o li si su di Z' := ⟨_, rfl, MM.u hZ (hM.tr hM1) hL1 ro1 hv1 rfl⟩
  have v1 : Z1 (18) = 0 := by rw [hZ1, upI_self]
  have r1 : ∀ i, i ≠ 18 → Z1 i = Z i := fun i hi => by rw [hZ1, upI_ne _ _ hi]
  refine mv_aload_n B dX3_divide_7 rfl (lv_at hl 0 rfl) ?_
  refine mv_bipush B dX3_divide_8 (by decide) ?_
  refine mv_lconst0 B dX3_divide_10 ?_
  obtain ⟨L, S, G, U, hM, hL, hZ⟩ := id hm
  refine mw_callv hI hA (va_runV (As := [.int (iI (19)), .long (lI (0))]) (rest := []) B.fix (t_X3_put l D kA H.size f (t := 19) hM.self hL (by omega) (by omega) (by omega)) (cwV 2 B.2.2.2.2.1 (gV kw_362 kw_364 ks_16 kw_4 kw_365) rfl rfl rfl (by decide +kernel) ⟨Nat.le_of_ble_eq_true rfl, Nat.le_of_ble_eq_true rfl⟩) ⟨mw_blind st_S.blind, mw_recv B hI hM.1 rfl, mw_pre B hI (hSt.call hI hA)⟩ rfl rfl hl.1 rfl (lv_room (Nat.le_of_ble_eq_true rfl)) dX3_divide_11 ⟨Nat.le_of_ble_eq_true rfl, Nat.le_of_ble_eq_true rfl⟩) (fun f H locs hp hI2 => ?_)
  clear hI
  have hI := hI2
  clear hI2
  obtain ⟨L1, hM1, hL1, ro1, hv1⟩ := hp
  obtain ⟨Z2, hZ2, hm⟩ : ∃ Z', Z' = upI Z1 (19) (0) ∧ MM kA f0 f o li si su di Z' := ⟨_, rfl, MM.u hZ (hM.tr hM1) hL1 ro1 hv1 rfl⟩
  have v2 : Z2 (19) = 0 := by rw [hZ2, upI_self]
  have r2 : ∀ i, i ≠ 19 → Z2 i = Z1 i := fun i hi => by rw [hZ2, upI_ne _ _ hi]
  obtain ⟨L, S, G, U, hM, hL, hZ⟩ := hm
  have ka := hZ a ha
  have kb := hZ b hb
  rw [r2 a (by omega), r1 a (by omega)] at ka
  rw [r2 b (by omega), r1 b (by omega)] at kb
  obtain ⟨X, hX⟩ : ∃ X : Int, X = ((Z a).natAbs : Int) := ⟨_, rfl⟩
  obtain ⟨V, hV⟩ : ∃ V : Int, V = ((Z b).natAbs : Int) := ⟨_, rfl⟩
  unfold hz at ka kb
  rw [← hX] at ka
  rw [← hV] at kb
  have V0 : 0 < V := by omega
  have X0 : 0 ≤ X := by omega
  have X1 : X < 2 ^ 2240 := by
    have := (mg_nn hL ha).2
    rw [ka.1, p2_140] at this
    exact this
  have z18 := hZ 18 (by decide)
  have z19 := hZ 19 (by decide)
  unfold hz at z18 z19
  rw [r2 18 (by omega), v1] at z18
  rw [v2] at z19
  refine mv_sipush B dX3_divide_14 (by decide) ?_
  refine mv_istore_n (lv' := [(3, .int (iI (2239))), (0, .ref o), (1, .int (iI ((a : Int)))), (2, .int (iI ((b : Int))))]) B dX3_divide_17 rfl hl (by decide) rfl (fun ls hl => ?_)
  have loop : ∀ (μ : Nat) (j : Nat) (i : Int) (L' S' : Nat → Int) (f : mw_M) (H : Heap) (locs : List Loc) (ls : Array Slot), j < μ → i = (j : Int) - 1 → j ≤ 2240 → lr L' → (∀ r, r < 25 → r ≠ 18 → r ≠ 19 → mg L' r = mg L r ∧ S' r = S r) → mg L' 18 = X / 2 ^ j / V * 2 ^ j → mg L' 19 = X / 2 ^ j % V → S' 19 = (if mg L' 19 = 0 then 0 else 1) → MS kA f0 f o li si su di L' S' G U → mw_I D vwCl A s H locs f → lv_has ls 5 [(3, .int (iI (i))), (0, .ref o), (1, .int (iI ((a : Int)))), (2, .int (iI ((b : Int))))] → W p l e rm_X3_divide s m ([.ref o, .int (iI ((a : Int))), .int (iI ((b : Int)))] : List Value).toArray below meth c H locs 0 0 Q (F0 m 18 ls []) := by
    intro μ
    induction μ with
    | zero => intro j i L' S' f H locs ls hμ; exact absurd hμ (Nat.not_lt_zero _)
    | succ μ ih =>
      intro j i L' S' f H locs ls hμ hi hj hL' ho hq hr hs hM hI hl
      refine mv_iload_n B dX3_divide_18 rfl (lv_at hl 0 rfl) ?_
      refine mv_if_lt (tgt := 120) B dX3_divide_19 (by decide) (by omega) (fun hd0 => ?_) (fun hd0 => ?_)
      · obtain rfl : j = 0 := by omega
        rw [Int.pow_zero, Int.mul_one, Int.ediv_one] at hq
        rw [Int.pow_zero, Int.ediv_one] at hr
        have oa := ho a ha ha1.1 ha1.2
        have ob := ho b hb hb1.1 hb1.2
        refine mv_aload_n B dX3_divide_120 rfl (lv_at hl 1 rfl) ?_
        refine mv_bipush B dX3_divide_121 (by decide) ?_
        refine mv_aload_n B dX3_divide_123 rfl (lv_at hl 1 rfl) ?_
        refine mw_get (C := RX3) (T := TX3) (N := 4) B hI hM.1 uin_X3 rfl 1 (by decide) kw_382 rfl dX3_divide_124 ?_
        refine mv_iload_n B dX3_divide_127 rfl (lv_at hl 2 rfl) ?_
        refine mw_iald B hI 0 hM.2.2.1 rfl (a) (by omega) (by omega) (by decide) dX3_divide_128 ?_
        refine mv_aload_n B dX3_divide_129 rfl (lv_at hl 1 rfl) ?_
        refine mw_get (C := RX3) (T := TX3) (N := 4) B hI hM.1 uin_X3 rfl 1 (by decide) kw_382 rfl dX3_divide_130 ?_
        refine mv_iload_n B dX3_divide_133 rfl (lv_at hl 3 rfl) ?_
        refine mw_iald B hI 0 hM.2.2.1 rfl (b) (by omega) (by omega) (by decide) dX3_divide_134 ?_
        refine mv_imul B dX3_divide_135 ?_
        refine mw_callv hI hA (va_runV (As := [.int (iI (18)), .int (iI ((S' (a)) * (S' (b))))]) (rest := []) B.fix (t_X3_settle l D kA H.size f (r := 18) hM.self hL' (by omega) (by omega)) (cwV 2 B.2.2.2.2.1 (gV kw_367 kw_369 ks_17 kw_4 kw_370) rfl rfl rfl (by decide +kernel) ⟨Nat.le_of_ble_eq_true rfl, Nat.le_of_ble_eq_true rfl⟩) ⟨mw_blind st_S.blind, mw_recv B hI hM.1 rfl, mw_pre B hI (hSt.call hI hA)⟩ rfl rfl hl.1 rfl (lv_room (Nat.le_of_ble_eq_true rfl)) dX3_divide_136 ⟨Nat.le_of_ble_eq_true rfl, Nat.le_of_ble_eq_true rfl⟩) (fun f H locs hp hI2 => ?_)
        clear hI
        have hI := hI2
        clear hI2
        have hM := hM.tr hp
        refine mv_aload_n B dX3_divide_139 rfl (lv_at hl 1 rfl) ?_
        refine mv_bipush B dX3_divide_140 (by decide) ?_
        refine mv_aload_n B dX3_divide_142 rfl (lv_at hl 1 rfl) ?_
        refine mw_get (C := RX3) (T := TX3) (N := 4) B hI hM.1 uin_X3 rfl 1 (by decide) kw_382 rfl dX3_divide_143 ?_
        refine mv_iload_n B dX3_divide_146 rfl (lv_at hl 2 rfl) ?_
        refine mw_iald B hI 0 hM.2.2.1 rfl (a) (by omega) (by omega) (by decide) dX3_divide_147 ?_
        rw [upI_ne _ _ ha1.1]
        refine mw_callv hI hA (va_runV (As := [.int (iI (19)), .int (iI (S' a))]) (rest := []) B.fix (t_X3_settle l D kA H.size f (r := 19) hM.self hL' (by omega) (by omega)) (cwV 2 B.2.2.2.2.1 (gV kw_367 kw_369 ks_17 kw_4 kw_370) rfl rfl rfl (by decide +kernel) ⟨Nat.le_of_ble_eq_true rfl, Nat.le_of_ble_eq_true rfl⟩) ⟨mw_blind st_S.blind, mw_recv B hI hM.1 rfl, mw_pre B hI (hSt.call hI hA)⟩ rfl rfl hl.1 rfl (lv_room (Nat.le_of_ble_eq_true rfl)) dX3_divide_148 ⟨Nat.le_of_ble_eq_true rfl, Nat.le_of_ble_eq_true rfl⟩) (fun f H locs hp hI2 => ?_)
        clear hI
        have hI := hI2
        clear hI2
        have hM := hM.tr hp
        have q1 : mg L' 18 = (((Z a).tdiv (Z b)).natAbs : Int) := by rw [hq, td_abs, hX, hV]
        have q2 : mg L' 19 = (((Z a).tmod (Z b)).natAbs : Int) := by rw [hr, tm_abs, hX, hV]
        have qs : S' a * S' b = c3 (Z a) 0 * c3 (Z b) 0 := by rw [oa.2, ob.2, ka.2, kb.2]
        have qt : S' a = c3 (Z a) 0 := by rw [oa.2, ka.2]
        rw [qs, qt] at hM
        exact mw_vret B hQ hrt hI (MM.two hZ (fun r h1 h2 => by rw [r2 r h2, r1 r h1]) hM hL' (fun r hr h1 h2 => (ho r hr h1 h2)) q1 q2 (fun h => td_c3 h) (fun h => tm_c3 h)) dX3_divide_151
      · obtain ⟨k, rfl⟩ : ∃ k, j = k + 1 := ⟨j - 1, by omega⟩
        have oa := (ho a ha ha1.1 ha1.2).1
        have ob := (ho b hb hb1.1 hb1.2).1
        rw [ka.1] at oa
        rw [kb.1] at ob
        have bi := bd_in X k
        have b2 : X / 2 ^ k % 2 = 0 ∨ X / 2 ^ k % 2 = 1 := by omega
        have rb : 0 ≤ X / 2 ^ (k + 1) % V ∧ X / 2 ^ (k + 1) % V < V := ⟨Int.emod_nonneg _ (by omega), Int.emod_lt_of_pos _ V0⟩
        refine mv_aload_n B dX3_divide_22 rfl (lv_at hl 1 rfl) ?_
        refine mw_get (C := RX3) (T := TX3) (N := 4) B hI hM.1 uin_X3 rfl 1 (by decide) kw_382 rfl dX3_divide_23 ?_
        refine mv_bipush B dX3_divide_26 (by decide) ?_
        refine mw_iald B hI 0 hM.2.2.1 rfl (19) (by omega) (by omega) (by decide) dX3_divide_28 ?_
        have j47 : ∀ (sv : Int) (f : mw_M) (H : Heap) (locs : List Loc), (sv = 1 ∨ (sv = 0 ∧ mg L' 19 = 0 ∧ X / 2 ^ k % 2 = 0)) → MS kA f0 f o li si su di L' S' G U → mw_I D vwCl A s H locs f → W p l e rm_X3_divide s m ([.ref o, .int (iI ((a : Int))), .int (iI ((b : Int)))] : List Value).toArray below meth c H locs 0 0 Q (F0 m 47 ls [.int (iI (sv))]) := by
          intro sv f H locs hsv hM hI
          refine mv_istore (lv' := [(4, .int (iI (sv))), (3, .int (iI (i))), (0, .ref o), (1, .int (iI ((a : Int)))), (2, .int (iI ((b : Int))))]) B dX3_divide_47 hl (by decide) rfl (fun ls hl => ?_)
          refine mv_iload B dX3_divide_49 (lv_at hl 0 rfl) ?_
          refine mv_if_eq (tgt := 114) B dX3_divide_51 (by decide) (by omega) (fun hd3 => ?_) (fun hd3 => ?_)
          · have hz2 : mg L' 19 = 0 ∧ X / 2 ^ k % 2 = 0 := by omega
            rw [hr] at hz2
            have bl := bd_lo V0 bi (by omega) (by omega)
            refine mv_iinc (k := 1) (lv' := [(3, .int (iI (i + (-1)))), (4, .int (iI (sv))), (0, .ref o), (1, .int (iI ((a : Int)))), (2, .int (iI ((b : Int))))]) B dX3_divide_114 hl rfl (by decide) rfl (fun ls hl => ?_)
            refine mv_goto (tgt := 18) B dX3_divide_117 (by decide) ?_
            refine ih k _ L' S' f H locs ls (by omega) (by omega) (by omega) hL' ho (by rw [hq, bl.1, p2_s]; grind) (by rw [hr, bl.2]; omega) hs hM hI (lv_sub hl [0, 2, 3, 4] rfl)
          · refine mv_aload_n B dX3_divide_54 rfl (lv_at hl 2 rfl) ?_
            refine mv_bipush B dX3_divide_55 (by decide) ?_
            refine mv_aload_n B dX3_divide_57 rfl (lv_at hl 2 rfl) ?_
            refine mv_iload_n B dX3_divide_58 rfl (lv_at hl 3 rfl) ?_
            refine mv_iload_n B dX3_divide_59 rfl (lv_at hl 1 rfl) ?_
            have lbk : k < 2240 := by omega
            refine mw_calli hI hA (va_runV (As := [.int (iI ((a : Int))), .int (iI (i))]) (rest := [.int (iI (19)), .ref o]) B.fix (t_X3_bit l D kA H.size f (r := a) (k := k) hM.self hL' (by omega) (by omega) (by omega) (by omega)) (cwV 2 B.2.2.2.2.1 (gV kw_461 kw_463 ks_28 kw_4 kw_464) rfl rfl rfl (by decide +kernel) ⟨Nat.le_of_ble_eq_true rfl, Nat.le_of_ble_eq_true rfl⟩) ⟨mw_blind st_S.blind, mw_recv B hI hM.1 rfl, mw_pre B hI (hSt.call hI hA)⟩ rfl rfl hl.1 rfl (lv_room (Nat.le_of_ble_eq_true rfl)) dX3_divide_60 ⟨Nat.le_of_ble_eq_true rfl, Nat.le_of_ble_eq_true rfl⟩) (fun r f H locs hp hI2 => ?_)
            clear hI
            have hI := hI2
            clear hI2
            obtain ⟨rfl, rfl⟩ := hp
            rw [oa]
            have tb : 2 * mg L' 19 + X / 2 ^ k % 2 < 65536 ^ 140 := by
              have e1 := emod_le_nn (X / 2 ^ (k + 1)) V0 (Int.ediv_nonneg X0 (Int.le_of_lt (p2_pos _)))
              have e2 := Int.ediv_le_self (2 ^ k) X0
              rw [hr, p2_140]
              omega
            refine mw_callv hI hA (va_runV (As := [.int (iI (19)), .int (iI (X / 2 ^ k % 2))]) (rest := []) B.fix (t_X3_twice l D kA H.size f (t := 19) hM.self hL' (by omega) (by omega) (by omega) tb) (cwV 2 B.2.2.2.2.1 (gV kw_465 kw_467 ks_29 kw_4 kw_468) rfl rfl rfl (by decide +kernel) ⟨Nat.le_of_ble_eq_true rfl, Nat.le_of_ble_eq_true rfl⟩) ⟨mw_blind st_S.blind, mw_recv B hI hM.1 rfl, mw_pre B hI (hSt.call hI hA)⟩ rfl rfl hl.1 rfl (lv_room (Nat.le_of_ble_eq_true rfl)) dX3_divide_63 ⟨Nat.le_of_ble_eq_true rfl, Nat.le_of_ble_eq_true rfl⟩) (fun f H locs hp hI2 => ?_)
            clear hI
            have hI := hI2
            clear hI2
            obtain ⟨L1, hM1, hL1, ro1, hv1⟩ := hp
            have hM := hM.tr hM1
            rw [hr] at hv1 hM
            have ob1 : mg L1 b = V := (ro1 b hb hb1.2).trans ob
            have q18 : mg L1 18 = mg L' 18 := ro1 18 (by decide) (by decide)
            refine mv_aload_n B dX3_divide_66 rfl (lv_at hl 2 rfl) ?_
            refine mv_bipush B dX3_divide_67 (by decide) ?_
            refine mv_iload_n B dX3_divide_69 rfl (lv_at hl 4 rfl) ?_
            refine mw_calli hI hA (va_runV (As := [.int (iI (19)), .int (iI ((b : Int)))]) (rest := []) B.fix (t_X3_sizes l D kA H.size f (a := 19) (b := b) hM.self hL1 (by omega) (by omega) (by omega) (by omega)) (cwV 2 B.2.2.2.2.1 (gV kw_414 kw_416 ks_22 kw_4 kw_417) rfl rfl rfl (by decide +kernel) ⟨Nat.le_of_ble_eq_true rfl, Nat.le_of_ble_eq_true rfl⟩) ⟨mw_blind st_S.blind, mw_recv B hI hM.1 rfl, mw_pre B hI (hSt.call hI hA)⟩ rfl rfl hl.1 rfl (lv_room (Nat.le_of_ble_eq_true rfl)) dX3_divide_70 ⟨Nat.le_of_ble_eq_true rfl, Nat.le_of_ble_eq_true rfl⟩) (fun r f H locs hp hI2 => ?_)
            clear hI
            have hI := hI2
            clear hI2
            obtain ⟨rfl, rfl⟩ := hp
            rw [hv1, ob1]
            have cc_ := c3_in (2 * (X / 2 ^ (k + 1) % V) + X / 2 ^ k % 2) V
            refine mv_if_lt (tgt := 114) B dX3_divide_73 (by decide) (by omega) (fun hd4 => ?_) (fun hd4 => ?_)
            · have bl := bd_lo V0 bi (by omega) (by omega)
              refine mv_iinc (k := 1) (lv' := [(3, .int (iI (i + (-1)))), (4, .int (iI (sv))), (0, .ref o), (1, .int (iI ((a : Int)))), (2, .int (iI ((b : Int))))]) B dX3_divide_114 hl rfl (by decide) rfl (fun ls hl => ?_)
              refine mv_goto (tgt := 18) B dX3_divide_117 (by decide) ?_
              refine ih k _ L1 _ f H locs ls (by omega) (by omega) (by omega) hL1 (fun r a1 a2 a3 => ⟨(ro1 r a1 a3).trans (ho r a1 a2 a3).1, by rw [upI_ne _ _ a3]; exact (ho r a1 a2 a3).2⟩) (by rw [q18, hq, bl.1, p2_s]; grind) (by rw [hv1, bl.2]) (by rw [upI_self, hv1]) hM hI (lv_sub hl [0, 2, 3, 4] rfl)
            · have bl := bd_hi V0 bi (by omega) (by omega)
              have hle : mg L1 b ≤ mg L1 19 := by rw [hv1, ob1]; omega
              refine mv_aload_n B dX3_divide_76 rfl (lv_at hl 2 rfl) ?_
              refine mv_bipush B dX3_divide_77 (by decide) ?_
              refine mv_bipush B dX3_divide_79 (by decide) ?_
              refine mv_iload_n B dX3_divide_81 rfl (lv_at hl 4 rfl) ?_
              refine mw_callv hI hA (va_runV (As := [.int (iI (19)), .int (iI (19)), .int (iI ((b : Int)))]) (rest := []) B.fix (t_X3_takeSizes l D kA H.size f (t := 19) (a := 19) (b := b) hM.self hL1 (by omega) (by omega) (by omega) (by omega) (by omega) (by omega) hle) (cwV 3 B.2.2.2.2.1 (gV kw_418 kw_420 ks_23 kw_4 kw_421) rfl rfl rfl (by decide +kernel) ⟨Nat.le_of_ble_eq_true rfl, Nat.le_of_ble_eq_true rfl⟩) ⟨mw_blind st_S.blind, mw_recv B hI hM.1 rfl, mw_pre B hI (hSt.call hI hA)⟩ rfl rfl hl.1 rfl (lv_room (Nat.le_of_ble_eq_true rfl)) dX3_divide_82 ⟨Nat.le_of_ble_eq_true rfl, Nat.le_of_ble_eq_true rfl⟩) (fun f H locs hp hI2 => ?_)
              clear hI
              have hI := hI2
              clear hI2
              obtain ⟨L', hM2, hL', ro2, hv2⟩ := hp
              have hM := hM.tr hM2
              rw [hv1, ob1] at hv2
              refine mv_aload_n B dX3_divide_85 rfl (lv_at hl 2 rfl) ?_
              refine mv_bipush B dX3_divide_86 (by decide) ?_
              refine mv_iconst B dX3_divide_88 ?_
              refine mw_callv hI hA (va_runV (As := [.int (iI (19)), .int (iI (1))]) (rest := []) B.fix (t_X3_settle l D kA H.size f (r := 19) hM.self hL' (by omega) (by omega)) (cwV 2 B.2.2.2.2.1 (gV kw_367 kw_369 ks_17 kw_4 kw_370) rfl rfl rfl (by decide +kernel) ⟨Nat.le_of_ble_eq_true rfl, Nat.le_of_ble_eq_true rfl⟩) ⟨mw_blind st_S.blind, mw_recv B hI hM.1 rfl, mw_pre B hI (hSt.call hI hA)⟩ rfl rfl hl.1 rfl (lv_room (Nat.le_of_ble_eq_true rfl)) dX3_divide_89 ⟨Nat.le_of_ble_eq_true rfl, Nat.le_of_ble_eq_true rfl⟩) (fun f H locs hp hI2 => ?_)
              clear hI
              have hI := hI2
              clear hI2
              have hM := hM.tr hp
              refine mv_aload_n B dX3_divide_92 rfl (lv_at hl 2 rfl) ?_
              have q18 : mg L' 18 = X / 2 ^ (k + 1) / V * 2 ^ (k + 1) := by rw [ro2 18 (by decide) (by decide), q18, hq]
              have la := hL' (140 * 18 + k / 16) (by omega)
              have hlb : L' (140 * 18 + k / 16) / 2 ^ (k % 16) % 2 = 0 := (ev_bit (g := fun i => L' (140 * 18 + i)) (hL'.row (show 18 < 25 by decide) (Nat.le_refl 140)) (by omega)).trans (clear_bit _ q18)
              have p16 := p16_le (Nat.mod_lt k (show 16 > 0 by decide))
              have hfit := sb_lt (Nat.mod_lt k (show 16 > 0 by decide)) la hlb
              refine mw_get (C := RX3) (T := TX3) (N := 4) B hI hM.1 uin_X3 rfl 0 (by decide) kw_381 rfl dX3_divide_93 ?_
              refine mv_sipush B dX3_divide_96 (by decide) ?_
              refine mv_iload_n B dX3_divide_99 rfl (lv_at hl 1 rfl) ?_
              refine mv_bipush B dX3_divide_100 (by decide) ?_
              refine mv_idiv B dX3_divide_102 (by omega) ?_
              refine mv_iadd B dX3_divide_103 ?_
              refine mv_dup2 B dX3_divide_104 rfl rfl ?_
              refine mw_iald B hI 0 hM.2.1 rfl (140 * 18 + k / 16) (by omega) (by omega) (by decide) dX3_divide_105 ?_
              refine mv_iconst B dX3_divide_106 ?_
              refine mv_iload_n B dX3_divide_107 rfl (lv_at hl 1 rfl) ?_
              refine mv_bipush B dX3_divide_108 (by decide) ?_
              refine mv_irem B dX3_divide_110 (by omega) ?_
              refine mv_shl (k % 16) B dX3_divide_111 (by omega) (by omega) (by omega) ?_
              refine mv_setb (k % 16) B dX3_divide_112 (by omega) hlb ?_
              refine md_L B hI hM (140 * 18 + k / 16) (by omega) (by omega) dX3_divide_113 (fun f H locs hM hI => ?_)
              refine mv_iinc (k := 1) (lv' := [(3, .int (iI (i + (-1)))), (4, .int (iI (sv))), (0, .ref o), (1, .int (iI ((a : Int)))), (2, .int (iI ((b : Int))))]) B dX3_divide_114 hl rfl (by decide) rfl (fun ls hl => ?_)
              refine mv_goto (tgt := 18) B dX3_divide_117 (by decide) ?_
              refine ih k _ _ _ f H locs ls (by omega) (by omega) (by omega) (hL'.up (by omega)) (fun r a1 a2 a3 => ⟨(mg_up_ne a2 (by omega)).trans ((ro2 r a1 a3).trans ((ro1 r a1 a3).trans (ho r a1 a2 a3).1)), by rw [upI_ne _ _ a3, upI_ne _ _ a3]; exact (ho r a1 a2 a3).2⟩) (by rw [sb_val (by omega), q18, bl.1, p2_s]; grind) (by rw [mg_up_ne (by decide) (by omega), hv2, bl.2]) (by rw [mg_up_ne (by decide) (by omega), upI_self]) hM hI (lv_sub hl [0, 2, 3, 4] rfl)
        refine mv_if_ne (tgt := 42) B dX3_divide_29 (by decide) (by rw [hs]; split <;> omega) (fun hd1 => ?_) (fun hd1 => ?_)
        · refine mv_iconst B dX3_divide_42 ?_
          refine mv_goto (tgt := 47) B dX3_divide_43 (by decide) ?_
          exact j47 1 f H locs (Or.inl rfl) hM hI
        · have d0 : mg L' 19 = 0 := by
            by_cases q : mg L' 19 = 0
            · exact q
            · rw [if_neg q] at hs; omega
          refine mv_aload_n B dX3_divide_32 rfl (lv_at hl 1 rfl) ?_
          refine mv_iload_n B dX3_divide_33 rfl (lv_at hl 2 rfl) ?_
          refine mv_iload_n B dX3_divide_34 rfl (lv_at hl 0 rfl) ?_
          refine mw_calli hI hA (va_runV (As := [.int (iI ((a : Int))), .int (iI (i))]) (rest := []) B.fix (t_X3_bit l D kA H.size f (r := a) (k := k) hM.self hL' (by omega) (by omega) (by omega) (by omega)) (cwV 2 B.2.2.2.2.1 (gV kw_461 kw_463 ks_28 kw_4 kw_464) rfl rfl rfl (by decide +kernel) ⟨Nat.le_of_ble_eq_true rfl, Nat.le_of_ble_eq_true rfl⟩) ⟨mw_blind st_S.blind, mw_recv B hI hM.1 rfl, mw_pre B hI (hSt.call hI hA)⟩ rfl rfl hl.1 rfl (lv_room (Nat.le_of_ble_eq_true rfl)) dX3_divide_35 ⟨Nat.le_of_ble_eq_true rfl, Nat.le_of_ble_eq_true rfl⟩) (fun r f H locs hp hI2 => ?_)
          clear hI
          have hI := hI2
          clear hI2
          obtain ⟨rfl, rfl⟩ := hp
          rw [oa]
          refine mv_iconst B dX3_divide_38 ?_
          refine mv_icmp_ne (tgt := 46) B dX3_divide_39 (by decide) (by omega) (fun hd2 => ?_) (fun hd2 => ?_)
          · refine mv_iconst B dX3_divide_46 ?_
            exact j47 0 f H locs (Or.inr ⟨rfl, d0, by omega⟩) hM hI
          · refine mv_iconst B dX3_divide_42 ?_
            refine mv_goto (tgt := 47) B dX3_divide_43 (by decide) ?_
            exact j47 1 f H locs (Or.inl rfl) hM hI
  have e0 : X / 2 ^ 2240 = 0 := Int.ediv_eq_zero_of_lt X0 X1
  exact loop 2241 2240 _ L S f H locs ls (by decide) rfl (by decide) hL (fun _ _ _ _ => ⟨rfl, rfl⟩) (by rw [z18.1, e0, Int.zero_ediv, Int.zero_mul]; rfl) (by rw [z19.1, e0, Int.zero_emod]; rfl) (by rw [z19.2, z19.1]; rfl) hM hI (lv_sub hl [0, 1, 2, 3] rfl)
