abbrev rm_X1_takeSum : Room := { frames := 2, cells := 0, slots := 0, locals := 50 }
set_option maxHeartbeats 4000000 in
set_option maxRecDepth 100000 in
/-- takeSum -/
theorem t_X1_takeSum (l : Launch) (D : va_G) (kA : Nat → ClassId) (sz : Nat) (f0 : mw_M) {h r x rx y ry : Nat} {zx zy aw : Int} (hw : Rw (kA 0) f0 h r) (hx : Rp (kA 0) f0 x rx zx) (hy : Rp (kA 0) f0 y ry zy) (x1 : x ≠ h) (x2 : rx ≠ r) (y1 : y ≠ h) (y2 : ry ≠ r) (haw : aw = 0 ∨ aw = 1) (k1 : (zx.natAbs : Int) < 1000000 ^ 103) (k2 : (zy.natAbs : Int) < 1000000 ^ 103) : mw_Mv l yX1_takeSum (Cond.code yX1_takeSum cX1_takeSum 6 (none) :: gw) rm_X1_takeSum D vwCl (tyL kA) st_S [.ref h, .ref x, .ref y, .int (iI (aw))] f0 sz (fun f => Rp (kA 0) f h r (if aw = 0 then zx + zy else zx - zy) ∧ fo f0 f h r) 0 0 := by
  refine mw_ofv (cc := cX1_takeSum) (maxL := 6) (ret := none) (by decide) rfl (Nat.le_of_ble_eq_true rfl) ?_
  intro p e s m below meth c A ls Q hQ B hrt hnm hA hI hSt hl
  have hl : lv_has ls 6 [(0, .ref h), (1, .ref x), (2, .ref y), (3, .int (iI (aw)))] := hl
  obtain ⟨g, n, b, hh, hr⟩ := hw
  obtain ⟨gx, nx, bx, hx, hxr, hzx⟩ := hx
  obtain ⟨gy, ny, by_, hy, hyr, hzy⟩ := hy
  have m1 := (hzx.size 103).mpr k1
  have m2 := (hzy.size 103).mpr k2
  obtain ⟨f, hI, hT⟩ : ∃ f, mw_I D vwCl A s s.heap [] f ∧ wSt (kA 0) f0 h r f g n b := ⟨f0, hI, wSt.self hh hr⟩
  have x3 := wh_ne hx hr
  have x4 := Ne.symm (wh_ne hh hxr)
  have y3 := wh_ne hy hr
  have y4 := Ne.symm (wh_ne hh hyr)
  have q1 := hzx.b0
  have q2 := hzy.b0
  have q3 := hzx.nat
  have q4 := hzy.nat
  have q5 := dv_nn hzx.2.1
  have q6 := dv_nn hzy.2.1
  refine mv_aload_n B dX1_takeSum_0 rfl (lv_at hl 2 rfl) ?_
  refine ww_below B hI (hT.get hy y1 y3) uin_X1 kw_26 dX1_takeSum_1 ?_
  refine mv_iload_n B dX1_takeSum_4 rfl (lv_at hl 3 rfl) ?_
  have j13 : ∀ (yb : Int), yb = (if by_ = aw then 0 else 1) → W p l e rm_X1_takeSum s m ([.ref h, .ref x, .ref y, .int (iI (aw))] : List Value).toArray below meth c s.heap [] 0 0 Q (F0 m 13 ls [.int (iI (yb))]) := by
    intro yb hyb
    refine mv_istore (lv' := [(4, .int (iI (yb))), (0, .ref h), (1, .ref x), (2, .ref y), (3, .int (iI (aw)))]) B dX1_takeSum_13 hl (by decide) rfl (fun ls hl => ?_)
    refine mv_aload_n B dX1_takeSum_15 rfl (lv_at hl 2 rfl) ?_
    refine mv_aload_n B dX1_takeSum_16 rfl (lv_at hl 3 rfl) ?_
    refine mw_calli hI hA (va_runV (As := [.ref y]) (rest := []) B.fix (t_X1_compareParts l D kA s.heap.size f (hT.get hx x1 x3) (hT.get hxr x4 x2) (hT.get hy y1 y3) (hT.get hyr y4 y2) hzx.toCn hzy.toCn) (cwV 1 B.2.2.2.2.1 (gV kw_127 kw_128 kw_129 kw_2 kw_130) rfl rfl rfl (by decide +kernel) ⟨Nat.le_of_ble_eq_true rfl, Nat.le_of_ble_eq_true rfl⟩) ⟨mw_blind st_S.blind, mw_recv B hI (hT.get hx x1 x3) rfl, mw_pre B hI (hSt.call hI hA)⟩ rfl rfl hl.1 rfl (lv_room (Nat.le_of_ble_eq_true rfl)) dX1_takeSum_17 ⟨Nat.le_of_ble_eq_true rfl, Nat.le_of_ble_eq_true rfl⟩) (fun r f H locs hp hI2 => ?_)
    clear hI
    have hI := hI2
    clear hI2
    obtain ⟨rfl, rfl⟩ := hp
    have q7 := c3_in (dv gx nx) (dv gy ny)
    have j28 : ∀ (xl : Int), xl = (if dv gx nx < dv gy ny then 0 else 1) → W p l e rm_X1_takeSum s m ([.ref h, .ref x, .ref y, .int (iI (aw))] : List Value).toArray below meth c H locs 0 0 Q (F0 m 28 ls [.int (iI (xl))]) := by
      intro xl hxl
      refine mv_istore (lv' := [(5, .int (iI (xl))), (4, .int (iI (yb))), (0, .ref h), (1, .ref x), (2, .ref y), (3, .int (iI (aw)))]) B dX1_takeSum_28 hl (by decide) rfl (fun ls hl => ?_)
      refine mv_aload_n B dX1_takeSum_30 rfl (lv_at hl 2 rfl) ?_
      refine mv_iload B dX1_takeSum_31 (lv_at hl 0 rfl) ?_
      have j45 : ∀ (nb : Int), nb = (if xl = 0 then yb else bx) → W p l e rm_X1_takeSum s m ([.ref h, .ref x, .ref y, .int (iI (aw))] : List Value).toArray below meth c H locs 0 0 Q (F0 m 45 ls [.int (iI (nb)), .ref h]) := by
        intro nb hnb
        refine ww_putb B hI hT (by omega) uin_X1 kw_26 dX1_takeSum_45 (fun f H locs hT hI => ?_)
        refine mv_aload_n B dX1_takeSum_48 rfl (lv_at hl 3 rfl) ?_
        refine ww_below B hI (hT.get hx x1 x3) uin_X1 kw_26 dX1_takeSum_49 ?_
        refine mv_iload B dX1_takeSum_52 (lv_at hl 1 rfl) ?_
        refine mv_icmp_ne (tgt := 66) B dX1_takeSum_54 (by decide) (by omega) (fun hd3 => ?_) (fun hd3 => ?_)
        · refine mv_iload B dX1_takeSum_66 (lv_at hl 0 rfl) ?_
          refine mv_if_eq (tgt := 80) B dX1_takeSum_68 (by decide) (by omega) (fun hd4 => ?_) (fun hd4 => ?_)
          · refine mv_aload_n B dX1_takeSum_80 rfl (lv_at hl 2 rfl) ?_
            refine mv_aload_n B dX1_takeSum_81 rfl (lv_at hl 4 rfl) ?_
            refine mv_aload_n B dX1_takeSum_82 rfl (lv_at hl 3 rfl) ?_
            have m3 : nx ≤ ny := bp_size hzy hzx (by omega)
            refine mw_callv hI hA (va_runV (As := [.ref y, .ref x]) (rest := []) B.fix (t_X1_subtractParts l D kA H.size f hT.1 hT.2.1 (hT.get hy y1 y3) (hT.get hyr y4 y2) (hT.get hx x1 x3) (hT.get hxr x4 x2) y1 y2 x1 x2 (by omega) (by omega) m3 (by omega) hzy.2.1 hzx.2.1 (by omega)) (cwV 2 B.2.2.2.2.1 (gV kw_140 kw_142 ks_1 kw_2 kw_143) rfl rfl rfl (by decide +kernel) ⟨Nat.le_of_ble_eq_true rfl, Nat.le_of_ble_eq_true rfl⟩) ⟨mw_blind st_S.blind, mw_recv B hI hT.1 rfl, mw_pre B hI (hSt.call hI hA)⟩ rfl rfl hl.1 rfl (lv_room (Nat.le_of_ble_eq_true rfl)) dX1_takeSum_83 ⟨Nat.le_of_ble_eq_true rfl, Nat.le_of_ble_eq_true rfl⟩) (fun f H locs hp hI2 => ?_)
            clear hI
            have hI := hI2
            clear hI2
            obtain ⟨g', n', a1, a2, hT2⟩ := hp
            have hT := hT.trans hT2
            exact mw_vret B hQ hrt hI (hT.toRp (rp_of a1 a2 (by split <;> omega))) dX1_takeSum_86
          · refine mv_aload_n B dX1_takeSum_71 rfl (lv_at hl 2 rfl) ?_
            refine mv_aload_n B dX1_takeSum_72 rfl (lv_at hl 3 rfl) ?_
            refine mv_aload_n B dX1_takeSum_73 rfl (lv_at hl 4 rfl) ?_
            have m3 : ny ≤ nx := bp_size hzx hzy (by omega)
            refine mw_callv hI hA (va_runV (As := [.ref x, .ref y]) (rest := []) B.fix (t_X1_subtractParts l D kA H.size f hT.1 hT.2.1 (hT.get hx x1 x3) (hT.get hxr x4 x2) (hT.get hy y1 y3) (hT.get hyr y4 y2) x1 x2 y1 y2 (by omega) (by omega) m3 (by omega) hzx.2.1 hzy.2.1 (by omega)) (cwV 2 B.2.2.2.2.1 (gV kw_140 kw_142 ks_1 kw_2 kw_143) rfl rfl rfl (by decide +kernel) ⟨Nat.le_of_ble_eq_true rfl, Nat.le_of_ble_eq_true rfl⟩) ⟨mw_blind st_S.blind, mw_recv B hI hT.1 rfl, mw_pre B hI (hSt.call hI hA)⟩ rfl rfl hl.1 rfl (lv_room (Nat.le_of_ble_eq_true rfl)) dX1_takeSum_74 ⟨Nat.le_of_ble_eq_true rfl, Nat.le_of_ble_eq_true rfl⟩) (fun f H locs hp hI2 => ?_)
            clear hI
            have hI := hI2
            clear hI2
            obtain ⟨g', n', a1, a2, hT2⟩ := hp
            have hT := hT.trans hT2
            refine mv_goto (tgt := 86) B dX1_takeSum_77 (by decide) ?_
            exact mw_vret B hQ hrt hI (hT.toRp (rp_of a1 a2 (by split <;> omega))) dX1_takeSum_86
        · refine mv_aload_n B dX1_takeSum_57 rfl (lv_at hl 2 rfl) ?_
          refine mv_aload_n B dX1_takeSum_58 rfl (lv_at hl 3 rfl) ?_
          refine mv_aload_n B dX1_takeSum_59 rfl (lv_at hl 4 rfl) ?_
          refine mw_callv hI hA (va_runV (As := [.ref x, .ref y]) (rest := []) B.fix (t_X1_addParts l D kA H.size f hT.1 hT.2.1 (hT.get hx x1 x3) (hT.get hxr x4 x2) (hT.get hy y1 y3) (hT.get hyr y4 y2) x1 x2 y1 y2 (by omega) (by omega) (by omega) hzx.2.1 hzy.2.1) (cwV 2 B.2.2.2.2.1 (gV kw_131 kw_133 ks_0 kw_2 kw_134) rfl rfl rfl (by decide +kernel) ⟨Nat.le_of_ble_eq_true rfl, Nat.le_of_ble_eq_true rfl⟩) ⟨mw_blind st_S.blind, mw_recv B hI hT.1 rfl, mw_pre B hI (hSt.call hI hA)⟩ rfl rfl hl.1 rfl (lv_room (Nat.le_of_ble_eq_true rfl)) dX1_takeSum_60 ⟨Nat.le_of_ble_eq_true rfl, Nat.le_of_ble_eq_true rfl⟩) (fun f H locs hp hI2 => ?_)
          clear hI
          have hI := hI2
          clear hI2
          obtain ⟨g', n', a1, a2, hT2⟩ := hp
          have hT := hT.trans hT2
          refine mv_goto (tgt := 86) B dX1_takeSum_63 (by decide) ?_
          exact mw_vret B hQ hrt hI (hT.toRp (rp_of a1 a2 (by split <;> omega))) dX1_takeSum_86
      refine mv_if_eq (tgt := 43) B dX1_takeSum_33 (by decide) (by omega) (fun hd2 => ?_) (fun hd2 => ?_)
      · refine mv_iload B dX1_takeSum_43 (lv_at hl 1 rfl) ?_
        exact j45 _ (by rw [if_pos hd2])
      · refine mv_aload_n B dX1_takeSum_36 rfl (lv_at hl 3 rfl) ?_
        refine ww_below B hI (hT.get hx x1 x3) uin_X1 kw_26 dX1_takeSum_37 ?_
        refine mv_goto (tgt := 45) B dX1_takeSum_40 (by decide) ?_
        exact j45 _ (by rw [if_neg hd2])
    refine mv_if_lt (tgt := 27) B dX1_takeSum_20 (by decide) (by omega) (fun hd1 => ?_) (fun hd1 => ?_)
    · refine mv_iconst B dX1_takeSum_27 ?_
      exact j28 _ (by rw [if_pos (by omega)])
    · refine mv_iconst B dX1_takeSum_23 ?_
      refine mv_goto (tgt := 28) B dX1_takeSum_24 (by decide) ?_
      exact j28 _ (by rw [if_neg (by omega)])
  refine mv_icmp_eq (tgt := 12) B dX1_takeSum_5 (by decide) (by omega) (fun hd => ?_) (fun hd => ?_)
  · refine mv_iconst B dX1_takeSum_12 ?_
    exact j13 _ (by rw [if_pos hd])
  · refine mv_iconst B dX1_takeSum_8 ?_
    refine mv_goto (tgt := 13) B dX1_takeSum_9 (by decide) ?_
    exact j13 _ (by rw [if_neg hd])
