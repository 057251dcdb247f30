abbrev rm_X1_load : Room := { frames := 1, cells := 0, slots := 0, locals := 24 }
set_option maxHeartbeats 4000000 in
set_option maxRecDepth 100000 in
/-- load -/
theorem t_X1_load (l : Launch) (D : va_G) (kA : Nat → ClassId) (sz : Nat) (f0 : mw_M) {h r : Nat} {z : Int} (hw : Rw (kA 0) f0 h r) (hz : -9223372036854775808 ≤ z ∧ z ≤ 9223372036854775807) : mw_Mv l yX1_load (Cond.code yX1_load cX1_load 6 (none) :: gw) rm_X1_load D vwCl (tyL kA) st_S [.ref h, .long (lI (z))] f0 sz (fun f => Rp (kA 0) f h r z ∧ fo f0 f h r) 0 0 := by
  refine mw_ofv (cc := cX1_load) (maxL := 6) (ret := none) (by decide) rfl (Nat.le_of_ble_eq_true rfl) ?_
  intro p e s m below meth c A ls Q hQ B hrt hnm hA hI hSt hl
  have hl : lv_has ls 6 [(0, .ref h), (1, .long (lI (z)))] := hl
  obtain ⟨g, n, b, hh, hr⟩ := hw
  obtain ⟨f, hI, hT⟩ : ∃ f, mw_I D vwCl A s s.heap [] f ∧ wSt (kA 0) f0 h r f g n b := ⟨f0, hI, wSt.self hh hr⟩
  refine mv_lload_n B dX1_load_0 rfl (lv_at hl 1 rfl) ?_
  refine mv_lstore_n (lv' := [(3, .long (lI (z))), (0, .ref h), (1, .long (lI (z)))]) B dX1_load_1 rfl hl (by decide) rfl (fun ls hl => ?_)
  refine mv_iconst B dX1_load_2 ?_
  refine mv_istore (lv' := [(5, .int (iI (0))), (3, .long (lI (z))), (0, .ref h), (1, .long (lI (z)))]) B dX1_load_3 hl (by decide) rfl (fun ls hl => ?_)
  have loop : ∀ (μ : Nat) (j : Nat) (i y : Int) (g' : Nat → Int) (f : mw_M) (H : Heap) (locs : List Loc) (ls : Array Slot), 4 - j < μ → i = (j : Int) → j ≤ 4 → (-9223372036854775808 ≤ y ∧ y ≤ 9223372036854775807) → dg g' j → dv g' j + (y.natAbs : Int) * 1000000 ^ j = (z.natAbs : Int) → mw_I D vwCl A s H locs f → wSt (kA 0) f0 h r f g' n b → lv_has ls 6 [(5, .int (iI (i))), (3, .long (lI (y))), (0, .ref h), (1, .long (lI (z)))] → W p l e rm_X1_load s m ([.ref h, .long (lI (z))] : List Value).toArray below meth c H locs 0 0 Q (F0 m 5 ls []) := by
    intro μ
    induction μ with
    | zero => intro j i y g' f H locs ls hμ; exact absurd hμ (Nat.not_lt_zero _)
    | succ μ ih =>
      intro j i y g' f H locs ls hμ hi hj hy hg hv hI hT hl
      refine mv_iload B dX1_load_5 (lv_at hl 0 rfl) ?_
      refine mv_iconst B dX1_load_7 ?_
      refine mv_icmp_ge (tgt := 39) B dX1_load_8 (by decide) (by omega) (fun hd0 => ?_) (fun hd0 => ?_)
      · obtain rfl : j = 4 := by omega
        have b1 := dv_nn hg
        have hy0 : y = 0 := by omega
        subst hy0
        refine mv_aload_n B dX1_load_39 rfl (lv_at hl 2 rfl) ?_
        refine mv_lload_n B dX1_load_40 rfl (lv_at hl 3 rfl) ?_
        refine mv_lconst0 B dX1_load_41 ?_
        have j51 : ∀ (nb : Int), nb = (if 0 ≤ z then 0 else 1) → W p l e rm_X1_load s m ([.ref h, .long (lI (z))] : List Value).toArray below meth c H locs 0 0 Q (F0 m 51 ls [.int (iI (nb)), .ref h]) := by
          intro nb hnb
          refine ww_putb B hI hT (by omega) uin_X1 kw_26 dX1_load_51 (fun f H locs hT hI => ?_)
          refine mv_aload_n B dX1_load_54 rfl (lv_at hl 2 rfl) ?_
          refine mv_iconst B dX1_load_55 ?_
          refine mw_callv hI hA (va_runV (As := [.int (iI (4))]) (rest := []) B.fix (t_X1_trimTo l D kA H.size f (k := 4) hT.1 hT.2.1 (by omega) hg) (cwV 1 B.2.2.2.2.1 (gV kw_104 kw_105 kw_106 kw_2 kw_107) rfl rfl rfl (by decide +kernel) ⟨Nat.le_of_ble_eq_true rfl, Nat.le_of_ble_eq_true rfl⟩) ⟨mw_blind st_S.blind, mw_recv B hI hT.1 rfl, mw_pre B hI (hSt.call hI hA)⟩ rfl rfl hl.1 rfl (lv_room (Nat.le_of_ble_eq_true rfl)) dX1_load_56 ⟨Nat.le_of_ble_eq_true rfl, Nat.le_of_ble_eq_true rfl⟩) (fun f H locs hp hI2 => ?_)
          clear hI
          have hI := hI2
          clear hI2
          obtain ⟨n', a1, a2, a3, hT2⟩ := hp
          have hT := hT.trans hT2
          have e1 := dv_trim a1 a2
          exact mw_vret B hQ hrt hI (hT.toRp (rp_of ⟨by omega, hg.sub a1, a3⟩ e1.symm (by split at hnb <;> omega))) dX1_load_59
        refine mv_lcmp_ge (tgt := 50) B dX1_load_42 dX1_load_43 (by decide) (by omega) (fun hd1 => ?_) (fun hd1 => ?_)
        · refine mv_iconst B dX1_load_50 ?_
          exact j51 _ (by rw [if_pos hd1])
        · refine mv_iconst B dX1_load_46 ?_
          refine mv_goto (tgt := 51) B dX1_load_47 (by decide) ?_
          exact j51 _ (by rw [if_neg hd1])
      · refine mv_aload_n B dX1_load_11 rfl (lv_at hl 2 rfl) ?_
        refine ww_parts B hI hT.1 uin_X1 kw_22 dX1_load_12 ?_
        refine mv_iload B dX1_load_15 (lv_at hl 0 rfl) ?_
        refine mv_lload_n B dX1_load_17 rfl (lv_at hl 1 rfl) ?_
        refine mv_ldc2 (z := 1000000) B dX1_load_18 kw_100 (by decide) ?_
        refine mv_lremT B dX1_load_21 (by omega) ?_
        have t1 := Int.natAbs_tmod y 1000000
        have t2 := Int.natAbs_tdiv y 1000000
        have t3 := tdiv_in (a := y) (b := 1000000) (by decide)
        have t4 := tmod_in y
        refine mv_labs B hl.1 kw_101 kw_102 kw_5 kw_103 (Nat.le_of_ble_eq_true rfl) (Nat.le_of_ble_eq_true rfl) (Nat.le_of_ble_eq_true rfl) (Nat.le_of_ble_eq_true rfl) (by omega) dX1_load_22 ?_
        refine mv_l2i B dX1_load_25 ?_
        refine ww_iast B hI hT (j) (by omega) (by omega) dX1_load_26 (fun f H locs hT hI => ?_)
        refine mv_lload_n B dX1_load_27 rfl (lv_at hl 1 rfl) ?_
        refine mv_ldc2 (z := 1000000) B dX1_load_28 kw_100 (by decide) ?_
        refine mv_ldivT B dX1_load_31 (by omega) ?_
        refine mv_lstore_n (lv' := [(3, .long (lI ((y).tdiv (1000000)))), (5, .int (iI (i))), (0, .ref h), (1, .long (lI (z)))]) B dX1_load_32 rfl hl (by decide) rfl (fun ls hl => ?_)
        refine mv_iinc (k := 1) (lv' := [(5, .int (iI (i + 1))), (3, .long (lI ((y).tdiv (1000000)))), (0, .ref h), (1, .long (lI (z)))]) B dX1_load_33 hl rfl (by decide) rfl (fun ls hl => ?_)
        refine mv_goto (tgt := 5) B dX1_load_36 (by decide) ?_
        refine ih (j + 1) _ _ _ f H locs ls (by omega) (by omega) (by omega) (by omega) (hg.up_s (by omega)) ?_ hI hT (lv_sub hl [0, 1, 2, 3] rfl)
        rw [dv_up_s, bp_s, ← hv]
        have e2 := Nat.div_add_mod y.natAbs 1000000
        exact load_step t1 t2 e2
  exact loop 5 0 _ _ g f s.heap [] ls (by omega) rfl (by omega) hz (fun i hi => absurd hi (by omega)) (by rw [dv_0]; omega) hI hT (lv_sub hl [0, 1, 2, 3] rfl)
abbrev rm_X1_take : Room := { frames := 1, cells := 0, slots := 0, locals := 40 }
set_option maxHeartbeats 4000000 in
set_option maxRecDepth 100000 in
/-- take; other may be this -/
theorem t_X1_take (l : Launch) (D : va_G) (kA : Nat → ClassId) (sz : Nat) (f0 : mw_M) {h r x rx : Nat} {zx : Int} (hw : Rw (kA 0) f0 h r) (hx : Rp (kA 0) f0 x rx zx) (hd : x = h ∧ rx = r ∨ x ≠ h ∧ rx ≠ r) : mw_Mv l yX1_take (Cond.code yX1_take cX1_take 2 (none) :: gw) rm_X1_take D vwCl (tyL kA) st_S [.ref h, .ref x] f0 sz (fun f => Rp (kA 0) f h r zx ∧ fo f0 f h r) 0 0 := by
  refine mw_ofv (cc := cX1_take) (maxL := 2) (ret := none) (by decide) rfl (Nat.le_of_ble_eq_true rfl) ?_
  intro p e s m below meth c A ls Q hQ B hrt hnm hA hI hSt hl
  have hl : lv_has ls 2 [(0, .ref h), (1, .ref x)] := hl
  obtain ⟨g, n, b, hh, hr⟩ := hw
  obtain ⟨gx, nx, bx, hx, hxr, hzx⟩ := hx
  have m1 := hzx.1
  have q1 := hzx.b0
  obtain ⟨f, hI, hT⟩ : ∃ f, mw_I D vwCl A s s.heap [] f ∧ wSt (kA 0) f0 h r f g n b := ⟨f0, hI, wSt.self hh hr⟩
  rcases hd with ⟨rfl, rfl⟩ | ⟨x1, x2⟩
  · refine mv_aload_n B dX1_take_0 rfl (lv_at hl 1 rfl) ?_
    refine ww_parts B hI (hT.1.trans (hh.symm.trans hx)) uin_X1 kw_22 dX1_take_1 ?_
    refine mv_iconst B dX1_take_4 ?_
    refine mv_aload_n B dX1_take_5 rfl (lv_at hl 0 rfl) ?_
    refine ww_parts B hI hT.1 uin_X1 kw_22 dX1_take_6 ?_
    refine mv_iconst B dX1_take_9 ?_
    refine mv_aload_n B dX1_take_10 rfl (lv_at hl 1 rfl) ?_
    refine ww_size B hI (hT.1.trans (hh.symm.trans hx)) uin_X1 kw_24 dX1_take_11 ?_
    refine mw_copy B hI hl.1 kw_156 kw_158 kw_157 kw_6 0 rfl (hT.2.1.trans (hr.symm.trans hxr)) hT.2.1 (k := nx) m1 m1 (by decide) (Nat.le_of_ble_eq_true rfl) (Nat.le_of_ble_eq_true rfl) dX1_take_14 (fun H locs hI => ?_)
    have hT := hT.ast (cpI gx g nx)
    generalize mw_set f _ _ = f at hI hT
    refine mv_aload_n B dX1_take_17 rfl (lv_at hl 0 rfl) ?_
    refine mv_aload_n B dX1_take_18 rfl (lv_at hl 1 rfl) ?_
    refine ww_size B hI (hT.1.trans (hh.symm.trans hx)) uin_X1 kw_24 dX1_take_19 ?_
    refine ww_puts B hI hT uin_X1 kw_24 dX1_take_22 (fun f H locs hT hI => ?_)
    refine mv_aload_n B dX1_take_25 rfl (lv_at hl 0 rfl) ?_
    refine mv_aload_n B dX1_take_26 rfl (lv_at hl 1 rfl) ?_
    refine ww_below B hI (sameC hT.1 hh hx) uin_X1 kw_26 dX1_take_27 ?_
    refine ww_putb B hI hT (by omega) uin_X1 kw_26 dX1_take_30 (fun f H locs hT hI => ?_)
    exact mw_vret B hQ hrt hI (hT.toRp (hzx.congr (fun i hi => by simp [cpI, hi]))) dX1_take_33
  · have x3 := wh_ne hx hr
    have x4 := Ne.symm (wh_ne hh hxr)
    refine mv_aload_n B dX1_take_0 rfl (lv_at hl 1 rfl) ?_
    refine ww_parts B hI (hT.get hx x1 x3) uin_X1 kw_22 dX1_take_1 ?_
    refine mv_iconst B dX1_take_4 ?_
    refine mv_aload_n B dX1_take_5 rfl (lv_at hl 0 rfl) ?_
    refine ww_parts B hI hT.1 uin_X1 kw_22 dX1_take_6 ?_
    refine mv_iconst B dX1_take_9 ?_
    refine mv_aload_n B dX1_take_10 rfl (lv_at hl 1 rfl) ?_
    refine ww_size B hI (hT.get hx x1 x3) uin_X1 kw_24 dX1_take_11 ?_
    refine mw_copy B hI hl.1 kw_156 kw_158 kw_157 kw_6 0 rfl (hT.get hxr x4 x2) hT.2.1 (k := nx) m1 m1 (by decide) (Nat.le_of_ble_eq_true rfl) (Nat.le_of_ble_eq_true rfl) dX1_take_14 (fun H locs hI => ?_)
    have hT := hT.ast (cpI gx g nx)
    generalize mw_set f _ _ = f at hI hT
    refine mv_aload_n B dX1_take_17 rfl (lv_at hl 0 rfl) ?_
    refine mv_aload_n B dX1_take_18 rfl (lv_at hl 1 rfl) ?_
    refine ww_size B hI (hT.get hx x1 x3) uin_X1 kw_24 dX1_take_19 ?_
    refine ww_puts B hI hT uin_X1 kw_24 dX1_take_22 (fun f H locs hT hI => ?_)
    refine mv_aload_n B dX1_take_25 rfl (lv_at hl 0 rfl) ?_
    refine mv_aload_n B dX1_take_26 rfl (lv_at hl 1 rfl) ?_
    refine ww_below B hI (hT.get hx x1 x3) uin_X1 kw_26 dX1_take_27 ?_
    refine ww_putb B hI hT (by omega) uin_X1 kw_26 dX1_take_30 (fun f H locs hT hI => ?_)
    exact mw_vret B hQ hrt hI (hT.toRp (hzx.congr (fun i hi => by simp [cpI, hi]))) dX1_take_33
abbrev rm_X1_takeProduct : Room := { frames := 1, cells := 0, slots := 0, locals := 24 }
set_option maxHeartbeats 4000000 in
set_option maxRecDepth 100000 in
/-- takeProduct -/
theorem t_X1_takeProduct (l : Launch) (D : va_G) (kA : Nat → ClassId) (sz : Nat) (f0 : mw_M) {h r x rx y ry : Nat} {zx zy : Int} (hw : Rw (kA 0) f0 h r) (hx : Rp (kA 0) f0 x rx zx) (hy : Rp (kA 0) f0 y ry zy) (x1 : x ≠ h) (x2 : rx ≠ r) (y1 : y ≠ h) (y2 : ry ≠ r) (k1 : (zx.natAbs : Int) < 1000000 ^ 50) (k2 : (zy.natAbs : Int) < 1000000 ^ 50) : mw_Mv l yX1_takeProduct (Cond.code yX1_takeProduct cX1_takeProduct 11 (none) :: gw) rm_X1_takeProduct D vwCl (tyL kA) st_S [.ref h, .ref x, .ref y] f0 sz (fun f => Rp (kA 0) f h r (zx * zy) ∧ fo f0 f h r) 0 0 := by
  refine mw_ofv (cc := cX1_takeProduct) (maxL := 11) (ret := none) (by decide) rfl (Nat.le_of_ble_eq_true rfl) ?_
  intro p e s m below meth c A ls Q hQ B hrt hnm hA hI hSt hl
  have hl : lv_has ls 11 [(0, .ref h), (1, .ref x), (2, .ref y)] := hl
  obtain ⟨g, n, b, hh, hr⟩ := hw
  obtain ⟨gx, nx, bx, hx, hxr, hzx⟩ := hx
  obtain ⟨gy, ny, by_, hy, hyr, hzy⟩ := hy
  have m1 := (hzx.size 50).mpr k1
  have m2 := (hzy.size 50).mpr k2
  obtain ⟨f, hI, hT⟩ : ∃ f, mw_I D vwCl A s s.heap [] f ∧ wSt (kA 0) f0 h r f g n b := ⟨f0, hI, wSt.self hh hr⟩
  have x3 := wh_ne hx hr
  have x4 := Ne.symm (wh_ne hh hxr)
  have y3 := wh_ne hy hr
  have y4 := Ne.symm (wh_ne hh hyr)
  have q1 := hzx.b0
  have q2 := hzy.b0
  have q3 := hzx.nat
  have q4 := hzy.nat
  have q5 := dv_nn hzx.2.1
  have q6 := dv_nn hzy.2.1
  refine mv_aload_n B dX1_takeProduct_0 rfl (lv_at hl 1 rfl) ?_
  refine ww_size B hI (hT.get hx x1 x3) uin_X1 kw_24 dX1_takeProduct_1 ?_
  refine mv_aload_n B dX1_takeProduct_4 rfl (lv_at hl 2 rfl) ?_
  refine ww_size B hI (hT.get hy y1 y3) uin_X1 kw_24 dX1_takeProduct_5 ?_
  refine mv_iadd B dX1_takeProduct_8 ?_
  refine mv_bipush B dX1_takeProduct_9 (by decide) ?_
  refine mv_mmin B hl.1 kw_117 kw_118 kw_5 kw_119 (Nat.le_of_ble_eq_true rfl) (Nat.le_of_ble_eq_true rfl) (Nat.le_of_ble_eq_true rfl) (Nat.le_of_ble_eq_true rfl) (by omega) dX1_takeProduct_11 ?_
  rw [show min ((nx : Int) + (ny : Int)) 104 = (nx : Int) + (ny : Int) by omega]
  refine mv_istore_n (lv' := [(3, .int (iI (((nx : Int)) + ((ny : Int))))), (0, .ref h), (1, .ref x), (2, .ref y)]) B dX1_takeProduct_14 rfl hl (by decide) rfl (fun ls hl => ?_)
  refine mv_aload_n B dX1_takeProduct_15 rfl (lv_at hl 2 rfl) ?_
  refine ww_parts B hI (hT.get hx x1 x3) uin_X1 kw_22 dX1_takeProduct_16 ?_
  refine mv_astore (lv' := [(4, .ref rx), (3, .int (iI (((nx : Int)) + ((ny : Int))))), (0, .ref h), (1, .ref x), (2, .ref y)]) B dX1_takeProduct_19 hl (by decide) rfl (fun ls hl => ?_)
  refine mv_aload_n B dX1_takeProduct_21 rfl (lv_at hl 4 rfl) ?_
  refine ww_parts B hI (hT.get hy y1 y3) uin_X1 kw_22 dX1_takeProduct_22 ?_
  refine mv_astore (lv' := [(5, .ref ry), (4, .ref rx), (3, .int (iI (((nx : Int)) + ((ny : Int))))), (0, .ref h), (1, .ref x), (2, .ref y)]) B dX1_takeProduct_25 hl (by decide) rfl (fun ls hl => ?_)
  refine mv_lconst0 B dX1_takeProduct_27 ?_
  refine mv_lstore (lv' := [(6, .long (lI (0))), (5, .ref ry), (4, .ref rx), (3, .int (iI (((nx : Int)) + ((ny : Int))))), (0, .ref h), (1, .ref x), (2, .ref y)]) B dX1_takeProduct_28 hl (by decide) rfl (fun ls hl => ?_)
  refine mv_iconst B dX1_takeProduct_30 ?_
  refine mv_istore (lv' := [(8, .int (iI (0))), (6, .long (lI (0))), (5, .ref ry), (4, .ref rx), (3, .int (iI (((nx : Int)) + ((ny : Int))))), (0, .ref h), (1, .ref x), (2, .ref y)]) B dX1_takeProduct_31 hl (by decide) rfl (fun ls hl => ?_)
  have eN : (nx : Int) + (ny : Int) = ((nx + ny : Nat) : Int) := by omega
  have loop : ∀ (μ : Nat) (k : Nat) (i cy : Int) (g' : Nat → Int) (f : mw_M) (H : Heap) (locs : List Loc) (ls : Array Slot), nx + ny - k < μ → i = (k : Int) → k ≤ nx + ny → (0 ≤ cy ∧ cy ≤ 100000000) → dg g' k → dv g' k + cy * 1000000 ^ k = rs gx (pz gy ny) k nx → mw_I D vwCl A s H locs f → wSt (kA 0) f0 h r f g' n b → lv_has ls 11 [(8, .int (iI (i))), (6, .long (lI (cy))), (5, .ref ry), (4, .ref rx), (3, .int (iI (((nx : Int)) + ((ny : Int))))), (0, .ref h), (1, .ref x), (2, .ref y)] → W p l e rm_X1_takeProduct s m ([.ref h, .ref x, .ref y] : List Value).toArray below meth c H locs 0 0 Q (F0 m 33 ls []) := by
    intro μ
    induction μ with
    | zero => intro k i cy g' f H locs ls hμ; exact absurd hμ (Nat.not_lt_zero _)
    | succ μ ih =>
      intro k i cy g' f H locs ls hμ hi hk hcy hg hv hI hT hl
      refine mv_iload B dX1_takeProduct_33 (lv_at hl 0 rfl) ?_
      refine mv_iload_n B dX1_takeProduct_35 rfl (lv_at hl 4 rfl) ?_
      refine mv_icmp_ge (tgt := 129) B dX1_takeProduct_36 (by decide) (by omega) (fun hd0 => ?_) (fun hd0 => ?_)
      · have ek : k = nx + ny := by omega
        subst ek
        rw [rs_all (Nat.le_refl _)] at hv
        have b1 := dv_lt hzx.2.1
        have b2 := dv_lt hzy.2.1
        have b3 := bp_add nx ny
        have b4 := dv_nn hg
        have b5 := bp_pos (nx + ny)
        have b6 : dv gx nx * dv gy ny < 1000000 ^ (nx + ny) := by rw [b3]; exact mul_lt_lt q5 b1 q6 b2
        obtain rfl : cy = 0 := cy_zero hcy.1 b5 (by omega)
        rw [Int.zero_mul, Int.add_zero] at hv
        refine mv_aload_n B dX1_takeProduct_129 rfl (lv_at hl 5 rfl) ?_
        refine mv_aload_n B dX1_takeProduct_130 rfl (lv_at hl 6 rfl) ?_
        refine ww_below B hI (hT.get hx x1 x3) uin_X1 kw_26 dX1_takeProduct_131 ?_
        refine mv_aload_n B dX1_takeProduct_134 rfl (lv_at hl 7 rfl) ?_
        refine ww_below B hI (hT.get hy y1 y3) uin_X1 kw_26 dX1_takeProduct_135 ?_
        have j146 : ∀ (nb : Int), nb = (if bx = by_ then 0 else 1) → W p l e rm_X1_takeProduct s m ([.ref h, .ref x, .ref y] : List Value).toArray below meth c H locs 0 0 Q (F0 m 146 ls [.int (iI (nb)), .ref h]) := by
          intro nb hnb
          refine ww_putb B hI hT (by omega) uin_X1 kw_26 dX1_takeProduct_146 (fun f H locs hT hI => ?_)
          refine mv_aload_n B dX1_takeProduct_149 rfl (lv_at hl 5 rfl) ?_
          refine mv_iload_n B dX1_takeProduct_150 rfl (lv_at hl 4 rfl) ?_
          refine mw_callv hI hA (va_runV (As := [.int (iI (((nx : Int)) + ((ny : Int))))]) (rest := []) B.fix (t_X1_trimTo l D kA H.size f (k := nx + ny) hT.1 hT.2.1 (by omega) hg) (cwV 1 B.2.2.2.2.1 (gV kw_104 kw_105 kw_106 kw_2 kw_107) rfl rfl rfl (by decide +kernel) ⟨Nat.le_of_ble_eq_true rfl, Nat.le_of_ble_eq_true rfl⟩) ⟨mw_blind st_S.blind, mw_recv B hI hT.1 rfl, mw_pre B hI (hSt.call hI hA)⟩ rfl rfl hl.1 rfl (lv_room (Nat.le_of_ble_eq_true rfl)) dX1_takeProduct_151 ⟨Nat.le_of_ble_eq_true rfl, Nat.le_of_ble_eq_true rfl⟩) (fun f H locs hp hI2 => ?_)
          clear hI
          have hI := hI2
          clear hI2
          obtain ⟨n', a1, a2, a3, hT2⟩ := hp
          have hT := hT.trans hT2
          have e1 := dv_trim a1 a2
          have hM : (nb = 0 ∧ zx * zy = dv gx nx * dv gy ny) ∨ (nb = 1 ∧ zx * zy = -(dv gx nx * dv gy ny)) := mul_sgn hzx hzy hnb
          exact mw_vret B hQ hrt hI (hT.toRp (rp_of ⟨by omega, hg.sub a1, a3⟩ (by rw [← e1]; exact hv) hM)) dX1_takeProduct_154
        refine mv_icmp_eq (tgt := 145) B dX1_takeProduct_138 (by decide) (by omega) (fun hd1 => ?_) (fun hd1 => ?_)
        · refine mv_iconst B dX1_takeProduct_145 ?_
          exact j146 _ (by rw [if_pos hd1])
        · refine mv_iconst B dX1_takeProduct_141 ?_
          refine mv_goto (tgt := 146) B dX1_takeProduct_142 (by decide) ?_
          exact j146 _ (by rw [if_neg hd1])
      · refine mv_iload B dX1_takeProduct_39 (lv_at hl 0 rfl) ?_
        refine mv_iconst B dX1_takeProduct_41 ?_
        refine mv_iadd B dX1_takeProduct_42 ?_
        refine mv_aload_n B dX1_takeProduct_43 rfl (lv_at hl 6 rfl) ?_
        refine ww_size B hI (hT.get hx x1 x3) uin_X1 kw_24 dX1_takeProduct_44 ?_
        refine mv_mmin B hl.1 kw_117 kw_118 kw_5 kw_119 (Nat.le_of_ble_eq_true rfl) (Nat.le_of_ble_eq_true rfl) (Nat.le_of_ble_eq_true rfl) (Nat.le_of_ble_eq_true rfl) (by omega) dX1_takeProduct_47 ?_
        obtain ⟨E, hE⟩ : ∃ E : Nat, (E : Int) = min (i + 1) (nx : Int) := ⟨min (k + 1) nx, by omega⟩
        rw [← hE]
        refine mv_istore (lv' := [(9, .int (iI ((E : Int)))), (8, .int (iI (i))), (6, .long (lI (cy))), (5, .ref ry), (4, .ref rx), (3, .int (iI (((nx : Int)) + ((ny : Int))))), (0, .ref h), (1, .ref x), (2, .ref y)]) B dX1_takeProduct_50 hl (by decide) rfl (fun ls hl => ?_)
        refine mv_iconst B dX1_takeProduct_52 ?_
        refine mv_iload B dX1_takeProduct_53 (lv_at hl 1 rfl) ?_
        refine mv_aload_n B dX1_takeProduct_55 rfl (lv_at hl 8 rfl) ?_
        refine ww_size B hI (hT.get hy y1 y3) uin_X1 kw_24 dX1_takeProduct_56 ?_
        refine mv_isub B dX1_takeProduct_59 ?_
        refine mv_iconst B dX1_takeProduct_60 ?_
        refine mv_iadd B dX1_takeProduct_61 ?_
        refine mv_mmax B hl.1 kw_120 kw_121 kw_5 kw_122 (Nat.le_of_ble_eq_true rfl) (Nat.le_of_ble_eq_true rfl) (Nat.le_of_ble_eq_true rfl) (Nat.le_of_ble_eq_true rfl) (by omega) dX1_takeProduct_62 ?_
        obtain ⟨i0, hi0⟩ : ∃ i0 : Nat, (i0 : Int) = max 0 (i - (ny : Int) + 1) := ⟨k + 1 - ny, by omega⟩
        rw [← hi0]
        refine mv_istore (lv' := [(10, .int (iI ((i0 : Int)))), (9, .int (iI ((E : Int)))), (8, .int (iI (i))), (6, .long (lI (cy))), (5, .ref ry), (4, .ref rx), (3, .int (iI (((nx : Int)) + ((ny : Int))))), (0, .ref h), (1, .ref x), (2, .ref y)]) B dX1_takeProduct_65 hl (by decide) rfl (fun ls hl => ?_)
        have loop2 : ∀ (μ : Nat) (j : Nat) (u t : Int) (ls : Array Slot), E - j < μ → u = (j : Int) → i0 ≤ j → j ≤ E → t = cy + co gx (pz gy ny) k j → lv_has ls 11 [(10, .int (iI (u))), (6, .long (lI (t))), (9, .int (iI ((E : Int)))), (8, .int (iI (i))), (5, .ref ry), (4, .ref rx), (3, .int (iI (((nx : Int)) + ((ny : Int))))), (0, .ref h), (1, .ref x), (2, .ref y)] → W p l e rm_X1_takeProduct s m ([.ref h, .ref x, .ref y] : List Value).toArray below meth c H locs 0 0 Q (F0 m 67 ls []) := by
          intro μ
          induction μ with
          | zero => intro j u t ls hμ; exact absurd hμ (Nat.not_lt_zero _)
          | succ μ ih2 =>
            intro j u t ls hμ hu hj1 hj2 ht hl
            refine mv_iload B dX1_takeProduct_67 (lv_at hl 0 rfl) ?_
            refine mv_iload B dX1_takeProduct_69 (lv_at hl 2 rfl) ?_
            refine mv_icmp_ge (tgt := 101) B dX1_takeProduct_71 (by decide) (by omega) (fun hd1 => ?_) (fun hd1 => ?_)
            · obtain rfl : E = j := by omega
              have c1 : co gx (pz gy ny) k E = co gx (pz gy ny) k nx := co_end hE hi
              have c2 := co_bound (k := k) hzx.2.1 hzy.2.1 (Nat.le_refl nx)
              rw [c1] at ht
              have ht2 : 0 ≤ t ∧ t ≤ 50000000000000 + 100000000 := by omega
              refine mv_aload_n B dX1_takeProduct_101 rfl (lv_at hl 7 rfl) ?_
              refine ww_parts B hI hT.1 uin_X1 kw_22 dX1_takeProduct_102 ?_
              refine mv_iload B dX1_takeProduct_105 (lv_at hl 3 rfl) ?_
              refine mv_lload B dX1_takeProduct_107 (lv_at hl 1 rfl) ?_
              refine mv_ldc2 (z := 1000000) B dX1_takeProduct_109 kw_100 (by decide) ?_
              refine mv_lrem B dX1_takeProduct_112 (by omega) ?_
              refine mv_l2i B dX1_takeProduct_113 ?_
              refine ww_iast B hI hT (k) (by omega) (by omega) dX1_takeProduct_114 (fun f H locs hT hI => ?_)
              refine mv_lload B dX1_takeProduct_115 (lv_at hl 1 rfl) ?_
              refine mv_ldc2 (z := 1000000) B dX1_takeProduct_117 kw_100 (by decide) ?_
              refine mv_ldiv B dX1_takeProduct_120 (by omega) ?_
              refine mv_lstore (lv' := [(6, .long (lI ((t) / (1000000)))), (10, .int (iI (u))), (9, .int (iI ((E : Int)))), (8, .int (iI (i))), (5, .ref ry), (4, .ref rx), (3, .int (iI (((nx : Int)) + ((ny : Int))))), (0, .ref h), (1, .ref x), (2, .ref y)]) B dX1_takeProduct_121 hl (by decide) rfl (fun ls hl => ?_)
              refine mv_iinc (k := 3) (lv' := [(8, .int (iI (i + 1))), (6, .long (lI ((t) / (1000000)))), (10, .int (iI (u))), (9, .int (iI ((E : Int)))), (5, .ref ry), (4, .ref rx), (3, .int (iI (((nx : Int)) + ((ny : Int))))), (0, .ref h), (1, .ref x), (2, .ref y)]) B dX1_takeProduct_123 hl rfl (by decide) rfl (fun ls hl => ?_)
              refine mv_goto (tgt := 33) B dX1_takeProduct_126 (by decide) ?_
              refine ih (k + 1) _ _ _ f H locs ls (by omega) (by omega) (by omega) (by omega) (hg.up_s (by omega)) ?_ hI hT (lv_sub hl [0, 1, 4, 5, 6, 7, 8, 9] rfl)
              rw [dv_up_s, rs_s, ← hv, bp_s]
              have e2 := Int.mul_ediv_add_emod t 1000000
              exact col_step e2 ht
            · have p1 := hzx.2.1 j (by omega)
              have p2 := hzy.2.1 (k - j) (by omega)
              refine mv_lload B dX1_takeProduct_74 (lv_at hl 1 rfl) ?_
              refine mv_aload B dX1_takeProduct_76 (lv_at hl 5 rfl) ?_
              refine mv_iload B dX1_takeProduct_78 (lv_at hl 0 rfl) ?_
              refine mw_iald B hI 0 (hT.get hxr x4 x2) rfl (j) (by omega) (by omega) (by decide) dX1_takeProduct_80 ?_
              refine mv_i2l B dX1_takeProduct_81 (by omega) ?_
              refine mv_aload B dX1_takeProduct_82 (lv_at hl 4 rfl) ?_
              refine mv_iload B dX1_takeProduct_84 (lv_at hl 3 rfl) ?_
              refine mv_iload B dX1_takeProduct_86 (lv_at hl 0 rfl) ?_
              refine mv_isub B dX1_takeProduct_88 ?_
              refine mw_iald B hI 0 (hT.get hyr y4 y2) rfl (k - j) (by omega) (by omega) (by decide) dX1_takeProduct_89 ?_
              refine mv_i2l B dX1_takeProduct_90 (by omega) ?_
              refine mv_lmul B dX1_takeProduct_91 ?_
              refine mv_ladd B dX1_takeProduct_92 ?_
              refine mv_lstore (lv' := [(6, .long (lI ((t) + ((gx (j)) * (gy (k - j)))))), (10, .int (iI (u))), (9, .int (iI ((E : Int)))), (8, .int (iI (i))), (5, .ref ry), (4, .ref rx), (3, .int (iI (((nx : Int)) + ((ny : Int))))), (0, .ref h), (1, .ref x), (2, .ref y)]) B dX1_takeProduct_93 hl (by decide) rfl (fun ls hl => ?_)
              refine mv_iinc (k := 1) (lv' := [(10, .int (iI (u + 1))), (6, .long (lI ((t) + ((gx (j)) * (gy (k - j)))))), (9, .int (iI ((E : Int)))), (8, .int (iI (i))), (5, .ref ry), (4, .ref rx), (3, .int (iI (((nx : Int)) + ((ny : Int))))), (0, .ref h), (1, .ref x), (2, .ref y)]) B dX1_takeProduct_95 hl rfl (by decide) rfl (fun ls hl => ?_)
              refine mv_goto (tgt := 67) B dX1_takeProduct_98 (by decide) ?_
              refine ih2 (j + 1) _ _ ls (by omega) (by omega) (by omega) (by omega) ?_ (lv_sub hl [0, 1, 2, 3, 4, 5, 6, 7, 8, 9] rfl)
              rw [co_in (by omega) (by omega), ht]
              omega
        have c0 : co gx (pz gy ny) k i0 = 0 := by
          rcases Nat.eq_zero_or_pos i0 with q | q
          · rw [q]; rfl
          · exact co_lo (by omega)
        exact loop2 (E + 1) i0 _ _ ls (by omega) rfl (Nat.le_refl _) (by omega) (by rw [c0]; omega) (lv_sub hl [0, 3, 1, 2, 4, 5, 6, 7, 8, 9] rfl)
  exact loop (nx + ny + 1) 0 _ _ g f s.heap [] ls (by omega) rfl (by omega) (by omega) (fun i hi => absurd hi (by omega)) (by rw [dv_0, rs_0]; rfl) hI hT (lv_sub hl [0, 1, 2, 3, 4, 5, 6, 7] rfl)
