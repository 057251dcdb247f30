abbrev rm_X1_compareWhole : Room := { frames := 1, cells := 0, slots := 0, locals := 22 }
set_option maxHeartbeats 4000000 in
set_option maxRecDepth 100000 in
/-- compareWhole -/
theorem t_X1_compareWhole (l : Launch) (D : va_G) (kA : Nat → ClassId) (sz : Nat) (f0 : mw_M) {h r x rx : Nat} {z zx : Int} (hh : Rp (kA 0) f0 h r z) (hx : Rp (kA 0) f0 x rx zx) : mw_Mi l yX1_compareWhole (Cond.code yX1_compareWhole cX1_compareWhole 2 ((some .int)) :: gw) rm_X1_compareWhole D vwCl (tyL kA) st_S [.ref h, .ref x] f0 sz (fun v f => v = iI (c3 z zx) ∧ f = f0) 0 0 := by
  refine mw_ofi (cc := cX1_compareWhole) (maxL := 2) (ret := (some .int)) (by decide) rfl (Nat.le_of_ble_eq_true rfl) ?_
  intro p e s m below meth c A ls Q hQ B hrt hnm hA hI hSt hl
  have hl : lv_has ls 2 [(0, .ref h), (1, .ref x)] := hl
  obtain ⟨g, n, b, hh, hr, hz⟩ := hh
  obtain ⟨gx, nx, bx, hx, hxr, hzx⟩ := hx
  obtain ⟨f, hI, hf⟩ : ∃ f, mw_I D vwCl A s s.heap [] f ∧ f = f0 := ⟨f0, hI, rfl⟩
  have hh1 : f h = some (wh r (n : Int) b) := by rw [hf]; exact hh
  have hr1 : f r = some (mw_ar (kA 0) 104 g) := by rw [hf]; exact hr
  have hx1 : f x = some (wh rx (nx : Int) bx) := by rw [hf]; exact hx
  have hxr1 : f rx = some (mw_ar (kA 0) 104 gx) := by rw [hf]; exact hxr
  have q1 := hz.b0
  have q2 := hzx.b0
  have q3 := hz.nat
  have q4 := hzx.nat
  refine mv_aload_n B dX1_compareWhole_0 rfl (lv_at hl 0 rfl) ?_
  refine ww_below B hI hh1 uin_X1 kw_26 dX1_compareWhole_1 ?_
  refine mv_aload_n B dX1_compareWhole_4 rfl (lv_at hl 1 rfl) ?_
  refine ww_below B hI hx1 uin_X1 kw_26 dX1_compareWhole_5 ?_
  refine mv_icmp_eq (tgt := 24) B dX1_compareWhole_8 (by decide) (by omega) (fun hc => ?_) (fun hc => ?_)
  · refine mv_aload_n B dX1_compareWhole_24 rfl (lv_at hl 0 rfl) ?_
    refine ww_below B hI hh1 uin_X1 kw_26 dX1_compareWhole_25 ?_
    refine mv_if_eq (tgt := 39) B dX1_compareWhole_28 (by decide) (by omega) (fun hd => ?_) (fun hd => ?_)
    · refine mv_aload_n B dX1_compareWhole_39 rfl (lv_at hl 0 rfl) ?_
      refine mv_aload_n B dX1_compareWhole_40 rfl (lv_at hl 1 rfl) ?_
      refine mw_calli hI hA (va_runV (As := [.ref x]) (rest := []) B.fix (t_X1_compareParts l D kA s.heap.size f hh1 hr1 hx1 hxr1 hz.toCn hzx.toCn) (cwV 1 B.2.2.2.2.1 (gV kw_127 kw_128 kw_129 kw_2 kw_130) rfl rfl rfl (by decide +kernel) ⟨Nat.le_of_ble_eq_true rfl, Nat.le_of_ble_eq_true rfl⟩) ⟨mw_blind st_S.blind, mw_recv B hI hh1 rfl, mw_pre B hI (hSt.call hI hA)⟩ rfl rfl hl.1 rfl (lv_room (Nat.le_of_ble_eq_true rfl)) dX1_compareWhole_41 ⟨Nat.le_of_ble_eq_true rfl, Nat.le_of_ble_eq_true rfl⟩) (fun r f H locs hp hI2 => ?_)
      clear hI
      have hI := hI2
      clear hI2
      obtain ⟨rfl, rfl⟩ := hp
      exact mw_iret B hQ hrt hI ⟨by congr 1; rw [← q3, ← q4]; congr 1 <;> omega, hf⟩ dX1_compareWhole_44
    · refine mv_aload_n B dX1_compareWhole_31 rfl (lv_at hl 1 rfl) ?_
      refine mv_aload_n B dX1_compareWhole_32 rfl (lv_at hl 0 rfl) ?_
      refine mw_calli hI hA (va_runV (As := [.ref h]) (rest := []) B.fix (t_X1_compareParts l D kA s.heap.size f hx1 hxr1 hh1 hr1 hzx.toCn hz.toCn) (cwV 1 B.2.2.2.2.1 (gV kw_127 kw_128 kw_129 kw_2 kw_130) rfl rfl rfl (by decide +kernel) ⟨Nat.le_of_ble_eq_true rfl, Nat.le_of_ble_eq_true rfl⟩) ⟨mw_blind st_S.blind, mw_recv B hI hx1 rfl, mw_pre B hI (hSt.call hI hA)⟩ rfl rfl hl.1 rfl (lv_room (Nat.le_of_ble_eq_true rfl)) dX1_compareWhole_33 ⟨Nat.le_of_ble_eq_true rfl, Nat.le_of_ble_eq_true rfl⟩) (fun r f H locs hp hI2 => ?_)
      clear hI
      have hI := hI2
      clear hI2
      obtain ⟨rfl, rfl⟩ := hp
      refine mv_goto (tgt := 44) B dX1_compareWhole_36 (by decide) ?_
      exact mw_iret B hQ hrt hI ⟨by congr 1; have k1 := c3_in z zx; have k2 := c3_in (dv gx nx) (dv g n); omega, hf⟩ dX1_compareWhole_44
  · refine mv_aload_n B dX1_compareWhole_11 rfl (lv_at hl 0 rfl) ?_
    refine ww_below B hI hh1 uin_X1 kw_26 dX1_compareWhole_12 ?_
    refine mv_if_eq (tgt := 22) B dX1_compareWhole_15 (by decide) (by omega) (fun hd => ?_) (fun hd => ?_)
    · refine mv_iconst B dX1_compareWhole_22 ?_
      exact mw_iret B hQ hrt hI ⟨by rw [c3_gt (by omega)], hf⟩ dX1_compareWhole_23
    · refine mv_iconst B dX1_compareWhole_18 ?_
      refine mv_goto (tgt := 23) B dX1_compareWhole_19 (by decide) ?_
      exact mw_iret B hQ hrt hI ⟨by rw [c3_lt (by omega)], hf⟩ dX1_compareWhole_23
abbrev rm_X1_halve : Room := { frames := 1, cells := 0, slots := 0, locals := 22 }
set_option maxHeartbeats 4000000 in
set_option maxRecDepth 100000 in
/-- halve -/
theorem t_X1_halve (l : Launch) (D : va_G) (kA : Nat → ClassId) (sz : Nat) (f0 : mw_M) {h r : Nat} {z : Int} (hh : Rp (kA 0) f0 h r z) (hz0 : 0 ≤ z) : mw_Mv l yX1_halve (Cond.code yX1_halve cX1_halve 4 (none) :: gw) rm_X1_halve D vwCl (tyL kA) st_S [.ref h] f0 sz (fun f => Rp (kA 0) f h r (z / 2) ∧ fo f0 f h r) 0 0 := by
  refine mw_ofv (cc := cX1_halve) (maxL := 4) (ret := none) (by decide) rfl (Nat.le_of_ble_eq_true rfl) ?_
  intro p e s m below meth c A ls Q hQ B hrt hnm hA hI hSt hl
  have hl : lv_has ls 4 [(0, .ref h)] := hl
  obtain ⟨g, n, b, hh, hr, hz⟩ := hh
  have hn1 := hz.1
  have q1 := hz.b0
  have q3 := hz.nat
  obtain ⟨f, hI, hT⟩ : ∃ f, mw_I D vwCl A s s.heap [] f ∧ wSt (kA 0) f0 h r f g (n : Int) b := ⟨f0, hI, wSt.self hh hr⟩
  refine mv_iconst B dX1_halve_0 ?_
  refine mv_istore_n (lv' := [(1, .int (iI (0))), (0, .ref h)]) B dX1_halve_1 rfl hl (by decide) rfl (fun ls hl => ?_)
  refine mv_aload_n B dX1_halve_2 rfl (lv_at hl 1 rfl) ?_
  refine ww_size B hI hT.1 uin_X1 kw_24 dX1_halve_3 ?_
  refine mv_iconst B dX1_halve_6 ?_
  refine mv_isub B dX1_halve_7 ?_
  refine mv_istore_n (lv' := [(2, .int (iI (((n : Int)) - (1)))), (1, .int (iI (0))), (0, .ref h)]) B dX1_halve_8 rfl hl (by decide) rfl (fun ls hl => ?_)
  have loop : ∀ (μ : Nat) (j : Nat) (y cy : Int) (g' : Nat → Int) (f : mw_M) (H : Heap) (locs : List Loc) (ls : Array Slot), j < μ → y = (j : Int) - 1 → j ≤ n → (cy = 0 ∨ cy = 1) → dg g' n → (∀ i, i < j → g' i = g i) → dv g n = 2 * (dv g' n - dv g' j) + cy * 1000000 ^ j + dv g j → mw_I D vwCl A s H locs f → wSt (kA 0) f0 h r f g' (n : Int) b → lv_has ls 4 [(2, .int (iI (y))), (1, .int (iI (cy))), (0, .ref h)] → W p l e rm_X1_halve s m ([.ref h] : List Value).toArray below meth c H locs 0 0 Q (F0 m 9 ls []) := by
    intro μ
    induction μ with
    | zero => intro j y cy g' f H locs ls hμ; exact absurd hμ (Nat.not_lt_zero _)
    | succ μ ih =>
      intro j y cy g' f H locs ls hμ hy hj hcy hg hz1 hv hI hT hl
      refine mv_iload_n B dX1_halve_9 rfl (lv_at hl 0 rfl) ?_
      refine mv_if_lt (tgt := 44) B dX1_halve_10 (by decide) (by omega) (fun hd0 => ?_) (fun hd0 => ?_)
      · obtain rfl : j = 0 := by omega
        rw [dv_0, dv_0, Int.pow_zero] at hv
        refine mv_aload_n B dX1_halve_44 rfl (lv_at hl 2 rfl) ?_
        refine mv_aload_n B dX1_halve_45 rfl (lv_at hl 2 rfl) ?_
        refine ww_size B hI hT.1 uin_X1 kw_24 dX1_halve_46 ?_
        refine mw_callv hI hA (va_runV (As := [.int (iI ((n : Int)))]) (rest := []) B.fix (t_X1_trimTo l D kA H.size f hT.1 hT.2.1 hn1 hg) (cwV 1 B.2.2.2.2.1 (gV kw_104 kw_105 kw_106 kw_2 kw_107) rfl rfl rfl (by decide +kernel) ⟨Nat.le_of_ble_eq_true rfl, Nat.le_of_ble_eq_true rfl⟩) ⟨mw_blind st_S.blind, mw_recv B hI hT.1 rfl, mw_pre B hI (hSt.call hI hA)⟩ rfl rfl hl.1 rfl (lv_room (Nat.le_of_ble_eq_true rfl)) dX1_halve_49 ⟨Nat.le_of_ble_eq_true rfl, Nat.le_of_ble_eq_true rfl⟩) (fun f H locs hp hI2 => ?_)
        clear hI
        have hI := hI2
        clear hI2
        obtain ⟨n', a1, a2, a3, hT2⟩ := hp
        have hT := hT.trans hT2
        have e1 := dv_trim a1 a2
        have e2 := dv_nn hg
        have hv2 : rp g' n' (if n' = 0 then 0 else b) (z / 2) := ⟨by omega, hg.sub a1, a3, Or.inl ⟨by split <;> omega, by omega⟩⟩
        exact mw_vret B hQ hrt hI (hT.toRp hv2) dX1_halve_52
      · obtain ⟨k, rfl⟩ : ∃ k, j = k + 1 := ⟨j - 1, by omega⟩
        have hg1 := hg k (by omega)
        have hg2 : g' k = g k := hz1 k (by omega)
        refine mv_iload_n B dX1_halve_13 rfl (lv_at hl 1 rfl) ?_
        refine mv_ldc (z := 1000000) B dX1_halve_14 kw_139 (by decide) ?_
        refine mv_imul B dX1_halve_16 ?_
        refine mv_aload_n B dX1_halve_17 rfl (lv_at hl 2 rfl) ?_
        refine ww_parts B hI hT.1 uin_X1 kw_22 dX1_halve_18 ?_
        refine mv_iload_n B dX1_halve_21 rfl (lv_at hl 0 rfl) ?_
        refine mw_iald B hI 0 hT.2.1 rfl (k) (by omega) (by omega) (by decide) dX1_halve_22 ?_
        refine mv_iadd B dX1_halve_23 ?_
        refine mv_nmi (fun t ht => ?_)
        refine mv_istore_n (lv' := [(3, .int (iI (t))), (2, .int (iI (y))), (1, .int (iI (cy))), (0, .ref h)]) B dX1_halve_24 rfl hl (by decide) rfl (fun ls hl => ?_)
        refine mv_aload_n B dX1_halve_25 rfl (lv_at hl 3 rfl) ?_
        refine ww_parts B hI hT.1 uin_X1 kw_22 dX1_halve_26 ?_
        have ht2 : 0 ≤ t ∧ t ≤ 1999999 := by omega
        refine mv_iload_n B dX1_halve_29 rfl (lv_at hl 1 rfl) ?_
        refine mv_iload_n B dX1_halve_30 rfl (lv_at hl 0 rfl) ?_
        refine mv_iconst B dX1_halve_31 ?_
        refine mv_idiv B dX1_halve_32 (by omega) ?_
        refine ww_iast B hI hT (k) (by omega) (by omega) dX1_halve_33 (fun f H locs hT hI => ?_)
        refine mv_iload_n B dX1_halve_34 rfl (lv_at hl 0 rfl) ?_
        refine mv_iconst B dX1_halve_35 ?_
        refine mv_irem B dX1_halve_36 (by omega) ?_
        refine mv_istore_n (lv' := [(1, .int (iI ((t) % (2)))), (3, .int (iI (t))), (2, .int (iI (y))), (0, .ref h)]) B dX1_halve_37 rfl hl (by decide) rfl (fun ls hl => ?_)
        refine mv_iinc (k := 2) (lv' := [(2, .int (iI (y + (-1)))), (1, .int (iI ((t) % (2)))), (3, .int (iI (t))), (0, .ref h)]) B dX1_halve_38 hl rfl (by decide) rfl (fun ls hl => ?_)
        refine mv_goto (tgt := 9) B dX1_halve_41 (by decide) ?_
        refine ih k _ _ _ f H locs ls (by omega) (by omega) (by omega) (by omega) (hg.up (by omega)) (fun i hi => by rw [upI_ne _ _ (by omega)]; exact hz1 i (by omega)) ?_ hI hT (lv_sub hl [0, 1, 3] rfl)
        rw [dv_up (by omega), dv_up_ge (Nat.le_refl k), hv, dv_s g k, dv_s g' k, bp_s, hg2]
        have e2 := Int.mul_ediv_add_emod t 2
        rw [ht, hg2] at e2 ⊢
        grind
  exact loop (n + 1) n _ _ g f s.heap [] ls (Nat.lt_succ_self n) rfl (Nat.le_refl n) (Or.inl rfl) hz.2.1 (fun i _ => rfl) (by omega) hI hT (lv_sub hl [0, 1, 2] rfl)
abbrev rm_X1_addParts : Room := { frames := 1, cells := 0, slots := 0, locals := 24 }
set_option maxHeartbeats 4000000 in
set_option maxRecDepth 100000 in
/-- addParts -/
theorem t_X1_addParts (l : Launch) (D : va_G) (kA : Nat → ClassId) (sz : Nat) (f0 : mw_M) {h r x rx y ry : Nat} {g gx gy : Nat → Int} {n b : Int} {nx ny : Nat} {bx by_ : Int} (hh : f0 h = some (wh r n b)) (hr : f0 r = some (mw_ar (kA 0) 104 g)) (hx : f0 x = some (wh rx (nx : Int) bx)) (hxr : f0 rx = some (mw_ar (kA 0) 104 gx)) (hy : f0 y = some (wh ry (ny : Int) by_)) (hyr : f0 ry = some (mw_ar (kA 0) 104 gy)) (x1 : x ≠ h) (x2 : rx ≠ r) (y1 : y ≠ h) (y2 : ry ≠ r) (hk1 : nx ≤ 103) (hk2 : ny ≤ 103) (hb : b = 0 ∨ b = 1) (hgx : dg gx nx) (hgy : dg gy ny) : mw_Mv l yX1_addParts (Cond.code yX1_addParts cX1_addParts 7 (none) :: gw) rm_X1_addParts D vwCl (tyL kA) st_S [.ref h, .ref x, .ref y] f0 sz (fun f => ∃ g' n', cn g' n' ∧ dv g' n' = dv gx nx + dv gy ny ∧ wSt (kA 0) f0 h r f g' ((n' : Nat) : Int) (if n' = 0 then 0 else b)) 0 0 := by
  refine mw_ofv (cc := cX1_addParts) (maxL := 7) (ret := none) (by decide) rfl (Nat.le_of_ble_eq_true rfl) ?_
  intro p e s m below meth c A ls Q hQ B hrt hnm hA hI hSt hl
  have hl : lv_has ls 7 [(0, .ref h), (1, .ref x), (2, .ref y)] := hl
  obtain ⟨f, hI, hT⟩ : ∃ f, mw_I D vwCl A s s.heap [] f ∧ wSt (kA 0) f0 h r f g n b := ⟨f0, hI, wSt.self hh hr⟩
  have x3 := wh_ne hx hr
  have x4 := Ne.symm (wh_ne hh hxr)
  have y3 := wh_ne hy hr
  have y4 := Ne.symm (wh_ne hh hyr)
  have hk1 : nx ≤ 104 := by omega
  have hk2 : ny ≤ 104 := by omega
  refine mv_aload_n B dX1_addParts_0 rfl (lv_at hl 1 rfl) ?_
  refine ww_size B hI (hT.get hx x1 x3) uin_X1 kw_24 dX1_addParts_1 ?_
  refine mv_aload_n B dX1_addParts_4 rfl (lv_at hl 2 rfl) ?_
  refine ww_size B hI (hT.get hy y1 y3) uin_X1 kw_24 dX1_addParts_5 ?_
  refine mv_mmax B hl.1 kw_120 kw_121 kw_5 kw_122 (Nat.le_of_ble_eq_true rfl) (Nat.le_of_ble_eq_true rfl) (Nat.le_of_ble_eq_true rfl) (Nat.le_of_ble_eq_true rfl) (by omega) dX1_addParts_8 ?_
  refine mv_bipush B dX1_addParts_11 (by decide) ?_
  refine mv_mmin B hl.1 kw_117 kw_118 kw_5 kw_119 (Nat.le_of_ble_eq_true rfl) (Nat.le_of_ble_eq_true rfl) (Nat.le_of_ble_eq_true rfl) (Nat.le_of_ble_eq_true rfl) (by omega) dX1_addParts_13 ?_
  obtain ⟨N, hN⟩ : ∃ N : Nat, (N : Int) = min (max (nx : Int) (ny : Int)) 103 := ⟨max nx ny, by omega⟩
  rw [← hN]
  refine mv_istore_n (lv' := [(3, .int (iI ((N : Int)))), (0, .ref h), (1, .ref x), (2, .ref y)]) B dX1_addParts_16 rfl hl (by decide) rfl (fun ls hl => ?_)
  refine mv_iconst B dX1_addParts_17 ?_
  refine mv_istore (lv' := [(4, .int (iI (0))), (3, .int (iI ((N : Int)))), (0, .ref h), (1, .ref x), (2, .ref y)]) B dX1_addParts_18 hl (by decide) rfl (fun ls hl => ?_)
  refine mv_iconst B dX1_addParts_20 ?_
  refine mv_istore (lv' := [(5, .int (iI (0))), (4, .int (iI (0))), (3, .int (iI ((N : Int)))), (0, .ref h), (1, .ref x), (2, .ref y)]) B dX1_addParts_21 hl (by decide) rfl (fun ls hl => ?_)
  have loop : ∀ (μ : Nat) (j : Nat) (i cy : Int) (g' : Nat → Int) (f : mw_M) (H : Heap) (locs : List Loc) (ls : Array Slot), N - j < μ → i = (j : Int) → j ≤ N → (cy = 0 ∨ cy = 1) → dg g' j → dv g' j + cy * 1000000 ^ j = dv (pz gx nx) j + dv (pz gy ny) j → mw_I D vwCl A s H locs f → wSt (kA 0) f0 h r f g' n b → lv_has ls 7 [(5, .int (iI (i))), (4, .int (iI (cy))), (3, .int (iI ((N : Int)))), (0, .ref h), (1, .ref x), (2, .ref y)] → W p l e rm_X1_addParts s m ([.ref h, .ref x, .ref y] : List Value).toArray below meth c H locs 0 0 Q (F0 m 23 ls []) := by
    intro μ
    induction μ with
    | zero => intro j i cy g' f H locs ls hμ; exact absurd hμ (Nat.not_lt_zero _)
    | succ μ ih =>
      intro j i cy g' f H locs ls hμ hi hj hcy hg hv hI hT hl
      refine mv_iload B dX1_addParts_23 (lv_at hl 0 rfl) ?_
      refine mv_iload_n B dX1_addParts_25 rfl (lv_at hl 2 rfl) ?_
      refine mv_icmp_ge (tgt := 82) B dX1_addParts_26 (by decide) (by omega) (fun hd0 => ?_) (fun hd0 => ?_)
      · obtain rfl : N = j := by omega
        rw [dv_pz (by omega), dv_pz (by omega)] at hv
        refine mv_aload_n B dX1_addParts_82 rfl (lv_at hl 3 rfl) ?_
        refine ww_parts B hI hT.1 uin_X1 kw_22 dX1_addParts_83 ?_
        refine mv_iload_n B dX1_addParts_86 rfl (lv_at hl 2 rfl) ?_
        refine mv_iload B dX1_addParts_87 (lv_at hl 1 rfl) ?_
        refine ww_iast B hI hT (N) (by omega) (by omega) dX1_addParts_89 (fun f H locs hT hI => ?_)
        refine mv_aload_n B dX1_addParts_90 rfl (lv_at hl 3 rfl) ?_
        refine mv_iload_n B dX1_addParts_91 rfl (lv_at hl 2 rfl) ?_
        refine mv_iconst B dX1_addParts_92 ?_
        refine mv_iadd B dX1_addParts_93 ?_
        have hg2 : dg (upI g' N cy) (N + 1) := hg.up_s (by omega)
        refine mw_callv hI hA (va_runV (As := [.int (iI (((N : Int)) + (1)))]) (rest := []) B.fix (t_X1_trimTo l D kA H.size f (k := N + 1) hT.1 hT.2.1 (by omega) hg2) (cwV 1 B.2.2.2.2.1 (gV kw_104 kw_105 kw_106 kw_2 kw_107) rfl rfl rfl (by decide +kernel) ⟨Nat.le_of_ble_eq_true rfl, Nat.le_of_ble_eq_true rfl⟩) ⟨mw_blind st_S.blind, mw_recv B hI hT.1 rfl, mw_pre B hI (hSt.call hI hA)⟩ rfl rfl hl.1 rfl (lv_room (Nat.le_of_ble_eq_true rfl)) dX1_addParts_94 ⟨Nat.le_of_ble_eq_true rfl, Nat.le_of_ble_eq_true rfl⟩) (fun f H locs hp hI2 => ?_)
        clear hI
        have hI := hI2
        clear hI2
        obtain ⟨n', a1, a2, a3, hT2⟩ := hp
        have hT := hT.trans hT2
        have e1 := dv_trim a1 a2
        rw [dv_up_s] at e1
        exact mw_vret B hQ hrt hI ⟨_, n', ⟨by omega, hg2.sub a1, a3⟩, by omega, hT⟩ dX1_addParts_97
      · have p1 := pz_dg hgx (j + 1) j (by omega)
        have p2 := pz_dg hgy (j + 1) j (by omega)
        refine mv_aload_n B dX1_addParts_29 rfl (lv_at hl 4 rfl) ?_
        refine mv_iload B dX1_addParts_30 (lv_at hl 0 rfl) ?_
        refine mw_calli hI hA (va_runV (As := [.int (iI (i))]) (rest := []) B.fix (t_X1_partOrZero l D kA H.size f (hT.get hx x1 x3) (hT.get hxr x4 x2) hk1 (by omega)) (cwV 1 B.2.2.2.2.1 (gV kw_135 kw_136 kw_137 kw_2 kw_138) rfl rfl rfl (by decide +kernel) ⟨Nat.le_of_ble_eq_true rfl, Nat.le_of_ble_eq_true rfl⟩) ⟨mw_blind st_S.blind, mw_recv B hI (hT.get hx x1 x3) rfl, mw_pre B hI (hSt.call hI hA)⟩ rfl rfl hl.1 rfl (lv_room (Nat.le_of_ble_eq_true rfl)) dX1_addParts_32 ⟨Nat.le_of_ble_eq_true rfl, Nat.le_of_ble_eq_true rfl⟩) (fun r f H locs hp hI2 => ?_)
        clear hI
        have hI := hI2
        clear hI2
        obtain ⟨rfl, rfl⟩ := hp
        rw [if_neg (by omega), show (i).toNat = j by omega]
        refine mv_aload_n B dX1_addParts_35 rfl (lv_at hl 5 rfl) ?_
        refine mv_iload B dX1_addParts_36 (lv_at hl 0 rfl) ?_
        refine mw_calli hI hA (va_runV (As := [.int (iI (i))]) (rest := [.int (iI (pz gx nx j))]) B.fix (t_X1_partOrZero l D kA H.size f (hT.get hy y1 y3) (hT.get hyr y4 y2) hk2 (by omega)) (cwV 1 B.2.2.2.2.1 (gV kw_135 kw_136 kw_137 kw_2 kw_138) rfl rfl rfl (by decide +kernel) ⟨Nat.le_of_ble_eq_true rfl, Nat.le_of_ble_eq_true rfl⟩) ⟨mw_blind st_S.blind, mw_recv B hI (hT.get hy y1 y3) rfl, mw_pre B hI (hSt.call hI hA)⟩ rfl rfl hl.1 rfl (lv_room (Nat.le_of_ble_eq_true rfl)) dX1_addParts_38 ⟨Nat.le_of_ble_eq_true rfl, Nat.le_of_ble_eq_true rfl⟩) (fun r f H locs hp hI2 => ?_)
        clear hI
        have hI := hI2
        clear hI2
        obtain ⟨rfl, rfl⟩ := hp
        rw [if_neg (by omega), show (i).toNat = j by omega]
        refine mv_iadd B dX1_addParts_41 ?_
        refine mv_iload B dX1_addParts_42 (lv_at hl 1 rfl) ?_
        refine mv_iadd B dX1_addParts_44 ?_
        refine mv_nmi (fun t ht => ?_)
        refine mv_istore (lv' := [(6, .int (iI (t))), (5, .int (iI (i))), (4, .int (iI (cy))), (3, .int (iI ((N : Int)))), (0, .ref h), (1, .ref x), (2, .ref y)]) B dX1_addParts_45 hl (by decide) rfl (fun ls hl => ?_)
        refine mv_iload B dX1_addParts_47 (lv_at hl 0 rfl) ?_
        refine mv_ldc (z := 1000000) B dX1_addParts_49 kw_139 (by decide) ?_
        have hf1 := hT.1
        refine mv_icmp_lt (tgt := 58) B dX1_addParts_51 (by decide) (by omega) (fun hd => ?_) (fun hd => ?_)
        · refine mv_iconst B dX1_addParts_58 ?_
          refine mv_istore (lv' := [(4, .int (iI (0))), (6, .int (iI (t))), (5, .int (iI (i))), (3, .int (iI ((N : Int)))), (0, .ref h), (1, .ref x), (2, .ref y)]) B dX1_addParts_59 hl (by decide) rfl (fun ls hl => ?_)
          refine mv_aload_n B dX1_addParts_61 rfl (lv_at hl 4 rfl) ?_
          refine ww_parts B hI hT.1 uin_X1 kw_22 dX1_addParts_62 ?_
          refine mv_iload B dX1_addParts_65 (lv_at hl 2 rfl) ?_
          refine mv_iload B dX1_addParts_67 (lv_at hl 1 rfl) ?_
          refine mv_iload B dX1_addParts_69 (lv_at hl 0 rfl) ?_
          refine mv_ldc (z := 1000000) B dX1_addParts_71 kw_139 (by decide) ?_
          refine mv_imul B dX1_addParts_73 ?_
          refine mv_isub B dX1_addParts_74 ?_
          refine mv_nmi (fun u hu => ?_)
          refine ww_iast B hI hT (j) (by omega) (by omega) dX1_addParts_75 (fun f H locs hT hI => ?_)
          refine mv_iinc (k := 2) (lv' := [(5, .int (iI (i + 1))), (4, .int (iI (0))), (6, .int (iI (t))), (3, .int (iI ((N : Int)))), (0, .ref h), (1, .ref x), (2, .ref y)]) B dX1_addParts_76 hl rfl (by decide) rfl (fun ls hl => ?_)
          refine mv_goto (tgt := 23) B dX1_addParts_79 (by decide) ?_
          refine ih (j + 1) _ _ _ f H locs ls (by omega) (by omega) (by omega) (by omega) (hg.up_s (by omega)) ?_ hI hT (lv_sub hl [0, 1, 3, 4, 5, 6] rfl)
          rw [dv_up_s, dv_s, dv_s, bp_s]
          rw [hu, ht]
          grind
        · refine mv_iconst B dX1_addParts_54 ?_
          refine mv_goto (tgt := 59) B dX1_addParts_55 (by decide) ?_
          refine mv_istore (lv' := [(4, .int (iI (1))), (6, .int (iI (t))), (5, .int (iI (i))), (3, .int (iI ((N : Int)))), (0, .ref h), (1, .ref x), (2, .ref y)]) B dX1_addParts_59 hl (by decide) rfl (fun ls hl => ?_)
          refine mv_aload_n B dX1_addParts_61 rfl (lv_at hl 4 rfl) ?_
          refine ww_parts B hI hT.1 uin_X1 kw_22 dX1_addParts_62 ?_
          refine mv_iload B dX1_addParts_65 (lv_at hl 2 rfl) ?_
          refine mv_iload B dX1_addParts_67 (lv_at hl 1 rfl) ?_
          refine mv_iload B dX1_addParts_69 (lv_at hl 0 rfl) ?_
          refine mv_ldc (z := 1000000) B dX1_addParts_71 kw_139 (by decide) ?_
          refine mv_imul B dX1_addParts_73 ?_
          refine mv_isub B dX1_addParts_74 ?_
          refine mv_nmi (fun u hu => ?_)
          refine ww_iast B hI hT (j) (by omega) (by omega) dX1_addParts_75 (fun f H locs hT hI => ?_)
          refine mv_iinc (k := 2) (lv' := [(5, .int (iI (i + 1))), (4, .int (iI (1))), (6, .int (iI (t))), (3, .int (iI ((N : Int)))), (0, .ref h), (1, .ref x), (2, .ref y)]) B dX1_addParts_76 hl rfl (by decide) rfl (fun ls hl => ?_)
          refine mv_goto (tgt := 23) B dX1_addParts_79 (by decide) ?_
          refine ih (j + 1) _ _ _ f H locs ls (by omega) (by omega) (by omega) (by omega) (hg.up_s (by omega)) ?_ hI hT (lv_sub hl [0, 1, 3, 4, 5, 6] rfl)
          rw [dv_up_s, dv_s, dv_s, bp_s]
          rw [hu, ht]
          grind
  exact loop (N + 1) 0 _ _ g f s.heap [] ls (by omega) rfl (by omega) (Or.inl rfl) (fun i hi => absurd hi (by omega)) (by rw [dv_0, dv_0, dv_0]; rfl) hI hT (lv_sub hl [0, 1, 2, 3, 4, 5] rfl)
abbrev rm_X1_subtractParts : Room := { frames := 1, cells := 0, slots := 0, locals := 22 }
set_option maxHeartbeats 4000000 in
set_option maxRecDepth 100000 in
/-- subtractParts -/
theorem t_X1_subtractParts (l : Launch) (D : va_G) (kA : Nat → ClassId) (sz : Nat) (f0 : mw_M) {h r x rx y ry : Nat} {g gx gy : Nat → Int} {n b : Int} {nx ny : Nat} {bx by_ : Int} (hh : f0 h = some (wh r n b)) (hr : f0 r = some (mw_ar (kA 0) 104 g)) (hx : f0 x = some (wh rx (nx : Int) bx)) (hxr : f0 rx = some (mw_ar (kA 0) 104 gx)) (hy : f0 y = some (wh ry (ny : Int) by_)) (hyr : f0 ry = some (mw_ar (kA 0) 104 gy)) (x1 : x ≠ h) (x2 : rx ≠ r) (y1 : y ≠ h) (y2 : ry ≠ r) (hk1 : nx ≤ 104) (hk2 : ny ≤ 104) (hle : ny ≤ nx) (hb : b = 0 ∨ b = 1) (hgx : dg gx nx) (hgy : dg gy ny) (hge : dv gy ny ≤ dv gx nx) : mw_Mv l yX1_subtractParts (Cond.code yX1_subtractParts cX1_subtractParts 6 (none) :: gw) rm_X1_subtractParts D vwCl (tyL kA) st_S [.ref h, .ref x, .ref y] f0 sz (fun f => ∃ g' n', cn g' n' ∧ dv g' n' = dv gx nx - dv gy ny ∧ wSt (kA 0) f0 h r f g' ((n' : Nat) : Int) (if n' = 0 then 0 else b)) 0 0 := by
  refine mw_ofv (cc := cX1_subtractParts) (maxL := 6) (ret := none) (by decide) rfl (Nat.le_of_ble_eq_true rfl) ?_
  intro p e s m below meth c A ls Q hQ B hrt hnm hA hI hSt hl
  have hl : lv_has ls 6 [(0, .ref h), (1, .ref x), (2, .ref y)] := hl
  obtain ⟨f, hI, hT⟩ : ∃ f, mw_I D vwCl A s s.heap [] f ∧ wSt (kA 0) f0 h r f g n b := ⟨f0, hI, wSt.self hh hr⟩
  have x3 := wh_ne hx hr
  have x4 := Ne.symm (wh_ne hh hxr)
  have y3 := wh_ne hy hr
  have y4 := Ne.symm (wh_ne hh hyr)
  refine mv_iconst B dX1_subtractParts_0 ?_
  refine mv_istore_n (lv' := [(3, .int (iI (0))), (0, .ref h), (1, .ref x), (2, .ref y)]) B dX1_subtractParts_1 rfl hl (by decide) rfl (fun ls hl => ?_)
  refine mv_iconst B dX1_subtractParts_2 ?_
  refine mv_istore (lv' := [(4, .int (iI (0))), (3, .int (iI (0))), (0, .ref h), (1, .ref x), (2, .ref y)]) B dX1_subtractParts_3 hl (by decide) rfl (fun ls hl => ?_)
  have loop : ∀ (μ : Nat) (j : Nat) (i cy : Int) (g' : Nat → Int) (f : mw_M) (H : Heap) (locs : List Loc) (ls : Array Slot), nx - j < μ → i = (j : Int) → j ≤ nx → (cy = 0 ∨ cy = 1) → dg g' j → dv g' j - cy * 1000000 ^ j = dv gx j - dv (pz gy ny) j → mw_I D vwCl A s H locs f → wSt (kA 0) f0 h r f g' n b → lv_has ls 6 [(4, .int (iI (i))), (3, .int (iI (cy))), (0, .ref h), (1, .ref x), (2, .ref y)] → W p l e rm_X1_subtractParts s m ([.ref h, .ref x, .ref y] : List Value).toArray below meth c H locs 0 0 Q (F0 m 5 ls []) := by
    intro μ
    induction μ with
    | zero => intro j i cy g' f H locs ls hμ; exact absurd hμ (Nat.not_lt_zero _)
    | succ μ ih =>
      intro j i cy g' f H locs ls hμ hi hj hcy hg hv hI hT hl
      refine mv_iload B dX1_subtractParts_5 (lv_at hl 0 rfl) ?_
      refine mv_aload_n B dX1_subtractParts_7 rfl (lv_at hl 3 rfl) ?_
      refine ww_size B hI (hT.get hx x1 x3) uin_X1 kw_24 dX1_subtractParts_8 ?_
      refine mv_icmp_ge (tgt := 63) B dX1_subtractParts_11 (by decide) (by omega) (fun hd0 => ?_) (fun hd0 => ?_)
      · obtain rfl : nx = j := by omega
        rw [dv_pz (by omega)] at hv
        have b1 := dv_lt hg
        have b2 := bp_pos nx
        obtain rfl : cy = 0 := cy_zero (by omega) b2 (by omega)
        refine mv_aload_n B dX1_subtractParts_63 rfl (lv_at hl 2 rfl) ?_
        refine mv_aload_n B dX1_subtractParts_64 rfl (lv_at hl 3 rfl) ?_
        refine ww_size B hI (hT.get hx x1 x3) uin_X1 kw_24 dX1_subtractParts_65 ?_
        refine mw_callv hI hA (va_runV (As := [.int (iI ((nx : Int)))]) (rest := []) B.fix (t_X1_trimTo l D kA H.size f hT.1 hT.2.1 hk1 hg) (cwV 1 B.2.2.2.2.1 (gV kw_104 kw_105 kw_106 kw_2 kw_107) rfl rfl rfl (by decide +kernel) ⟨Nat.le_of_ble_eq_true rfl, Nat.le_of_ble_eq_true rfl⟩) ⟨mw_blind st_S.blind, mw_recv B hI hT.1 rfl, mw_pre B hI (hSt.call hI hA)⟩ rfl rfl hl.1 rfl (lv_room (Nat.le_of_ble_eq_true rfl)) dX1_subtractParts_68 ⟨Nat.le_of_ble_eq_true rfl, Nat.le_of_ble_eq_true rfl⟩) (fun f H locs hp hI2 => ?_)
        clear hI
        have hI := hI2
        clear hI2
        obtain ⟨n', a1, a2, a3, hT2⟩ := hp
        have hT := hT.trans hT2
        have e1 := dv_trim a1 a2
        exact mw_vret B hQ hrt hI ⟨_, n', ⟨by omega, hg.sub a1, a3⟩, by omega, hT⟩ dX1_subtractParts_71
      · have p1 := hgx j (by omega)
        have p2 := pz_dg hgy (j + 1) j (by omega)
        refine mv_aload_n B dX1_subtractParts_14 rfl (lv_at hl 3 rfl) ?_
        refine ww_parts B hI (hT.get hx x1 x3) uin_X1 kw_22 dX1_subtractParts_15 ?_
        refine mv_iload B dX1_subtractParts_18 (lv_at hl 0 rfl) ?_
        refine mw_iald B hI 0 (hT.get hxr x4 x2) rfl (j) (by omega) (by omega) (by decide) dX1_subtractParts_20 ?_
        refine mv_aload_n B dX1_subtractParts_21 rfl (lv_at hl 4 rfl) ?_
        refine mv_iload B dX1_subtractParts_22 (lv_at hl 0 rfl) ?_
        refine mw_calli hI hA (va_runV (As := [.int (iI (i))]) (rest := [.int (iI (gx (j)))]) B.fix (t_X1_partOrZero l D kA H.size f (hT.get hy y1 y3) (hT.get hyr y4 y2) hk2 (by omega)) (cwV 1 B.2.2.2.2.1 (gV kw_135 kw_136 kw_137 kw_2 kw_138) rfl rfl rfl (by decide +kernel) ⟨Nat.le_of_ble_eq_true rfl, Nat.le_of_ble_eq_true rfl⟩) ⟨mw_blind st_S.blind, mw_recv B hI (hT.get hy y1 y3) rfl, mw_pre B hI (hSt.call hI hA)⟩ rfl rfl hl.1 rfl (lv_room (Nat.le_of_ble_eq_true rfl)) dX1_subtractParts_24 ⟨Nat.le_of_ble_eq_true rfl, Nat.le_of_ble_eq_true rfl⟩) (fun r f H locs hp hI2 => ?_)
        clear hI
        have hI := hI2
        clear hI2
        obtain ⟨rfl, rfl⟩ := hp
        rw [if_neg (by omega), show (i).toNat = j by omega]
        refine mv_isub B dX1_subtractParts_27 ?_
        refine mv_iload_n B dX1_subtractParts_28 rfl (lv_at hl 1 rfl) ?_
        refine mv_isub B dX1_subtractParts_29 ?_
        refine mv_nmi (fun t ht => ?_)
        refine mv_istore (lv' := [(5, .int (iI (t))), (4, .int (iI (i))), (3, .int (iI (cy))), (0, .ref h), (1, .ref x), (2, .ref y)]) B dX1_subtractParts_30 hl (by decide) rfl (fun ls hl => ?_)
        refine mv_iload B dX1_subtractParts_32 (lv_at hl 0 rfl) ?_
        refine mv_if_ge (tgt := 41) B dX1_subtractParts_34 (by decide) (by omega) (fun hd => ?_) (fun hd => ?_)
        · refine mv_iconst B dX1_subtractParts_41 ?_
          refine mv_istore_n (lv' := [(3, .int (iI (0))), (5, .int (iI (t))), (4, .int (iI (i))), (0, .ref h), (1, .ref x), (2, .ref y)]) B dX1_subtractParts_42 rfl hl (by decide) rfl (fun ls hl => ?_)
          refine mv_aload_n B dX1_subtractParts_43 rfl (lv_at hl 3 rfl) ?_
          refine ww_parts B hI hT.1 uin_X1 kw_22 dX1_subtractParts_44 ?_
          refine mv_iload B dX1_subtractParts_47 (lv_at hl 2 rfl) ?_
          refine mv_iload B dX1_subtractParts_49 (lv_at hl 1 rfl) ?_
          refine mv_iload_n B dX1_subtractParts_51 rfl (lv_at hl 0 rfl) ?_
          refine mv_ldc (z := 1000000) B dX1_subtractParts_52 kw_139 (by decide) ?_
          refine mv_imul B dX1_subtractParts_54 ?_
          refine mv_iadd B dX1_subtractParts_55 ?_
          refine mv_nmi (fun u hu => ?_)
          refine ww_iast B hI hT (j) (by omega) (by omega) dX1_subtractParts_56 (fun f H locs hT hI => ?_)
          refine mv_iinc (k := 2) (lv' := [(4, .int (iI (i + 1))), (3, .int (iI (0))), (5, .int (iI (t))), (0, .ref h), (1, .ref x), (2, .ref y)]) B dX1_subtractParts_57 hl rfl (by decide) rfl (fun ls hl => ?_)
          refine mv_goto (tgt := 5) B dX1_subtractParts_60 (by decide) ?_
          refine ih (j + 1) _ _ _ f H locs ls (by omega) (by omega) (by omega) (by omega) (hg.up_s (by omega)) ?_ hI hT (lv_sub hl [0, 1, 3, 4, 5] rfl)
          rw [dv_up_s, dv_s, dv_s, bp_s]
          rw [hu, ht]
          grind
        · refine mv_iconst B dX1_subtractParts_37 ?_
          refine mv_goto (tgt := 42) B dX1_subtractParts_38 (by decide) ?_
          refine mv_istore_n (lv' := [(3, .int (iI (1))), (5, .int (iI (t))), (4, .int (iI (i))), (0, .ref h), (1, .ref x), (2, .ref y)]) B dX1_subtractParts_42 rfl hl (by decide) rfl (fun ls hl => ?_)
          refine mv_aload_n B dX1_subtractParts_43 rfl (lv_at hl 3 rfl) ?_
          refine ww_parts B hI hT.1 uin_X1 kw_22 dX1_subtractParts_44 ?_
          refine mv_iload B dX1_subtractParts_47 (lv_at hl 2 rfl) ?_
          refine mv_iload B dX1_subtractParts_49 (lv_at hl 1 rfl) ?_
          refine mv_iload_n B dX1_subtractParts_51 rfl (lv_at hl 0 rfl) ?_
          refine mv_ldc (z := 1000000) B dX1_subtractParts_52 kw_139 (by decide) ?_
          refine mv_imul B dX1_subtractParts_54 ?_
          refine mv_iadd B dX1_subtractParts_55 ?_
          refine mv_nmi (fun u hu => ?_)
          refine ww_iast B hI hT (j) (by omega) (by omega) dX1_subtractParts_56 (fun f H locs hT hI => ?_)
          refine mv_iinc (k := 2) (lv' := [(4, .int (iI (i + 1))), (3, .int (iI (1))), (5, .int (iI (t))), (0, .ref h), (1, .ref x), (2, .ref y)]) B dX1_subtractParts_57 hl rfl (by decide) rfl (fun ls hl => ?_)
          refine mv_goto (tgt := 5) B dX1_subtractParts_60 (by decide) ?_
          refine ih (j + 1) _ _ _ f H locs ls (by omega) (by omega) (by omega) (by omega) (hg.up_s (by omega)) ?_ hI hT (lv_sub hl [0, 1, 3, 4, 5] rfl)
          rw [dv_up_s, dv_s, dv_s, bp_s]
          rw [hu, ht]
          grind
  exact loop (nx + 1) 0 _ _ g f s.heap [] ls (by omega) rfl (by omega) (Or.inl rfl) (fun i hi => absurd hi (by omega)) (by rw [dv_0, dv_0, dv_0]; rfl) hI hT (lv_sub hl [0, 1, 2, 3, 4] rfl)
