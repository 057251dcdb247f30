abbrev rm_X3_put : Room := { frames := 2, cells := 0, slots := 0, locals := 46 }
set_option maxHeartbeats 4000000 in
set_option maxRecDepth 100000 in
/-- put -/
theorem t_X3_put (l : Launch) (D : va_G) (kA : Nat → ClassId) (sz : Nat) (f0 : mw_M) {o li si su di : Nat} {L S G U : Nat → Int} {t : Nat} {v_ : Int} {xt : Int} (hM : MS kA f0 f0 o li si su di L S G U) (hL : lr L) (hxt : xt = (t : Int)) (ht : t < 25) (hv_ : -9223372036854775808 ≤ v_ ∧ v_ ≤ 9223372036854775807) : mw_Mv l yX3_put (Cond.code yX3_put cX3_put 7 (none) :: gw) rm_X3_put D vwCl (tyL kA) st_S [.ref o, .int (iI (xt)), .long (lI (v_))] f0 sz (fun f => ∃ L', MS kA f0 f o li si su di L' (upI S t (c3 v_ 0)) G U ∧ lr L' ∧ (∀ r, r < 25 → r ≠ t → mg L' r = mg L r) ∧ mg L' t = (v_.natAbs : Int)) 0 0 := by
  refine mw_ofv (cc := cX3_put) (maxL := 7) (ret := none) (by decide) rfl (Nat.le_of_ble_eq_true rfl) ?_
  intro p e s m below meth c A ls Q hQ B hrt hnm hA hI hSt hl
  have hl : lv_has ls 7 [(0, .ref o), (1, .int (iI (xt))), (2, .long (lI (v_)))] := hl
  subst hxt
  obtain ⟨f, hI, hM, hf⟩ : ∃ f, mw_I D vwCl A s s.heap [] f ∧ MS kA f0 f o li si su di L S G U ∧ f = f0 := ⟨f0, hI, hM, rfl⟩
  refine mv_lload_n B dX3_put_0 rfl (lv_at hl 2 rfl) ?_
  refine mv_lconst0 B dX3_put_1 ?_
  have j12 : ∀ (u : Int), u = (v_.natAbs : Int) → W p l e rm_X3_put s m ([.ref o, .int (iI ((t : Int))), .long (lI (v_))] : List Value).toArray below meth c s.heap [] 0 0 Q (F0 m 12 ls [.long (lI (u))]) := by
    intro u hu
    have hu1 : 0 ≤ u ∧ u ≤ 9223372036854775808 := by omega
    refine mv_lstore (lv' := [(4, .long (lI (u))), (0, .ref o), (1, .int (iI ((t : Int)))), (2, .long (lI (v_)))]) B dX3_put_12 hl (by decide) rfl (fun ls hl => ?_)
    refine mv_iconst B dX3_put_14 ?_
    refine mv_istore (lv' := [(6, .int (iI (0))), (4, .long (lI (u))), (0, .ref o), (1, .int (iI ((t : Int)))), (2, .long (lI (v_)))]) B dX3_put_15 hl (by decide) rfl (fun ls hl => ?_)
    have loop : ∀ (μ : Nat) (j : Nat) (i : Int) (L' : Nat → Int) (f : mw_M) (H : Heap) (locs : List Loc) (ls : Array Slot), 140 - j < μ → i = (j : Int) → j ≤ 140 → lr L' → (∀ i, ¬ (140 * t ≤ i ∧ i < 140 * t + j) → L' i = L i) → ev (fun i => L' (140 * t + i)) j = u % 65536 ^ j → MS kA f0 f o li si su di L' S G U → mw_I D vwCl A s H locs f → lv_has ls 7 [(6, .int (iI (i))), (4, .long (lI (u))), (0, .ref o), (1, .int (iI ((t : Int)))), (2, .long (lI (v_)))] → W p l e rm_X3_put s m ([.ref o, .int (iI ((t : Int))), .long (lI (v_))] : List Value).toArray below meth c H locs 0 0 Q (F0 m 17 ls []) := by
      intro μ
      induction μ with
      | zero => intro j i L' f H locs ls hμ; exact absurd hμ (Nat.not_lt_zero _)
      | succ μ ih =>
        intro j i L' f H locs ls hμ hi hj hL' ho hv hM hI hl
        refine mv_iload B dX3_put_17 (lv_at hl 0 rfl) ?_
        refine mv_sipush B dX3_put_19 (by decide) ?_
        refine mv_icmp_ge (tgt := 66) B dX3_put_22 (by decide) (by omega) (fun hd0 => ?_) (fun hd0 => ?_)
        · obtain rfl : j = 140 := by omega
          rw [evz, u63 hu1 (by decide)] at hv
          refine mv_aload_n B dX3_put_66 rfl (lv_at hl 2 rfl) ?_
          refine mv_iload_n B dX3_put_67 rfl (lv_at hl 3 rfl) ?_
          refine mv_lload_n B dX3_put_68 rfl (lv_at hl 4 rfl) ?_
          refine mv_lconst0 B dX3_put_69 ?_
          refine mv_lcmp_ge (tgt := 78) B dX3_put_70 dX3_put_71 (by decide) (by omega) (fun hd1 => ?_) (fun hd1 => ?_)
          · refine mv_iconst B dX3_put_78 ?_
            refine mw_callv hI hA (va_runV (As := [.int (iI ((t : Int))), .int (iI (1))]) (rest := []) B.fix (t_X3_settle l D kA H.size f (r := t) hM.self hL' (by omega) (by omega)) (cwV 2 B.2.2.2.2.1 (gV kw_367 kw_369 ks_17 kw_4 kw_370) rfl rfl rfl (by decide +kernel) ⟨Nat.le_of_ble_eq_true rfl, Nat.le_of_ble_eq_true rfl⟩) ⟨mw_blind st_S.blind, mw_recv B hI hM.1 rfl, mw_pre B hI (hSt.call hI hA)⟩ rfl rfl hl.1 rfl (lv_room (Nat.le_of_ble_eq_true rfl)) dX3_put_79 ⟨Nat.le_of_ble_eq_true rfl, Nat.le_of_ble_eq_true rfl⟩) (fun f H locs hp hI2 => ?_)
            clear hI
            have hI := hI2
            clear hI2
            have hM := hM.tr hp
            have e9 : (if mg L' t = 0 then (0 : Int) else 1) = c3 v_ 0 := by
              by_cases q : v_ = 0
              · rw [if_pos (by omega), c3_eq q]
              · rw [if_neg (by omega), c3_gt (by omega)]
            rw [e9] at hM
            exact mw_vret B hQ hrt hI ⟨L', hM, hL', fun r hr hrt => mg_same (fun i hi => ho _ (by omega)), by omega⟩ dX3_put_82
          · refine mv_iconst B dX3_put_74 ?_
            refine mv_goto (tgt := 79) B dX3_put_75 (by decide) ?_
            refine mw_callv hI hA (va_runV (As := [.int (iI ((t : Int))), .int (iI (-1))]) (rest := []) B.fix (t_X3_settle l D kA H.size f (r := t) hM.self hL' (by omega) (by omega)) (cwV 2 B.2.2.2.2.1 (gV kw_367 kw_369 ks_17 kw_4 kw_370) rfl rfl rfl (by decide +kernel) ⟨Nat.le_of_ble_eq_true rfl, Nat.le_of_ble_eq_true rfl⟩) ⟨mw_blind st_S.blind, mw_recv B hI hM.1 rfl, mw_pre B hI (hSt.call hI hA)⟩ rfl rfl hl.1 rfl (lv_room (Nat.le_of_ble_eq_true rfl)) dX3_put_79 ⟨Nat.le_of_ble_eq_true rfl, Nat.le_of_ble_eq_true rfl⟩) (fun f H locs hp hI2 => ?_)
            clear hI
            have hI := hI2
            clear hI2
            have hM := hM.tr hp
            have e9 : (if mg L' t = 0 then (0 : Int) else -1) = c3 v_ 0 := by rw [if_neg (by omega), c3_lt (by omega)]
            rw [e9] at hM
            exact mw_vret B hQ hrt hI ⟨L', hM, hL', fun r hr hrt => mg_same (fun i hi => ho _ (by omega)), by omega⟩ dX3_put_82
        · refine mv_aload_n B dX3_put_25 rfl (lv_at hl 2 rfl) ?_
          refine mw_get (C := RX3) (T := TX3) (N := 4) B hI hM.1 uin_X3 rfl 0 (by decide) kw_381 rfl dX3_put_26 ?_
          refine mv_sipush B dX3_put_29 (by decide) ?_
          refine mv_iload_n B dX3_put_32 rfl (lv_at hl 3 rfl) ?_
          refine mv_imul B dX3_put_33 ?_
          refine mv_iload B dX3_put_34 (lv_at hl 0 rfl) ?_
          refine mv_iadd B dX3_put_36 ?_
          refine mv_iload B dX3_put_37 (lv_at hl 0 rfl) ?_
          refine mv_iconst B dX3_put_39 ?_
          refine mv_icmp_ge (tgt := 58) B dX3_put_40 (by decide) (by omega) (fun hd1 => ?_) (fun hd1 => ?_)
          · refine mv_iconst B dX3_put_58 ?_
            refine md_L B hI hM (140 * t + j) (by omega) (by omega) dX3_put_59 (fun f H locs hM hI => ?_)
            refine mv_iinc (k := 0) (lv' := [(6, .int (iI (i + 1))), (4, .long (lI (u))), (0, .ref o), (1, .int (iI ((t : Int)))), (2, .long (lI (v_)))]) B dX3_put_60 hl rfl (by decide) rfl (fun ls hl => ?_)
            refine mv_goto (tgt := 17) B dX3_put_63 (by decide) ?_
            refine ih (j + 1) _ _ f H locs ls (by omega) (by omega) (by omega) (hL'.up (by omega)) (fun i hi => by rw [upI_ne _ _ (by omega)]; exact ho i (by omega)) ?_ hM hI (lv_sub hl [0, 1, 2, 3, 4] rfl)
            rw [rowv (L' := L) (by omega), hv, u63 hu1 (by omega), u63 hu1 (by omega)]
            omega
          · refine mv_lload B dX3_put_43 (lv_at hl 1 rfl) ?_
            refine mv_bipush B dX3_put_45 (by decide) ?_
            refine mv_iload B dX3_put_47 (lv_at hl 0 rfl) ?_
            refine mv_imul B dX3_put_49 ?_
            refine mv_lushr j B dX3_put_50 (by omega) (by omega) (by omega) ?_
            refine mv_l2i B dX3_put_51 ?_
            refine mv_ldc (z := 65535) B dX3_put_52 kw_366 (by decide) ?_
            refine mv_mask B dX3_put_54 ?_
            refine mv_goto (tgt := 59) B dX3_put_55 (by decide) ?_
            refine md_L B hI hM (140 * t + j) (by omega) (by omega) dX3_put_59 (fun f H locs hM hI => ?_)
            refine mv_iinc (k := 0) (lv' := [(6, .int (iI (i + 1))), (4, .long (lI (u))), (0, .ref o), (1, .int (iI ((t : Int)))), (2, .long (lI (v_)))]) B dX3_put_60 hl rfl (by decide) rfl (fun ls hl => ?_)
            refine mv_goto (tgt := 17) B dX3_put_63 (by decide) ?_
            refine ih (j + 1) _ _ f H locs ls (by omega) (by omega) (by omega) (hL'.up (by omega)) (fun i hi => by rw [upI_ne _ _ (by omega)]; exact ho i (by omega)) ?_ hM hI (lv_sub hl [0, 1, 2, 3, 4] rfl)
            rw [rowv (L' := L) (by omega), hv, mod_dig]
    exact loop 141 0 _ L f s.heap [] ls (by decide) rfl (by decide) hL (fun _ _ => rfl) (by rw [ev_0, Int.pow_zero]; omega) hM hI (lv_sub hl [0, 1, 2, 3, 4] rfl)
  refine mv_lcmp_ge (tgt := 11) B dX3_put_2 dX3_put_3 (by decide) (by omega) (fun hd => ?_) (fun hd => ?_)
  · refine mv_lload_n B dX3_put_11 rfl (lv_at hl 2 rfl) ?_
    exact j12 _ (by omega)
  · refine mv_lload_n B dX3_put_6 rfl (lv_at hl 2 rfl) ?_
    refine mv_lneg B dX3_put_7 ?_
    refine mv_goto (tgt := 12) B dX3_put_8 (by decide) ?_
    exact j12 _ (by omega)
abbrev rm_X3_bit : Room := { frames := 1, cells := 0, slots := 0, locals := 22 }
set_option maxHeartbeats 4000000 in
set_option maxRecDepth 100000 in
/-- bit -/
theorem t_X3_bit (l : Launch) (D : va_G) (kA : Nat → ClassId) (sz : Nat) (f0 : mw_M) {o li si su di : Nat} {L S G U : Nat → Int} {r k : Nat} {xr : Int} {xk : Int} (hM : MS kA f0 f0 o li si su di L S G U) (hL : lr L) (hxr : xr = (r : Int)) (hxk : xk = (k : Int)) (hr : r < 25) (hk : k < 2240) : mw_Mi l yX3_bit (Cond.code yX3_bit cX3_bit 3 ((some .int)) :: gw) rm_X3_bit D vwCl (tyL kA) st_S [.ref o, .int (iI (xr)), .int (iI (xk))] f0 sz (fun v f => v = iI (mg L r / 2 ^ k % 2) ∧ f = f0) 0 0 := by
  refine mw_ofi (cc := cX3_bit) (maxL := 3) (ret := (some .int)) (by decide) rfl (Nat.le_of_ble_eq_true rfl) ?_
  intro p e s m below meth c A ls Q hQ B hrt hnm hA hI hSt hl
  have hl : lv_has ls 3 [(0, .ref o), (1, .int (iI (xr))), (2, .int (iI (xk)))] := hl
  subst hxr
  subst hxk
  obtain ⟨f, hI, hM, hf⟩ : ∃ f, mw_I D vwCl A s s.heap [] f ∧ MS kA f0 f o li si su di L S G U ∧ f = f0 := ⟨f0, hI, hM, rfl⟩
  have lb := hL (140 * r + k / 16) (by omega)
  refine mv_aload_n B dX3_bit_0 rfl (lv_at hl 0 rfl) ?_
  refine mv_iload_n B dX3_bit_1 rfl (lv_at hl 1 rfl) ?_
  refine mv_iload_n B dX3_bit_2 rfl (lv_at hl 2 rfl) ?_
  refine mv_bipush B dX3_bit_3 (by decide) ?_
  refine mv_idiv B dX3_bit_5 (by omega) ?_
  refine mw_calli hI hA (va_runV (As := [.int (iI ((r : Int))), .int (iI (((k : Int)) / (16)))]) (rest := []) B.fix (t_X3_at l D kA s.heap.size f (r := r) (k := (k / 16)) hM.self hL (by omega) (by omega) (by omega) (by omega)) (cwV 2 B.2.2.2.2.1 (gV kw_371 kw_373 ks_18 kw_4 kw_374) rfl rfl rfl (by decide +kernel) ⟨Nat.le_of_ble_eq_true rfl, Nat.le_of_ble_eq_true rfl⟩) ⟨mw_blind st_S.blind, mw_recv B hI hM.1 rfl, mw_pre B hI (hSt.call hI hA)⟩ rfl rfl hl.1 rfl (lv_room (Nat.le_of_ble_eq_true rfl)) dX3_bit_6 ⟨Nat.le_of_ble_eq_true rfl, Nat.le_of_ble_eq_true rfl⟩) (fun r f H locs hp hI2 => ?_)
  clear hI
  have hI := hI2
  clear hI2
  obtain ⟨rfl, rfl⟩ := hp
  refine mv_iload_n B dX3_bit_9 rfl (lv_at hl 2 rfl) ?_
  refine mv_bipush B dX3_bit_10 (by decide) ?_
  refine mv_irem B dX3_bit_12 (by omega) ?_
  refine mv_shrk (k % 16) B dX3_bit_13 (by omega) (by omega) (by omega) ?_
  refine mv_iconst B dX3_bit_14 ?_
  refine mv_and1 B dX3_bit_15 ?_
  exact mw_iret B hQ hrt hI ⟨congrArg iI (ev_bit (g := fun i => L (140 * r + i)) (hL.row hr (Nat.le_refl 140)) (by omega)), hf⟩ dX3_bit_16
abbrev rm_X3_half : Room := { frames := 2, cells := 0, slots := 0, locals := 46 }
set_option maxHeartbeats 4000000 in
set_option maxRecDepth 100000 in
/-- half -/
theorem t_X3_half (l : Launch) (D : va_G) (kA : Nat → ClassId) (sz : Nat) (f0 : mw_M) {o li si su di : Nat} {L S G U : Nat → Int} {t : Nat} {xt : Int} (hM : MS kA f0 f0 o li si su di L S G U) (hL : lr L) (hxt : xt = (t : Int)) (ht : t < 25) : mw_Mv l yX3_half (Cond.code yX3_half cX3_half 4 (none) :: gw) rm_X3_half D vwCl (tyL kA) st_S [.ref o, .int (iI (xt))] f0 sz (fun f => ∃ L', MS kA f0 f o li si su di L' (upI S t (if mg L t / 2 = 0 then 0 else S t)) G U ∧ lr L' ∧ (∀ r, r < 25 → r ≠ t → mg L' r = mg L r) ∧ mg L' t = mg L t / 2) 0 0 := by
  refine mw_ofv (cc := cX3_half) (maxL := 4) (ret := none) (by decide) rfl (Nat.le_of_ble_eq_true rfl) ?_
  intro p e s m below meth c A ls Q hQ B hrt hnm hA hI hSt hl
  have hl : lv_has ls 4 [(0, .ref o), (1, .int (iI (xt)))] := hl
  subst hxt
  obtain ⟨f, hI, hM, hf⟩ : ∃ f, mw_I D vwCl A s s.heap [] f ∧ MS kA f0 f o li si su di L S G U ∧ f = f0 := ⟨f0, hI, hM, rfl⟩
  refine mv_iconst B dX3_half_0 ?_
  refine mv_istore_n (lv' := [(2, .int (iI (0))), (0, .ref o), (1, .int (iI ((t : Int))))]) B dX3_half_1 rfl hl (by decide) rfl (fun ls hl => ?_)
  have loop : ∀ (μ : Nat) (j : Nat) (i : Int) (L' : Nat → Int) (f : mw_M) (H : Heap) (locs : List Loc) (ls : Array Slot), 140 - j < μ → i = (j : Int) → j ≤ 140 → lr L' → (∀ i, ¬ (140 * t ≤ i ∧ i < 140 * t + j) → L' i = L i) → 2 * ev (fun i => L' (140 * t + i)) j = ev (fun i => L (140 * t + i)) j - L (140 * t) % 2 + qz (fun i => L (140 * t + i)) 140 j % 2 * 65536 ^ j → MS kA f0 f o li si su di L' S G U → mw_I D vwCl A s H locs f → lv_has ls 4 [(2, .int (iI (i))), (0, .ref o), (1, .int (iI ((t : Int))))] → W p l e rm_X3_half s m ([.ref o, .int (iI ((t : Int)))] : List Value).toArray below meth c H locs 0 0 Q (F0 m 2 ls []) := by
    intro μ
    induction μ with
    | zero => intro j i L' f H locs ls hμ; exact absurd hμ (Nat.not_lt_zero _)
    | succ μ ih =>
      intro j i L' f H locs ls hμ hi hj hL' ho hv hM hI hl
      refine mv_iload_n B dX3_half_2 rfl (lv_at hl 0 rfl) ?_
      refine mv_sipush B dX3_half_3 (by decide) ?_
      refine mv_icmp_ge (tgt := 64) B dX3_half_6 (by decide) (by omega) (fun hd0 => ?_) (fun hd0 => ?_)
      · obtain rfl : j = 140 := by omega
        rw [evz, evz, qz_ge (Nat.le_refl 140)] at hv
        have hm : mg L' t = mg L t / 2 := by omega
        refine mv_aload_n B dX3_half_64 rfl (lv_at hl 1 rfl) ?_
        refine mv_iload_n B dX3_half_65 rfl (lv_at hl 2 rfl) ?_
        refine mv_aload_n B dX3_half_66 rfl (lv_at hl 1 rfl) ?_
        refine mw_get (C := RX3) (T := TX3) (N := 4) B hI hM.1 uin_X3 rfl 1 (by decide) kw_382 rfl dX3_half_67 ?_
        refine mv_iload_n B dX3_half_70 rfl (lv_at hl 2 rfl) ?_
        refine mw_iald B hI 0 hM.2.2.1 rfl (t) (by omega) (by omega) (by decide) dX3_half_71 ?_
        refine mw_callv hI hA (va_runV (As := [.int (iI ((t : Int))), .int (iI (S (t)))]) (rest := []) B.fix (t_X3_settle l D kA H.size f (r := t) hM.self hL' (by omega) (by omega)) (cwV 2 B.2.2.2.2.1 (gV kw_367 kw_369 ks_17 kw_4 kw_370) rfl rfl rfl (by decide +kernel) ⟨Nat.le_of_ble_eq_true rfl, Nat.le_of_ble_eq_true rfl⟩) ⟨mw_blind st_S.blind, mw_recv B hI hM.1 rfl, mw_pre B hI (hSt.call hI hA)⟩ rfl rfl hl.1 rfl (lv_room (Nat.le_of_ble_eq_true rfl)) dX3_half_72 ⟨Nat.le_of_ble_eq_true rfl, Nat.le_of_ble_eq_true rfl⟩) (fun f H locs hp hI2 => ?_)
        clear hI
        have hI := hI2
        clear hI2
        have hM := hM.tr hp
        rw [hm] at hM
        exact mw_vret B hQ hrt hI ⟨L', hM, hL', fun r hr hrt => mg_same (fun i hi => ho _ (by omega)), hm⟩ dX3_half_75
      · have la := hL (140 * t + j) (by omega)
        have ea : L' (140 * t + j) = L (140 * t + j) := ho _ (by omega)
        refine mv_iload_n B dX3_half_9 rfl (lv_at hl 0 rfl) ?_
        refine mv_iconst B dX3_half_10 ?_
        refine mv_iadd B dX3_half_11 ?_
        refine mv_sipush B dX3_half_12 (by decide) ?_
        have j30 : ∀ (ab : Int) (f : mw_M) (H : Heap) (locs : List Loc), ab = qz (fun i => L (140 * t + i)) 140 (j + 1) → (0 ≤ ab ∧ ab < 65536) → MS kA f0 f o li si su di L' S G U → mw_I D vwCl A s H locs f → W p l e rm_X3_half s m ([.ref o, .int (iI ((t : Int)))] : List Value).toArray below meth c H locs 0 0 Q (F0 m 30 ls [.int (iI (ab))]) := by
          intro ab f H locs hab ab0 hM hI
          refine mv_istore_n (lv' := [(3, .int (iI (ab))), (2, .int (iI (i))), (0, .ref o), (1, .int (iI ((t : Int))))]) B dX3_half_30 rfl hl (by decide) rfl (fun ls hl => ?_)
          refine mv_aload_n B dX3_half_31 rfl (lv_at hl 2 rfl) ?_
          refine mw_get (C := RX3) (T := TX3) (N := 4) B hI hM.1 uin_X3 rfl 0 (by decide) kw_381 rfl dX3_half_32 ?_
          refine mv_sipush B dX3_half_35 (by decide) ?_
          refine mv_iload_n B dX3_half_38 rfl (lv_at hl 3 rfl) ?_
          refine mv_imul B dX3_half_39 ?_
          refine mv_iload_n B dX3_half_40 rfl (lv_at hl 1 rfl) ?_
          refine mv_iadd B dX3_half_41 ?_
          refine mv_aload_n B dX3_half_42 rfl (lv_at hl 2 rfl) ?_
          refine mv_iload_n B dX3_half_43 rfl (lv_at hl 3 rfl) ?_
          refine mv_iload_n B dX3_half_44 rfl (lv_at hl 1 rfl) ?_
          refine mw_calli hI hA (va_runV (As := [.int (iI ((t : Int))), .int (iI (i))]) (rest := [.int (iI (((140) * ((t : Int))) + (i))), .ref li]) B.fix (t_X3_at l D kA H.size f (r := t) (k := j) hM.self hL' (by omega) (by omega) (by omega) (by omega)) (cwV 2 B.2.2.2.2.1 (gV kw_371 kw_373 ks_18 kw_4 kw_374) rfl rfl rfl (by decide +kernel) ⟨Nat.le_of_ble_eq_true rfl, Nat.le_of_ble_eq_true rfl⟩) ⟨mw_blind st_S.blind, mw_recv B hI hM.1 rfl, mw_pre B hI (hSt.call hI hA)⟩ rfl rfl hl.1 rfl (lv_room (Nat.le_of_ble_eq_true rfl)) dX3_half_45 ⟨Nat.le_of_ble_eq_true rfl, Nat.le_of_ble_eq_true rfl⟩) (fun r f H locs hp hI2 => ?_)
          clear hI
          have hI := hI2
          clear hI2
          obtain ⟨rfl, rfl⟩ := hp
          rw [ea]
          refine mv_iconst B dX3_half_48 ?_
          refine mv_shrk (1) B dX3_half_49 (by omega) (by omega) (by omega) ?_
          refine mv_iload_n B dX3_half_50 rfl (lv_at hl 0 rfl) ?_
          refine mv_iconst B dX3_half_51 ?_
          refine mv_and1 B dX3_half_52 ?_
          refine mv_bipush B dX3_half_53 (by decide) ?_
          refine mv_shl (15) B dX3_half_55 (by omega) (by omega) (by omega) ?_
          refine mv_orc 15 B dX3_half_56 (by omega) (by omega) ?_
          refine mv_nmi (fun tt htt => ?_)
          refine md_L B hI hM (140 * t + j) (by omega) (by omega) dX3_half_57 (fun f H locs hM hI => ?_)
          refine mv_iinc (k := 1) (lv' := [(2, .int (iI (i + 1))), (3, .int (iI (ab))), (0, .ref o), (1, .int (iI ((t : Int))))]) B dX3_half_58 hl rfl (by decide) rfl (fun ls hl => ?_)
          refine mv_goto (tgt := 2) B dX3_half_61 (by decide) ?_
          refine ih (j + 1) _ _ f H locs ls (by omega) (by omega) (by omega) (hL'.up (by omega)) (fun i hi => by rw [upI_ne _ _ (by omega)]; exact ho i (by omega)) ?_ hM hI (lv_sub hl [0, 2, 3] rfl)
          rw [qz_lt (by omega)] at hv
          rw [rowv (L' := L) (by omega), ep_s, ev_s, ← hab]
          exact hf_step hv (by omega)
        refine mv_icmp_ge (tgt := 29) B dX3_half_15 (by decide) (by omega) (fun hd1 => ?_) (fun hd1 => ?_)
        · refine mv_iconst B dX3_half_29 ?_
          exact j30 0 f H locs (qz_ge (by omega)).symm (by decide) hM hI
        · refine mv_aload_n B dX3_half_18 rfl (lv_at hl 1 rfl) ?_
          refine mv_iload_n B dX3_half_19 rfl (lv_at hl 2 rfl) ?_
          refine mv_iload_n B dX3_half_20 rfl (lv_at hl 0 rfl) ?_
          refine mv_iconst B dX3_half_21 ?_
          refine mv_iadd B dX3_half_22 ?_
          have lb := hL (140 * t + (j + 1)) (by omega)
          have eb : L' (140 * t + (j + 1)) = L (140 * t + (j + 1)) := ho _ (by omega)
          refine mw_calli hI hA (va_runV (As := [.int (iI ((t : Int))), .int (iI ((i) + (1)))]) (rest := []) B.fix (t_X3_at l D kA H.size f (r := t) (k := (j + 1)) hM.self hL' (by omega) (by omega) (by omega) (by omega)) (cwV 2 B.2.2.2.2.1 (gV kw_371 kw_373 ks_18 kw_4 kw_374) rfl rfl rfl (by decide +kernel) ⟨Nat.le_of_ble_eq_true rfl, Nat.le_of_ble_eq_true rfl⟩) ⟨mw_blind st_S.blind, mw_recv B hI hM.1 rfl, mw_pre B hI (hSt.call hI hA)⟩ rfl rfl hl.1 rfl (lv_room (Nat.le_of_ble_eq_true rfl)) dX3_half_23 ⟨Nat.le_of_ble_eq_true rfl, Nat.le_of_ble_eq_true rfl⟩) (fun r f H locs hp hI2 => ?_)
          clear hI
          have hI := hI2
          clear hI2
          obtain ⟨rfl, rfl⟩ := hp
          refine mv_goto (tgt := 30) B dX3_half_26 (by decide) ?_
          rw [eb]
          exact j30 _ f H locs (qz_lt (g := fun i => L (140 * t + i)) (show j + 1 < 140 by omega)).symm lb hM hI
  exact loop 141 0 _ L f s.heap [] ls (by decide) rfl (by decide) hL (fun _ _ => rfl) (hf_0 L t) hM hI (lv_sub hl [0, 1, 2] rfl)
abbrev rm_X3_twice : Room := { frames := 2, cells := 0, slots := 0, locals := 46 }
set_option maxHeartbeats 4000000 in
set_option maxRecDepth 100000 in
/-- twice -/
theorem t_X3_twice (l : Launch) (D : va_G) (kA : Nat → ClassId) (sz : Nat) (f0 : mw_M) {o li si su di : Nat} {L S G U : Nat → Int} {t : Nat} {mo : Int} {xt : Int} (hM : MS kA f0 f0 o li si su di L S G U) (hL : lr L) (hxt : xt = (t : Int)) (ht : t < 25) (hmo : 0 ≤ mo ∧ mo ≤ 1) (hs : 2 * mg L t + mo < 65536 ^ 140) : mw_Mv l yX3_twice (Cond.code yX3_twice cX3_twice 5 (none) :: gw) rm_X3_twice D vwCl (tyL kA) st_S [.ref o, .int (iI (xt)), .int (iI (mo))] f0 sz (fun f => ∃ L', MS kA f0 f o li si su di L' (upI S t (if 2 * mg L t + mo = 0 then 0 else 1)) G U ∧ lr L' ∧ (∀ r, r < 25 → r ≠ t → mg L' r = mg L r) ∧ mg L' t = 2 * mg L t + mo) 0 0 := by
  refine mw_ofv (cc := cX3_twice) (maxL := 5) (ret := none) (by decide) rfl (Nat.le_of_ble_eq_true rfl) ?_
  intro p e s m below meth c A ls Q hQ B hrt hnm hA hI hSt hl
  have hl : lv_has ls 5 [(0, .ref o), (1, .int (iI (xt))), (2, .int (iI (mo)))] := hl
  subst hxt
  obtain ⟨f, hI, hM, hf⟩ : ∃ f, mw_I D vwCl A s s.heap [] f ∧ MS kA f0 f o li si su di L S G U ∧ f = f0 := ⟨f0, hI, hM, rfl⟩
  refine mv_iload_n B dX3_twice_0 rfl (lv_at hl 2 rfl) ?_
  refine mv_istore_n (lv' := [(3, .int (iI (mo))), (0, .ref o), (1, .int (iI ((t : Int)))), (2, .int (iI (mo)))]) B dX3_twice_1 rfl hl (by decide) rfl (fun ls hl => ?_)
  refine mv_iconst B dX3_twice_2 ?_
  refine mv_istore (lv' := [(4, .int (iI (0))), (3, .int (iI (mo))), (0, .ref o), (1, .int (iI ((t : Int)))), (2, .int (iI (mo)))]) B dX3_twice_3 hl (by decide) rfl (fun ls hl => ?_)
  have loop : ∀ (μ : Nat) (j : Nat) (i cy : Int) (L' : Nat → Int) (f : mw_M) (H : Heap) (locs : List Loc) (ls : Array Slot), 140 - j < μ → i = (j : Int) → j ≤ 140 → (0 ≤ cy ∧ cy ≤ 1) → lr L' → (∀ i, ¬ (140 * t ≤ i ∧ i < 140 * t + j) → L' i = L i) → ev (fun i => L' (140 * t + i)) j + cy * 65536 ^ j = 2 * ev (fun i => L (140 * t + i)) j + mo → MS kA f0 f o li si su di L' S G U → mw_I D vwCl A s H locs f → lv_has ls 5 [(4, .int (iI (i))), (3, .int (iI (cy))), (0, .ref o), (1, .int (iI ((t : Int)))), (2, .int (iI (mo)))] → W p l e rm_X3_twice s m ([.ref o, .int (iI ((t : Int))), .int (iI (mo))] : List Value).toArray below meth c H locs 0 0 Q (F0 m 5 ls []) := by
    intro μ
    induction μ with
    | zero => intro j i cy L' f H locs ls hμ; exact absurd hμ (Nat.not_lt_zero _)
    | succ μ ih =>
      intro j i cy L' f H locs ls hμ hi hj hcy hL' ho hv hM hI hl
      refine mv_iload B dX3_twice_5 (lv_at hl 0 rfl) ?_
      refine mv_sipush B dX3_twice_7 (by decide) ?_
      refine mv_icmp_ge (tgt := 53) B dX3_twice_10 (by decide) (by omega) (fun hd0 => ?_) (fun hd0 => ?_)
      · obtain rfl : j = 140 := by omega
        rw [evz, evz] at hv
        have p0 := ep_pos 140
        have m1 := mg_nn hL' ht
        have m2 := mg_nn hL ht
        have z1 : cy = 0 := mt_zero p0 (by have := Int.mul_nonneg hcy.1 (Int.le_of_lt p0); omega) (by omega)
        rw [z1, Int.zero_mul, Int.add_zero] at hv
        refine mv_aload_n B dX3_twice_53 rfl (lv_at hl 2 rfl) ?_
        refine mv_iload_n B dX3_twice_54 rfl (lv_at hl 3 rfl) ?_
        refine mv_iconst B dX3_twice_55 ?_
        refine mw_callv hI hA (va_runV (As := [.int (iI ((t : Int))), .int (iI (1))]) (rest := []) B.fix (t_X3_settle l D kA H.size f (r := t) hM.self hL' (by omega) (by omega)) (cwV 2 B.2.2.2.2.1 (gV kw_367 kw_369 ks_17 kw_4 kw_370) rfl rfl rfl (by decide +kernel) ⟨Nat.le_of_ble_eq_true rfl, Nat.le_of_ble_eq_true rfl⟩) ⟨mw_blind st_S.blind, mw_recv B hI hM.1 rfl, mw_pre B hI (hSt.call hI hA)⟩ rfl rfl hl.1 rfl (lv_room (Nat.le_of_ble_eq_true rfl)) dX3_twice_56 ⟨Nat.le_of_ble_eq_true rfl, Nat.le_of_ble_eq_true rfl⟩) (fun f H locs hp hI2 => ?_)
        clear hI
        have hI := hI2
        clear hI2
        have hM := hM.tr hp
        rw [hv] at hM
        exact mw_vret B hQ hrt hI ⟨L', hM, hL', fun r hr hrt => mg_same (fun i hi => ho _ (by omega)), hv⟩ dX3_twice_59
      · have la := hL (140 * t + j) (by omega)
        have ea : L' (140 * t + j) = L (140 * t + j) := ho _ (by omega)
        refine mv_iload_n B dX3_twice_13 rfl (lv_at hl 1 rfl) ?_
        refine mv_iconst B dX3_twice_14 ?_
        refine mv_aload_n B dX3_twice_15 rfl (lv_at hl 2 rfl) ?_
        refine mv_iload_n B dX3_twice_16 rfl (lv_at hl 3 rfl) ?_
        refine mv_iload B dX3_twice_17 (lv_at hl 0 rfl) ?_
        refine mw_calli hI hA (va_runV (As := [.int (iI ((t : Int))), .int (iI (i))]) (rest := [.int (iI (2)), .int (iI (cy))]) B.fix (t_X3_at l D kA H.size f (r := t) (k := j) hM.self hL' (by omega) (by omega) (by omega) (by omega)) (cwV 2 B.2.2.2.2.1 (gV kw_371 kw_373 ks_18 kw_4 kw_374) rfl rfl rfl (by decide +kernel) ⟨Nat.le_of_ble_eq_true rfl, Nat.le_of_ble_eq_true rfl⟩) ⟨mw_blind st_S.blind, mw_recv B hI hM.1 rfl, mw_pre B hI (hSt.call hI hA)⟩ rfl rfl hl.1 rfl (lv_room (Nat.le_of_ble_eq_true rfl)) dX3_twice_19 ⟨Nat.le_of_ble_eq_true rfl, Nat.le_of_ble_eq_true rfl⟩) (fun r f H locs hp hI2 => ?_)
        clear hI
        have hI := hI2
        clear hI2
        obtain ⟨rfl, rfl⟩ := hp
        refine mv_imul B dX3_twice_22 ?_
        refine mv_iadd B dX3_twice_23 ?_
        refine mv_nmi (fun tt htt => ?_)
        rw [ea] at htt
        refine mv_istore_n (lv' := [(3, .int (iI (tt))), (4, .int (iI (i))), (0, .ref o), (1, .int (iI ((t : Int)))), (2, .int (iI (mo)))]) B dX3_twice_24 rfl hl (by decide) rfl (fun ls hl => ?_)
        refine mv_aload_n B dX3_twice_25 rfl (lv_at hl 2 rfl) ?_
        refine mw_get (C := RX3) (T := TX3) (N := 4) B hI hM.1 uin_X3 rfl 0 (by decide) kw_381 rfl dX3_twice_26 ?_
        refine mv_sipush B dX3_twice_29 (by decide) ?_
        refine mv_iload_n B dX3_twice_32 rfl (lv_at hl 3 rfl) ?_
        refine mv_imul B dX3_twice_33 ?_
        refine mv_iload B dX3_twice_34 (lv_at hl 1 rfl) ?_
        refine mv_iadd B dX3_twice_36 ?_
        refine mv_iload_n B dX3_twice_37 rfl (lv_at hl 0 rfl) ?_
        refine mv_ldc (z := 65535) B dX3_twice_38 kw_366 (by decide) ?_
        refine mv_mask B dX3_twice_40 ?_
        refine md_L B hI hM (140 * t + j) (by omega) (by omega) dX3_twice_41 (fun f H locs hM hI => ?_)
        refine mv_iload_n B dX3_twice_42 rfl (lv_at hl 0 rfl) ?_
        refine mv_bipush B dX3_twice_43 (by decide) ?_
        refine mv_shr16 B dX3_twice_45 (by omega) ?_
        refine mv_istore_n (lv' := [(3, .int (iI ((tt) / 65536))), (4, .int (iI (i))), (0, .ref o), (1, .int (iI ((t : Int)))), (2, .int (iI (mo)))]) B dX3_twice_46 rfl hl (by decide) rfl (fun ls hl => ?_)
        refine mv_iinc (k := 1) (lv' := [(4, .int (iI (i + 1))), (3, .int (iI ((tt) / 65536))), (0, .ref o), (1, .int (iI ((t : Int)))), (2, .int (iI (mo)))]) B dX3_twice_47 hl rfl (by decide) rfl (fun ls hl => ?_)
        refine mv_goto (tgt := 5) B dX3_twice_50 (by decide) ?_
        refine ih (j + 1) _ _ _ f H locs ls (by omega) (by omega) (by omega) (by omega) (hL'.up (by omega)) (fun i hi => by rw [upI_ne _ _ (by omega)]; exact ho i (by omega)) ?_ hM hI (lv_sub hl [0, 1, 2, 3, 4] rfl)
        rw [rowv (L' := L) (by omega), ep_s, ev_s]
        have st := mc_step (u := 2 * L (140 * t + j)) (tt := tt) hv (by omega)
        rw [st]
        grind
  exact loop 141 0 _ _ L f s.heap [] ls (by decide) rfl (by decide) (by omega) hL (fun _ _ => rfl) (by rw [ev_0, Int.pow_zero]; omega) hM hI (lv_sub hl [0, 1, 2, 3, 4] rfl)
abbrev rm_X3_multiply : Room := { frames := 2, cells := 0, slots := 0, locals := 46 }
set_option maxHeartbeats 4000000 in
set_option maxRecDepth 100000 in
/-- multiply -/
theorem t_X3_multiply (l : Launch) (D : va_G) (kA : Nat → ClassId) (sz : Nat) (f0 : mw_M) {o li si su di : Nat} {L S G U : Nat → Int} {t a b : Nat} {xt : Int} {xa : Int} {xb : Int} (hM : MS kA f0 f0 o li si su di L S G U) (hL : lr L) (hxt : xt = (t : Int)) (hxa : xa = (a : Int)) (hxb : xb = (b : Int)) (ht : t < 25) (ha : a < 25) (hb : b < 25) (hs : mg L a * mg L b < 65536 ^ 140) : mw_Mv l yX3_multiply (Cond.code yX3_multiply cX3_multiply 8 (none) :: gw) rm_X3_multiply D vwCl (tyL kA) st_S [.ref o, .int (iI (xt)), .int (iI (xa)), .int (iI (xb))] f0 sz (fun f => ∃ L' U', MS kA f0 f o li si su di L' (upI S t (if mg L a * mg L b = 0 then 0 else S a * S b)) G U' ∧ lr L' ∧ (∀ r, r < 25 → r ≠ t → mg L' r = mg L r) ∧ mg L' t = mg L a * mg L b) 0 0 := by
  refine mw_ofv (cc := cX3_multiply) (maxL := 8) (ret := none) (by decide) rfl (Nat.le_of_ble_eq_true rfl) ?_
  intro p e s m below meth c A ls Q hQ B hrt hnm hA hI hSt hl
  have hl : lv_has ls 8 [(0, .ref o), (1, .int (iI (xt))), (2, .int (iI (xa))), (3, .int (iI (xb)))] := hl
  subst hxt
  subst hxa
  subst hxb
  obtain ⟨f, hI, hM, hf⟩ : ∃ f, mw_I D vwCl A s s.heap [] f ∧ MS kA f0 f o li si su di L S G U ∧ f = f0 := ⟨f0, hI, hM, rfl⟩
  refine mv_aload_n B dX3_multiply_0 rfl (lv_at hl 0 rfl) ?_
  refine mw_get (C := RX3) (T := TX3) (N := 4) B hI hM.1 uin_X3 rfl 1 (by decide) kw_382 rfl dX3_multiply_1 ?_
  refine mv_iload_n B dX3_multiply_4 rfl (lv_at hl 2 rfl) ?_
  refine mw_iald B hI 0 hM.2.2.1 rfl (a) (by omega) (by omega) (by decide) dX3_multiply_5 ?_
  refine mv_aload_n B dX3_multiply_6 rfl (lv_at hl 0 rfl) ?_
  refine mw_get (C := RX3) (T := TX3) (N := 4) B hI hM.1 uin_X3 rfl 1 (by decide) kw_382 rfl dX3_multiply_7 ?_
  refine mv_iload_n B dX3_multiply_10 rfl (lv_at hl 3 rfl) ?_
  refine mw_iald B hI 0 hM.2.2.1 rfl (b) (by omega) (by omega) (by decide) dX3_multiply_11 ?_
  refine mv_imul B dX3_multiply_12 ?_
  refine mv_nmi (fun sg hsg => ?_)
  refine mv_istore (lv' := [(4, .int (iI (sg))), (0, .ref o), (1, .int (iI ((t : Int)))), (2, .int (iI ((a : Int)))), (3, .int (iI ((b : Int))))]) B dX3_multiply_13 hl (by decide) rfl (fun ls hl => ?_)
  refine mv_iconst B dX3_multiply_15 ?_
  refine mv_istore (lv' := [(5, .int (iI (0))), (4, .int (iI (sg))), (0, .ref o), (1, .int (iI ((t : Int)))), (2, .int (iI ((a : Int)))), (3, .int (iI ((b : Int))))]) B dX3_multiply_16 hl (by decide) rfl (fun ls hl => ?_)
  have loop1 : ∀ (μ : Nat) (j : Nat) (i : Int) (U : Nat → Int) (f : mw_M) (H : Heap) (locs : List Loc) (ls : Array Slot), 280 - j < μ → i = (j : Int) → j ≤ 280 → (∀ i, i < j → U i = 0) → MS kA f0 f o li si su di L S G U → mw_I D vwCl A s H locs f → lv_has ls 8 [(5, .int (iI (i))), (4, .int (iI (sg))), (0, .ref o), (1, .int (iI ((t : Int)))), (2, .int (iI ((a : Int)))), (3, .int (iI ((b : Int))))] → W p l e rm_X3_multiply s m ([.ref o, .int (iI ((t : Int))), .int (iI ((a : Int))), .int (iI ((b : Int)))] : List Value).toArray below meth c H locs 0 0 Q (F0 m 18 ls []) := by
    intro μ
    induction μ with
    | zero => intro j i U f H locs ls hμ; exact absurd hμ (Nat.not_lt_zero _)
    | succ μ ih =>
      intro j i U f H locs ls hμ hi hj hz hM hI hl
      refine mv_iload B dX3_multiply_18 (lv_at hl 0 rfl) ?_
      refine mv_sipush B dX3_multiply_20 (by decide) ?_
      refine mv_icmp_ge (tgt := 40) B dX3_multiply_23 (by decide) (by omega) (fun hd0 => ?_) (fun hd0 => ?_)
      · obtain rfl : j = 280 := by omega
        have e0 : ev U 280 = 0 := by rw [ev_trim (Nat.zero_le 280) (fun i _ h => hz i h), ev_0]
        have b0 : ub U 0 0 := fun k hk => by
          rw [hz k hk, if_neg (Nat.not_lt_zero k)]
          decide
        refine mv_iconst B dX3_multiply_40 ?_
        refine mv_istore (lv' := [(5, .int (iI (0))), (4, .int (iI (sg))), (0, .ref o), (1, .int (iI ((t : Int)))), (2, .int (iI ((a : Int)))), (3, .int (iI ((b : Int))))]) B dX3_multiply_41 hl (by decide) rfl (fun ls hl => ?_)
        have loop2 : ∀ (μ : Nat) (j : Nat) (i : Int) (U : Nat → Int) (f : mw_M) (H : Heap) (locs : List Loc) (ls : Array Slot), 140 - j < μ → i = (j : Int) → j ≤ 140 → ub U j 0 → ev U 280 = ev (fun i => L (140 * a + i)) j * mg L b → MS kA f0 f o li si su di L S G U → mw_I D vwCl A s H locs f → lv_has ls 8 [(5, .int (iI (i))), (4, .int (iI (sg))), (0, .ref o), (1, .int (iI ((t : Int)))), (2, .int (iI ((a : Int)))), (3, .int (iI ((b : Int))))] → W p l e rm_X3_multiply s m ([.ref o, .int (iI ((t : Int))), .int (iI ((a : Int))), .int (iI ((b : Int)))] : List Value).toArray below meth c H locs 0 0 Q (F0 m 43 ls []) := by
          intro μ
          induction μ with
          | zero => intro j i U f H locs ls hμ; exact absurd hμ (Nat.not_lt_zero _)
          | succ μ ih =>
            intro j i U f H locs ls hμ hi hj hb0 hv hM hI hl
            refine mv_iload B dX3_multiply_43 (lv_at hl 0 rfl) ?_
            refine mv_sipush B dX3_multiply_45 (by decide) ?_
            have ih1 := ih
            refine mv_icmp_ge (tgt := 114) B dX3_multiply_48 (by decide) (by omega) (fun hd1 => ?_) (fun hd1 => ?_)
            · obtain rfl : j = 140 := by omega
              rw [evz] at hv
              refine mv_lconst0 B dX3_multiply_114 ?_
              refine mv_lstore (lv' := [(5, .long (lI (0))), (4, .int (iI (sg))), (0, .ref o), (1, .int (iI ((t : Int)))), (2, .int (iI ((a : Int)))), (3, .int (iI ((b : Int))))]) B dX3_multiply_115 hl (by decide) rfl (fun ls hl => ?_)
              refine mv_iconst B dX3_multiply_117 ?_
              refine mv_istore (lv' := [(7, .int (iI (0))), (5, .long (lI (0))), (4, .int (iI (sg))), (0, .ref o), (1, .int (iI ((t : Int)))), (2, .int (iI ((a : Int)))), (3, .int (iI ((b : Int))))]) B dX3_multiply_118 hl (by decide) rfl (fun ls hl => ?_)
              have loop3 : ∀ (μ : Nat) (j : Nat) (i cy : Int) (L' : Nat → Int) (f : mw_M) (H : Heap) (locs : List Loc) (ls : Array Slot), 140 - j < μ → i = (j : Int) → j ≤ 140 → (0 ≤ cy ∧ cy ≤ 601277071500) → lr L' → (∀ i, ¬ (140 * t ≤ i ∧ i < 140 * t + j) → L' i = L i) → ev (fun i => L' (140 * t + i)) j + cy * 65536 ^ j = ev U j → MS kA f0 f o li si su di L' S G U → mw_I D vwCl A s H locs f → lv_has ls 8 [(7, .int (iI (i))), (5, .long (lI (cy))), (4, .int (iI (sg))), (0, .ref o), (1, .int (iI ((t : Int)))), (2, .int (iI ((a : Int)))), (3, .int (iI ((b : Int))))] → W p l e rm_X3_multiply s m ([.ref o, .int (iI ((t : Int))), .int (iI ((a : Int))), .int (iI ((b : Int)))] : List Value).toArray below meth c H locs 0 0 Q (F0 m 120 ls []) := by
                intro μ
                induction μ with
                | zero => intro j i cy L' f H locs ls hμ; exact absurd hμ (Nat.not_lt_zero _)
                | succ μ ih =>
                  intro j i cy L' f H locs ls hμ hi hj hcy hL' ho hv3 hM hI hl
                  refine mv_iload B dX3_multiply_120 (lv_at hl 0 rfl) ?_
                  refine mv_sipush B dX3_multiply_122 (by decide) ?_
                  refine mv_icmp_ge (tgt := 173) B dX3_multiply_125 (by decide) (by omega) (fun hd0 => ?_) (fun hd0 => ?_)
                  · obtain rfl : j = 140 := by omega
                    rw [evz] at hv3
                    have hm : mg L' t = mg L a * mg L b := mu_end hb0 hcy.1 (mg_nn hL' ht).1 hv hs hv3
                    refine mv_aload_n B dX3_multiply_173 rfl (lv_at hl 3 rfl) ?_
                    refine mv_iload_n B dX3_multiply_174 rfl (lv_at hl 4 rfl) ?_
                    refine mv_iload B dX3_multiply_175 (lv_at hl 2 rfl) ?_
                    refine mw_callv hI hA (va_runV (As := [.int (iI ((t : Int))), .int (iI (sg))]) (rest := []) B.fix (t_X3_settle l D kA H.size f (r := t) hM.self hL' (by omega) (by omega)) (cwV 2 B.2.2.2.2.1 (gV kw_367 kw_369 ks_17 kw_4 kw_370) rfl rfl rfl (by decide +kernel) ⟨Nat.le_of_ble_eq_true rfl, Nat.le_of_ble_eq_true rfl⟩) ⟨mw_blind st_S.blind, mw_recv B hI hM.1 rfl, mw_pre B hI (hSt.call hI hA)⟩ rfl rfl hl.1 rfl (lv_room (Nat.le_of_ble_eq_true rfl)) dX3_multiply_177 ⟨Nat.le_of_ble_eq_true rfl, Nat.le_of_ble_eq_true rfl⟩) (fun f H locs hp hI2 => ?_)
                    clear hI
                    have hI := hI2
                    clear hI2
                    have hM := hM.tr hp
                    rw [hm, hsg] at hM
                    exact mw_vret B hQ hrt hI ⟨L', U, hM, hL', fun r hr hrt => mg_same (fun i hi => ho _ (by omega)), hm⟩ dX3_multiply_180
                  · have ubj := hb0.le' (show j < 280 by omega)
                    refine mv_lload B dX3_multiply_128 (lv_at hl 1 rfl) ?_
                    refine mv_aload_n B dX3_multiply_130 rfl (lv_at hl 3 rfl) ?_
                    refine mw_get (C := RX3) (T := TX3) (N := 4) B hI hM.1 uin_X3 rfl 2 (by decide) kw_383 rfl dX3_multiply_131 ?_
                    refine mv_iload B dX3_multiply_134 (lv_at hl 0 rfl) ?_
                    refine md_Uld B hI hM (j) (by omega) (by omega) dX3_multiply_136 ?_
                    refine mv_ladd B dX3_multiply_137 ?_
                    refine mv_nml (fun tt htt => ?_)
                    refine mv_lstore (lv' := [(5, .long (lI (tt))), (7, .int (iI (i))), (4, .int (iI (sg))), (0, .ref o), (1, .int (iI ((t : Int)))), (2, .int (iI ((a : Int)))), (3, .int (iI ((b : Int))))]) B dX3_multiply_138 hl (by decide) rfl (fun ls hl => ?_)
                    refine mv_aload_n B dX3_multiply_140 rfl (lv_at hl 3 rfl) ?_
                    refine mw_get (C := RX3) (T := TX3) (N := 4) B hI hM.1 uin_X3 rfl 0 (by decide) kw_381 rfl dX3_multiply_141 ?_
                    refine mv_sipush B dX3_multiply_144 (by decide) ?_
                    refine mv_iload_n B dX3_multiply_147 rfl (lv_at hl 4 rfl) ?_
                    refine mv_imul B dX3_multiply_148 ?_
                    refine mv_iload B dX3_multiply_149 (lv_at hl 1 rfl) ?_
                    refine mv_iadd B dX3_multiply_151 ?_
                    refine mv_lload B dX3_multiply_152 (lv_at hl 0 rfl) ?_
                    refine mv_ldc2 (z := 65535) B dX3_multiply_154 kw_380 (by decide) ?_
                    refine mv_lmask B dX3_multiply_157 ?_
                    refine mv_l2i B dX3_multiply_158 ?_
                    refine md_L B hI hM (140 * t + j) (by omega) (by omega) dX3_multiply_159 (fun f H locs hM hI => ?_)
                    refine mv_lload B dX3_multiply_160 (lv_at hl 0 rfl) ?_
                    refine mv_bipush B dX3_multiply_162 (by decide) ?_
                    refine mv_lshr16 B dX3_multiply_164 (by omega) ?_
                    refine mv_lstore (lv' := [(5, .long (lI (tt / 65536))), (7, .int (iI (i))), (4, .int (iI (sg))), (0, .ref o), (1, .int (iI ((t : Int)))), (2, .int (iI ((a : Int)))), (3, .int (iI ((b : Int))))]) B dX3_multiply_165 hl (by decide) rfl (fun ls hl => ?_)
                    refine mv_iinc (k := 1) (lv' := [(7, .int (iI (i + 1))), (5, .long (lI (tt / 65536))), (4, .int (iI (sg))), (0, .ref o), (1, .int (iI ((t : Int)))), (2, .int (iI ((a : Int)))), (3, .int (iI ((b : Int))))]) B dX3_multiply_167 hl rfl (by decide) rfl (fun ls hl => ?_)
                    refine mv_goto (tgt := 120) B dX3_multiply_170 (by decide) ?_
                    refine ih (j + 1) _ _ _ f H locs ls (by omega) (by omega) (by omega) (by omega) (hL'.up (by omega)) (fun i hi => by rw [upI_ne _ _ (by omega)]; exact ho i (by omega)) ?_ hM hI (lv_sub hl [0, 1, 2, 3, 4, 5, 6] rfl)
                    rw [rowv (L' := L) (by omega), ep_s, ev_s]
                    exact mc_step hv3 (by omega)
              exact loop3 141 0 _ _ L f H locs ls (by decide) rfl (by decide) (by decide) hL (fun _ _ => rfl) (by rw [ev_0, ev_0, Int.pow_zero]; omega) hM hI (lv_sub hl [0, 1, 2, 3, 4, 5, 6] rfl)
            · have la := hL (140 * a + j) (by omega)
              refine mv_iconst B dX3_multiply_51 ?_
              refine mv_istore (lv' := [(6, .int (iI (0))), (5, .int (iI (i))), (4, .int (iI (sg))), (0, .ref o), (1, .int (iI ((t : Int)))), (2, .int (iI ((a : Int)))), (3, .int (iI ((b : Int))))]) B dX3_multiply_52 hl (by decide) rfl (fun ls hl => ?_)
              have loop4 : ∀ (μ : Nat) (k : Nat) (i2 : Int) (U : Nat → Int) (f : mw_M) (H : Heap) (locs : List Loc) (ls : Array Slot), 140 - k < μ → i2 = (k : Int) → k ≤ 140 → ub U j (j + k) → ev U 280 = ev (fun i => L (140 * a + i)) j * mg L b + L (140 * a + j) * 65536 ^ j * ev (fun i => L (140 * b + i)) k → MS kA f0 f o li si su di L S G U → mw_I D vwCl A s H locs f → lv_has ls 8 [(6, .int (iI (i2))), (5, .int (iI (i))), (4, .int (iI (sg))), (0, .ref o), (1, .int (iI ((t : Int)))), (2, .int (iI ((a : Int)))), (3, .int (iI ((b : Int))))] → W p l e rm_X3_multiply s m ([.ref o, .int (iI ((t : Int))), .int (iI ((a : Int))), .int (iI ((b : Int)))] : List Value).toArray below meth c H locs 0 0 Q (F0 m 54 ls []) := by
                intro μ
                induction μ with
                | zero => intro k i2 U f H locs ls hμ; exact absurd hμ (Nat.not_lt_zero _)
                | succ μ ih =>
                  intro k i2 U f H locs ls hμ hi2 hk hub hv4 hM hI hl
                  refine mv_iload B dX3_multiply_54 (lv_at hl 0 rfl) ?_
                  refine mv_sipush B dX3_multiply_56 (by decide) ?_
                  refine mv_icmp_ge (tgt := 108) B dX3_multiply_59 (by decide) (by omega) (fun hd4 => ?_) (fun hd4 => ?_)
                  · obtain rfl : k = 140 := by omega
                    refine mv_iinc (k := 1) (lv' := [(5, .int (iI (i + 1))), (6, .int (iI (i2))), (4, .int (iI (sg))), (0, .ref o), (1, .int (iI ((t : Int)))), (2, .int (iI ((a : Int)))), (3, .int (iI ((b : Int))))]) B dX3_multiply_108 hl rfl (by decide) rfl (fun ls hl => ?_)
                    refine mv_goto (tgt := 43) B dX3_multiply_111 (by decide) ?_
                    refine ih1 (j + 1) _ U f H locs ls (by omega) (by omega) (by omega) hub.next ?_ hM hI (lv_sub hl [0, 2, 3, 4, 5, 6] rfl)
                    rw [ev_s (fun i => L (140 * a + i)) j, Int.add_mul]
                    exact hv4
                  · refine mv_aload_n B dX3_multiply_62 rfl (lv_at hl 3 rfl) ?_
                    refine mv_iload_n B dX3_multiply_63 rfl (lv_at hl 5 rfl) ?_
                    refine mv_iload B dX3_multiply_64 (lv_at hl 1 rfl) ?_
                    refine mw_calli hI hA (va_runV (As := [.int (iI ((a : Int))), .int (iI (i))]) (rest := []) B.fix (t_X3_at l D kA H.size f (r := a) (k := j) hM.self hL (by omega) (by omega) (by omega) (by omega)) (cwV 2 B.2.2.2.2.1 (gV kw_371 kw_373 ks_18 kw_4 kw_374) rfl rfl rfl (by decide +kernel) ⟨Nat.le_of_ble_eq_true rfl, Nat.le_of_ble_eq_true rfl⟩) ⟨mw_blind st_S.blind, mw_recv B hI hM.1 rfl, mw_pre B hI (hSt.call hI hA)⟩ rfl rfl hl.1 rfl (lv_room (Nat.le_of_ble_eq_true rfl)) dX3_multiply_66 ⟨Nat.le_of_ble_eq_true rfl, Nat.le_of_ble_eq_true rfl⟩) (fun r f H locs hp hI2 => ?_)
                    clear hI
                    have hI := hI2
                    clear hI2
                    obtain ⟨rfl, rfl⟩ := hp
                    refine mv_if_eq (tgt := 108) B dX3_multiply_69 (by decide) (by omega) (fun hd5 => ?_) (fun hd5 => ?_)
                    · refine mv_iinc (k := 1) (lv' := [(5, .int (iI (i + 1))), (6, .int (iI (i2))), (4, .int (iI (sg))), (0, .ref o), (1, .int (iI ((t : Int)))), (2, .int (iI ((a : Int)))), (3, .int (iI ((b : Int))))]) B dX3_multiply_108 hl rfl (by decide) rfl (fun ls hl => ?_)
                      refine mv_goto (tgt := 43) B dX3_multiply_111 (by decide) ?_
                      refine ih1 (j + 1) _ U f H locs ls (by omega) (by omega) (by omega) hub.next ?_ hM hI (lv_sub hl [0, 2, 3, 4, 5, 6] rfl)
                      rw [ev_s (fun i => L (140 * a + i)) j, Int.add_mul]
                      rw [hd5, Int.zero_mul, Int.zero_mul, Int.add_zero] at hv4; rw [hd5, Int.zero_mul, Int.zero_mul, Int.add_zero]; exact hv4
                    · have lb := hL (140 * b + k) (by omega)
                      refine mv_aload_n B dX3_multiply_72 rfl (lv_at hl 3 rfl) ?_
                      refine mw_get (C := RX3) (T := TX3) (N := 4) B hI hM.1 uin_X3 rfl 2 (by decide) kw_383 rfl dX3_multiply_73 ?_
                      refine mv_iload B dX3_multiply_76 (lv_at hl 1 rfl) ?_
                      refine mv_iload B dX3_multiply_78 (lv_at hl 0 rfl) ?_
                      refine mv_iadd B dX3_multiply_80 ?_
                      refine mv_dup2 B dX3_multiply_81 rfl rfl ?_
                      refine md_Uld B hI hM (j + k) (by omega) (by omega) dX3_multiply_82 ?_
                      refine mv_aload_n B dX3_multiply_83 rfl (lv_at hl 3 rfl) ?_
                      refine mv_iload_n B dX3_multiply_84 rfl (lv_at hl 5 rfl) ?_
                      refine mv_iload B dX3_multiply_85 (lv_at hl 1 rfl) ?_
                      refine mw_calli hI hA (va_runV (As := [.int (iI ((a : Int))), .int (iI (i))]) (rest := [.long (lI (U (j + k))), .int (iI ((i) + (i2))), .ref su]) B.fix (t_X3_at l D kA H.size f (r := a) (k := j) hM.self hL (by omega) (by omega) (by omega) (by omega)) (cwV 2 B.2.2.2.2.1 (gV kw_371 kw_373 ks_18 kw_4 kw_374) rfl rfl rfl (by decide +kernel) ⟨Nat.le_of_ble_eq_true rfl, Nat.le_of_ble_eq_true rfl⟩) ⟨mw_blind st_S.blind, mw_recv B hI hM.1 rfl, mw_pre B hI (hSt.call hI hA)⟩ rfl rfl hl.1 rfl (lv_room (Nat.le_of_ble_eq_true rfl)) dX3_multiply_87 ⟨Nat.le_of_ble_eq_true rfl, Nat.le_of_ble_eq_true rfl⟩) (fun r f H locs hp hI2 => ?_)
                      clear hI
                      have hI := hI2
                      clear hI2
                      obtain ⟨rfl, rfl⟩ := hp
                      refine mv_i2l B dX3_multiply_90 (by omega) ?_
                      refine mv_aload_n B dX3_multiply_91 rfl (lv_at hl 3 rfl) ?_
                      refine mv_iload_n B dX3_multiply_92 rfl (lv_at hl 6 rfl) ?_
                      refine mv_iload B dX3_multiply_93 (lv_at hl 0 rfl) ?_
                      refine mw_calli hI hA (va_runV (As := [.int (iI ((b : Int))), .int (iI (i2))]) (rest := [.long (lI (L (140 * a + j))), .long (lI (U (j + k))), .int (iI ((i) + (i2))), .ref su]) B.fix (t_X3_at l D kA H.size f (r := b) (k := k) hM.self hL (by omega) (by omega) (by omega) (by omega)) (cwV 2 B.2.2.2.2.1 (gV kw_371 kw_373 ks_18 kw_4 kw_374) rfl rfl rfl (by decide +kernel) ⟨Nat.le_of_ble_eq_true rfl, Nat.le_of_ble_eq_true rfl⟩) ⟨mw_blind st_S.blind, mw_recv B hI hM.1 rfl, mw_pre B hI (hSt.call hI hA)⟩ rfl rfl hl.1 rfl (lv_room (Nat.le_of_ble_eq_true rfl)) dX3_multiply_95 ⟨Nat.le_of_ble_eq_true rfl, Nat.le_of_ble_eq_true rfl⟩) (fun r f H locs hp hI2 => ?_)
                      clear hI
                      have hI := hI2
                      clear hI2
                      obtain ⟨rfl, rfl⟩ := hp
                      refine mv_i2l B dX3_multiply_98 (by omega) ?_
                      refine mv_lmul B dX3_multiply_99 ?_
                      refine mv_ladd B dX3_multiply_100 ?_
                      refine md_U B hI hM (j + k) (by omega) (by omega) dX3_multiply_101 (fun f H locs hM hI => ?_)
                      refine mv_iinc (k := 0) (lv' := [(6, .int (iI (i2 + 1))), (5, .int (iI (i))), (4, .int (iI (sg))), (0, .ref o), (1, .int (iI ((t : Int)))), (2, .int (iI ((a : Int)))), (3, .int (iI ((b : Int))))]) B dX3_multiply_102 hl rfl (by decide) rfl (fun ls hl => ?_)
                      refine mv_goto (tgt := 54) B dX3_multiply_105 (by decide) ?_
                      refine ih (k + 1) _ _ f H locs ls (by omega) (by omega) (by omega) (hub.up (by omega) la lb) ?_ hM hI (lv_sub hl [0, 1, 2, 3, 4, 5, 6] rfl)
                      rw [ev_s]
                      exact mu_step (by omega) (by omega) hv4
              exact loop4 141 0 _ U f H locs ls (by decide) rfl (by decide) hb0.start (by rw [ev_0, Int.mul_zero, Int.add_zero]; exact hv) hM hI (lv_sub hl [0, 1, 2, 3, 4, 5, 6] rfl)
        exact loop2 141 0 _ U f H locs ls (by decide) rfl (by decide) b0 (by rw [e0, ev_0, Int.zero_mul]) hM hI (lv_sub hl [0, 1, 2, 3, 4, 5] rfl)
      · refine mv_aload_n B dX3_multiply_26 rfl (lv_at hl 2 rfl) ?_
        refine mw_get (C := RX3) (T := TX3) (N := 4) B hI hM.1 uin_X3 rfl 2 (by decide) kw_383 rfl dX3_multiply_27 ?_
        refine mv_iload B dX3_multiply_30 (lv_at hl 0 rfl) ?_
        refine mv_lconst0 B dX3_multiply_32 ?_
        refine md_U B hI hM (j) (by omega) (by omega) dX3_multiply_33 (fun f H locs hM hI => ?_)
        refine mv_iinc (k := 0) (lv' := [(5, .int (iI (i + 1))), (4, .int (iI (sg))), (0, .ref o), (1, .int (iI ((t : Int)))), (2, .int (iI ((a : Int)))), (3, .int (iI ((b : Int))))]) B dX3_multiply_34 hl rfl (by decide) rfl (fun ls hl => ?_)
        refine mv_goto (tgt := 18) B dX3_multiply_37 (by decide) ?_
        refine ih (j + 1) _ _ f H locs ls (by omega) (by omega) (by omega) (fun i hi => ?_) hM hI (lv_sub hl [0, 1, 2, 3, 4, 5] rfl)
        by_cases q : i = j
        · rw [q, upI_self]
        · rw [upI_ne _ _ q]; exact hz i (by omega)
  exact loop1 281 0 _ U f s.heap [] ls (by decide) rfl (by decide) (fun i hi => absurd hi (by omega)) hM hI (lv_sub hl [0, 1, 2, 3, 4, 5] rfl)
abbrev rm_X3_compare : Room := { frames := 2, cells := 0, slots := 0, locals := 45 }
set_option maxHeartbeats 4000000 in
set_option maxRecDepth 100000 in
/-- compare -/
theorem t_X3_compare (l : Launch) (D : va_G) (kA : Nat → ClassId) (sz : Nat) (f0 : mw_M) {o li si su di : Nat} {L S G U : Nat → Int} {a b : Nat} {za zb : Int} {xa : Int} {xb : Int} (hM : MS kA f0 f0 o li si su di L S G U) (hL : lr L) (hxa : xa = (a : Int)) (hxb : xb = (b : Int)) (ha : a < 25) (hb : b < 25) (ka : mg L a = (za.natAbs : Int) ∧ S a = c3 za 0) (kb : mg L b = (zb.natAbs : Int) ∧ S b = c3 zb 0) : mw_Mi l yX3_compare (Cond.code yX3_compare cX3_compare 3 ((some .int)) :: gw) rm_X3_compare D vwCl (tyL kA) st_S [.ref o, .int (iI (xa)), .int (iI (xb))] f0 sz (fun v f => v = iI (c3 za zb) ∧ f = f0) 0 0 := by
  refine mw_ofi (cc := cX3_compare) (maxL := 3) (ret := (some .int)) (by decide) rfl (Nat.le_of_ble_eq_true rfl) ?_
  intro p e s m below meth c A ls Q hQ B hrt hnm hA hI hSt hl
  have hl : lv_has ls 3 [(0, .ref o), (1, .int (iI (xa))), (2, .int (iI (xb)))] := hl
  subst hxa
  subst hxb
  obtain ⟨f, hI, hM, hf⟩ : ∃ f, mw_I D vwCl A s s.heap [] f ∧ MS kA f0 f o li si su di L S G U ∧ f = f0 := ⟨f0, hI, hM, rfl⟩
  have s1 := c3_sg za
  have s2 := c3_sg zb
  refine mv_aload_n B dX3_compare_0 rfl (lv_at hl 0 rfl) ?_
  refine mw_get (C := RX3) (T := TX3) (N := 4) B hI hM.1 uin_X3 rfl 1 (by decide) kw_382 rfl dX3_compare_1 ?_
  refine mv_iload_n B dX3_compare_4 rfl (lv_at hl 1 rfl) ?_
  refine mw_iald B hI 0 hM.2.2.1 rfl (a) (by omega) (by omega) (by decide) dX3_compare_5 ?_
  refine mv_aload_n B dX3_compare_6 rfl (lv_at hl 0 rfl) ?_
  refine mw_get (C := RX3) (T := TX3) (N := 4) B hI hM.1 uin_X3 rfl 1 (by decide) kw_382 rfl dX3_compare_7 ?_
  refine mv_iload_n B dX3_compare_10 rfl (lv_at hl 2 rfl) ?_
  refine mw_iald B hI 0 hM.2.2.1 rfl (b) (by omega) (by omega) (by decide) dX3_compare_11 ?_
  refine mv_icmp_eq (tgt := 38) B dX3_compare_12 (by decide) (by omega) (fun hd1 => ?_) (fun hd1 => ?_)
  · refine mv_aload_n B dX3_compare_38 rfl (lv_at hl 0 rfl) ?_
    refine mw_get (C := RX3) (T := TX3) (N := 4) B hI hM.1 uin_X3 rfl 1 (by decide) kw_382 rfl dX3_compare_39 ?_
    refine mv_iload_n B dX3_compare_42 rfl (lv_at hl 1 rfl) ?_
    refine mw_iald B hI 0 hM.2.2.1 rfl (a) (by omega) (by omega) (by decide) dX3_compare_43 ?_
    refine mv_aload_n B dX3_compare_44 rfl (lv_at hl 0 rfl) ?_
    refine mv_iload_n B dX3_compare_45 rfl (lv_at hl 1 rfl) ?_
    refine mv_iload_n B dX3_compare_46 rfl (lv_at hl 2 rfl) ?_
    refine mw_calli hI hA (va_runV (As := [.int (iI ((a : Int))), .int (iI ((b : Int)))]) (rest := [.int (iI (S (a)))]) B.fix (t_X3_sizes l D kA s.heap.size f (a := a) (b := b) hM.self hL (by omega) (by omega) (by omega) (by omega)) (cwV 2 B.2.2.2.2.1 (gV kw_414 kw_416 ks_22 kw_4 kw_417) rfl rfl rfl (by decide +kernel) ⟨Nat.le_of_ble_eq_true rfl, Nat.le_of_ble_eq_true rfl⟩) ⟨mw_blind st_S.blind, mw_recv B hI hM.1 rfl, mw_pre B hI (hSt.call hI hA)⟩ rfl rfl hl.1 rfl (lv_room (Nat.le_of_ble_eq_true rfl)) dX3_compare_47 ⟨Nat.le_of_ble_eq_true rfl, Nat.le_of_ble_eq_true rfl⟩) (fun r f H locs hp hI2 => ?_)
    clear hI
    have hI := hI2
    clear hI2
    obtain ⟨rfl, rfl⟩ := hp
    refine mv_imul B dX3_compare_50 ?_
    rw [ka.1, kb.1, ka.2]
    exact mw_iret B hQ hrt hI ⟨congrArg iI (c3_same (by omega)), hf⟩ dX3_compare_51
  · refine mv_aload_n B dX3_compare_15 rfl (lv_at hl 0 rfl) ?_
    refine mw_get (C := RX3) (T := TX3) (N := 4) B hI hM.1 uin_X3 rfl 1 (by decide) kw_382 rfl dX3_compare_16 ?_
    refine mv_iload_n B dX3_compare_19 rfl (lv_at hl 1 rfl) ?_
    refine mw_iald B hI 0 hM.2.2.1 rfl (a) (by omega) (by omega) (by decide) dX3_compare_20 ?_
    refine mv_aload_n B dX3_compare_21 rfl (lv_at hl 0 rfl) ?_
    refine mw_get (C := RX3) (T := TX3) (N := 4) B hI hM.1 uin_X3 rfl 1 (by decide) kw_382 rfl dX3_compare_22 ?_
    refine mv_iload_n B dX3_compare_25 rfl (lv_at hl 2 rfl) ?_
    refine mw_iald B hI 0 hM.2.2.1 rfl (b) (by omega) (by omega) (by decide) dX3_compare_26 ?_
    refine mv_icmp_ge (tgt := 34) B dX3_compare_27 (by decide) (by omega) (fun hd2 => ?_) (fun hd2 => ?_)
    · refine mv_iconst B dX3_compare_34 ?_
      refine mv_goto (tgt := 51) B dX3_compare_35 (by decide) ?_
      exact mw_iret B hQ hrt hI ⟨by rw [c3_gt (by omega)], hf⟩ dX3_compare_51
    · refine mv_iconst B dX3_compare_30 ?_
      refine mv_goto (tgt := 51) B dX3_compare_31 (by decide) ?_
      exact mw_iret B hQ hrt hI ⟨by rw [c3_lt (by omega)], hf⟩ dX3_compare_51
