abbrev rm_X1_isZero : Room := { frames := 0, cells := 0, slots := 0, locals := 0 }
set_option maxHeartbeats 4000000 in
set_option maxRecDepth 100000 in
/-- isZero -/
theorem t_X1_isZero (l : Launch) (D : va_G) (kA : Nat → ClassId) (sz : Nat) (f0 : mw_M) {h r : Nat} {n b : Int} (hh : f0 h = some (wh r n b)) (hn : 0 ≤ n ∧ n ≤ 104) : mw_Mi l yX1_isZero (Cond.code yX1_isZero cX1_isZero 1 ((some .boolean)) :: gw) rm_X1_isZero D vwCl (tyL kA) st_S [.ref h] f0 sz (fun v f => v = iI (if n = 0 then 1 else 0) ∧ f = f0) 0 0 := by
  refine mw_ofi (cc := cX1_isZero) (maxL := 1) (ret := (some .boolean)) (by decide) rfl (Nat.le_of_ble_eq_true rfl) ?_
  intro p e s m below meth c A ls Q hQ B hrt hnm hA hI hSt hl
  have hl : lv_has ls 1 [(0, .ref h)] := hl
  obtain ⟨f, hI, hf⟩ : ∃ f, mw_I D vwCl A s s.heap [] f ∧ f = f0 := ⟨f0, hI, rfl⟩
  refine mv_aload_n B dX1_isZero_0 rfl (lv_at hl 0 rfl) ?_
  refine ww_size B hI (by rw [hf]; exact hh) uin_X1 kw_24 dX1_isZero_1 ?_
  refine mv_if_ne (tgt := 11) B dX1_isZero_4 (by decide) (by omega) (fun hc => ?_) (fun hc => ?_)
  · refine mv_iconst B dX1_isZero_11 ?_
    exact mw_zret B hQ hrt (by decide) hI ⟨by rw [if_neg hc], hf⟩ dX1_isZero_12
  · refine mv_iconst B dX1_isZero_7 ?_
    refine mv_goto (tgt := 12) B dX1_isZero_8 (by decide) ?_
    exact mw_zret B hQ hrt (by decide) hI ⟨by rw [if_pos hc], hf⟩ dX1_isZero_12
abbrev rm_X1_isTooLong : Room := { frames := 0, cells := 0, slots := 0, locals := 0 }
set_option maxHeartbeats 4000000 in
set_option maxRecDepth 100000 in
/-- isTooLong -/
theorem t_X1_isTooLong (l : Launch) (D : va_G) (kA : Nat → ClassId) (sz : Nat) (f0 : mw_M) {h r : Nat} {n b : Int} (hh : f0 h = some (wh r n b)) (hn : 0 ≤ n ∧ n ≤ 104) : mw_Mi l yX1_isTooLong (Cond.code yX1_isTooLong cX1_isTooLong 1 ((some .boolean)) :: gw) rm_X1_isTooLong D vwCl (tyL kA) st_S [.ref h] f0 sz (fun v f => v = iI (if n ≤ 50 then 0 else 1) ∧ f = f0) 0 0 := by
  refine mw_ofi (cc := cX1_isTooLong) (maxL := 1) (ret := (some .boolean)) (by decide) rfl (Nat.le_of_ble_eq_true rfl) ?_
  intro p e s m below meth c A ls Q hQ B hrt hnm hA hI hSt hl
  have hl : lv_has ls 1 [(0, .ref h)] := hl
  obtain ⟨f, hI, hf⟩ : ∃ f, mw_I D vwCl A s s.heap [] f ∧ f = f0 := ⟨f0, hI, rfl⟩
  refine mv_aload_n B dX1_isTooLong_0 rfl (lv_at hl 0 rfl) ?_
  refine ww_size B hI (by rw [hf]; exact hh) uin_X1 kw_24 dX1_isTooLong_1 ?_
  refine mv_bipush B dX1_isTooLong_4 (by decide) ?_
  refine mv_icmp_le (tgt := 13) B dX1_isTooLong_6 (by decide) (by omega) (fun hc => ?_) (fun hc => ?_)
  · refine mv_iconst B dX1_isTooLong_13 ?_
    exact mw_zret B hQ hrt (by decide) hI ⟨by rw [if_pos hc], hf⟩ dX1_isTooLong_14
  · refine mv_iconst B dX1_isTooLong_9 ?_
    refine mv_goto (tgt := 14) B dX1_isTooLong_10 (by decide) ?_
    exact mw_zret B hQ hrt (by decide) hI ⟨by rw [if_neg hc], hf⟩ dX1_isTooLong_14
abbrev rm_X1_turnSign : Room := { frames := 0, cells := 0, slots := 0, locals := 0 }
set_option maxHeartbeats 4000000 in
set_option maxRecDepth 100000 in
/-- turnSign -/
theorem t_X1_turnSign (l : Launch) (D : va_G) (kA : Nat → ClassId) (sz : Nat) (f0 : mw_M) {h r : Nat} {g : Nat → Int} {n b : Int} (hh : f0 h = some (wh r n b)) (hr : f0 r = some (mw_ar (kA 0) 104 g)) (hn : 0 ≤ n ∧ n ≤ 104) (hb : b = 0 ∨ b = 1) : mw_Mv l yX1_turnSign (Cond.code yX1_turnSign cX1_turnSign 1 (none) :: gw) rm_X1_turnSign D vwCl (tyL kA) st_S [.ref h] f0 sz (fun f => wSt (kA 0) f0 h r f g n (if b = 0 ∧ 0 < n then 1 else 0)) 0 0 := by
  refine mw_ofv (cc := cX1_turnSign) (maxL := 1) (ret := none) (by decide) rfl (Nat.le_of_ble_eq_true rfl) ?_
  intro p e s m below meth c A ls Q hQ B hrt hnm hA hI hSt hl
  have hl : lv_has ls 1 [(0, .ref h)] := hl
  obtain ⟨f, hI, hT⟩ : ∃ f, mw_I D vwCl A s s.heap [] f ∧ wSt (kA 0) f0 h r f g n b := ⟨f0, hI, wSt.self hh hr⟩
  refine mv_aload_n B dX1_turnSign_0 rfl (lv_at hl 0 rfl) ?_
  refine mv_aload_n B dX1_turnSign_1 rfl (lv_at hl 0 rfl) ?_
  refine ww_below B hI hT.1 uin_X1 kw_26 dX1_turnSign_2 ?_
  refine mv_if_ne (tgt := 19) B dX1_turnSign_5 (by decide) (by omega) (fun hc => ?_) (fun hc => ?_)
  · refine mv_iconst B dX1_turnSign_19 ?_
    refine ww_putb B hI hT (by decide) uin_X1 kw_26 dX1_turnSign_20 (fun f H locs hT hI => ?_)
    exact mw_vret B hQ hrt hI (by rw [if_neg (by omega)]; exact hT) dX1_turnSign_23
  · refine mv_aload_n B dX1_turnSign_8 rfl (lv_at hl 0 rfl) ?_
    refine ww_size B hI hT.1 uin_X1 kw_24 dX1_turnSign_9 ?_
    refine mv_if_le (tgt := 19) B dX1_turnSign_12 (by decide) (by omega) (fun hc2 => ?_) (fun hc2 => ?_)
    · refine mv_iconst B dX1_turnSign_19 ?_
      refine ww_putb B hI hT (by decide) uin_X1 kw_26 dX1_turnSign_20 (fun f H locs hT hI => ?_)
      exact mw_vret B hQ hrt hI (by rw [if_neg (by omega)]; exact hT) dX1_turnSign_23
    · refine mv_iconst B dX1_turnSign_15 ?_
      refine mv_goto (tgt := 20) B dX1_turnSign_16 (by decide) ?_
      refine ww_putb B hI hT (by decide) uin_X1 kw_26 dX1_turnSign_20 (fun f H locs hT hI => ?_)
      exact mw_vret B hQ hrt hI (by rw [if_pos (by omega)]; exact hT) dX1_turnSign_23
abbrev rm_X1_trimTo : Room := { frames := 0, cells := 0, slots := 0, locals := 0 }
set_option maxHeartbeats 4000000 in
set_option maxRecDepth 100000 in
/-- trimTo: the size falls to the highest part that is not 0 -/
theorem t_X1_trimTo (l : Launch) (D : va_G) (kA : Nat → ClassId) (sz : Nat) (f0 : mw_M) {h r : Nat} {g : Nat → Int} {n b : Int} {k : Nat} (hh : f0 h = some (wh r n b)) (hr : f0 r = some (mw_ar (kA 0) 104 g)) (hk : k ≤ 104) (hg : dg g k) : mw_Mv l yX1_trimTo (Cond.code yX1_trimTo cX1_trimTo 3 (none) :: gw) rm_X1_trimTo D vwCl (tyL kA) st_S [.ref h, .int (iI ((k : Int)))] f0 sz (fun f => ∃ n' : Nat, n' ≤ k ∧ (∀ i, n' ≤ i → i < k → g i = 0) ∧ (0 < n' → g (n' - 1) ≠ 0) ∧ wSt (kA 0) f0 h r f g (n' : Int) (if n' = 0 then 0 else b)) 0 0 := by
  refine mw_ofv (cc := cX1_trimTo) (maxL := 3) (ret := none) (by decide) rfl (Nat.le_of_ble_eq_true rfl) ?_
  intro p e s m below meth c A ls Q hQ B hrt hnm hA hI hSt hl
  have hl : lv_has ls 3 [(0, .ref h), (1, .int (iI ((k : Int))))] := hl
  obtain ⟨f, hI, hT⟩ : ∃ f, mw_I D vwCl A s s.heap [] f ∧ wSt (kA 0) f0 h r f g n b := ⟨f0, hI, wSt.self hh hr⟩
  refine mv_iload_n B dX1_trimTo_0 rfl (lv_at hl 1 rfl) ?_
  refine mv_istore_n (lv' := [(2, .int (iI ((k : Int)))), (0, .ref h), (1, .int (iI ((k : Int))))]) B dX1_trimTo_1 rfl hl (by decide) rfl (fun ls hl => ?_)
  have loop : ∀ (μ j : Nat) (x : Int) (ls : Array Slot), j < μ → x = (j : Int) → j ≤ k → (∀ i, j ≤ i → i < k → g i = 0) → lv_has ls 3 [(2, .int (iI x)), (0, .ref h), (1, .int (iI (k : Int)))] → W p l e rm_X1_trimTo s m ([.ref h, .int (iI ((k : Int)))] : List Value).toArray below meth c s.heap [] 0 0 Q (F0 m 2 ls []) := by
    intro μ
    induction μ with
    | zero => intro j x ls hμ; exact absurd hμ (Nat.not_lt_zero _)
    | succ μ ih =>
      intro j x ls hμ hx hj hz hl
      refine mv_iload_n B dX1_trimTo_2 rfl (lv_at hl 0 rfl) ?_
      refine mv_if_le (tgt := 23) B dX1_trimTo_3 (by decide) (by omega) (fun hc => ?_) (fun hc => ?_)
      · refine mv_aload_n B dX1_trimTo_23 rfl (lv_at hl 1 rfl) ?_
        refine mv_iload_n B dX1_trimTo_24 rfl (lv_at hl 0 rfl) ?_
        refine ww_puts B hI hT uin_X1 kw_24 dX1_trimTo_25 (fun f H locs hT hI => ?_)
        refine mv_iload_n B dX1_trimTo_28 rfl (lv_at hl 0 rfl) ?_
        refine mv_if_ne (tgt := 37) B dX1_trimTo_29 (by decide) (by omega) (fun hc3 => ?_) (fun hc3 => ?_)
        · exact mw_vret B hQ hrt hI ⟨j, hj, hz, (fun q => absurd q (by omega)), by rw [if_neg (by omega)]; rw [hx] at hT; exact hT⟩ dX1_trimTo_37
        · refine mv_aload_n B dX1_trimTo_32 rfl (lv_at hl 1 rfl) ?_
          refine mv_iconst B dX1_trimTo_33 ?_
          refine ww_putb B hI hT (by decide) uin_X1 kw_26 dX1_trimTo_34 (fun f H locs hT hI => ?_)
          exact mw_vret B hQ hrt hI ⟨j, hj, hz, (fun q => absurd q (by omega)), by rw [if_pos (by omega)]; rw [hx] at hT; exact hT⟩ dX1_trimTo_37
      · have hg1 := hg (j - 1) (by omega)
        refine mv_aload_n B dX1_trimTo_6 rfl (lv_at hl 1 rfl) ?_
        refine ww_parts B hI hT.1 uin_X1 kw_22 dX1_trimTo_7 ?_
        refine mv_iload_n B dX1_trimTo_10 rfl (lv_at hl 0 rfl) ?_
        refine mv_iconst B dX1_trimTo_11 ?_
        refine mv_isub B dX1_trimTo_12 ?_
        refine mw_iald B hI 0 hT.2.1 rfl (j - 1) (by omega) (by omega) (by decide) dX1_trimTo_13 ?_
        refine mv_if_ne (tgt := 23) B dX1_trimTo_14 (by decide) (by omega) (fun hc2 => ?_) (fun hc2 => ?_)
        · refine mv_aload_n B dX1_trimTo_23 rfl (lv_at hl 1 rfl) ?_
          refine mv_iload_n B dX1_trimTo_24 rfl (lv_at hl 0 rfl) ?_
          refine ww_puts B hI hT uin_X1 kw_24 dX1_trimTo_25 (fun f H locs hT hI => ?_)
          refine mv_iload_n B dX1_trimTo_28 rfl (lv_at hl 0 rfl) ?_
          refine mv_if_ne (tgt := 37) B dX1_trimTo_29 (by decide) (by omega) (fun hc3 => ?_) (fun hc3 => ?_)
          · exact mw_vret B hQ hrt hI ⟨j, hj, hz, (fun _ => hc2), by rw [if_neg (by omega)]; rw [hx] at hT; exact hT⟩ dX1_trimTo_37
          · refine mv_aload_n B dX1_trimTo_32 rfl (lv_at hl 1 rfl) ?_
            refine mv_iconst B dX1_trimTo_33 ?_
            refine ww_putb B hI hT (by decide) uin_X1 kw_26 dX1_trimTo_34 (fun f H locs hT hI => ?_)
            exact mw_vret B hQ hrt hI ⟨j, hj, hz, (fun _ => hc2), by rw [if_pos (by omega)]; rw [hx] at hT; exact hT⟩ dX1_trimTo_37
        · refine mv_iinc (k := 0) (lv' := [(2, .int (iI (x + (-1)))), (0, .ref h), (1, .int (iI ((k : Int))))]) B dX1_trimTo_17 hl rfl (by decide) rfl (fun ls hl => ?_)
          refine mv_goto (tgt := 2) B dX1_trimTo_20 (by decide) ?_
          refine ih (j - 1) _ ls (by omega) (by omega) (by omega) (fun i h1 h2 => ?_) hl
          rcases Nat.lt_or_ge i j with q | q
          · rw [show i = j - 1 by omega]; exact hc2
          · exact hz i q h2
  exact loop (k + 1) k _ ls (Nat.lt_succ_self k) rfl (Nat.le_refl k) (fun i h1 h2 => absurd h1 (by omega)) hl
abbrev rm_X1_partOrZero : Room := { frames := 0, cells := 0, slots := 0, locals := 0 }
set_option maxHeartbeats 4000000 in
set_option maxRecDepth 100000 in
/-- partOrZero -/
theorem t_X1_partOrZero (l : Launch) (D : va_G) (kA : Nat → ClassId) (sz : Nat) (f0 : mw_M) {h r : Nat} {g : Nat → Int} {k : Nat} {b : Int} {x : Int} (hh : f0 h = some (wh r (k : Int) b)) (hr : f0 r = some (mw_ar (kA 0) 104 g)) (hk : k ≤ 104) (hx : -2147483648 ≤ x ∧ x ≤ 2147483647) : mw_Mi l yX1_partOrZero (Cond.code yX1_partOrZero cX1_partOrZero 2 ((some .int)) :: gw) rm_X1_partOrZero D vwCl (tyL kA) st_S [.ref h, .int (iI (x))] f0 sz (fun v f => v = iI (if x < 0 then 0 else pz g k x.toNat) ∧ f = f0) 0 0 := by
  refine mw_ofi (cc := cX1_partOrZero) (maxL := 2) (ret := (some .int)) (by decide) rfl (Nat.le_of_ble_eq_true rfl) ?_
  intro p e s m below meth c A ls Q hQ B hrt hnm hA hI hSt hl
  have hl : lv_has ls 2 [(0, .ref h), (1, .int (iI (x)))] := hl
  obtain ⟨f, hI, hf⟩ : ∃ f, mw_I D vwCl A s s.heap [] f ∧ f = f0 := ⟨f0, hI, rfl⟩
  refine mv_iload_n B dX1_partOrZero_0 rfl (lv_at hl 1 rfl) ?_
  refine mv_if_lt (tgt := 21) B dX1_partOrZero_1 (by decide) (by omega) (fun hc => ?_) (fun hc => ?_)
  · refine mv_iconst B dX1_partOrZero_21 ?_
    exact mw_iret B hQ hrt hI ⟨by rw [if_pos hc], hf⟩ dX1_partOrZero_22
  · refine mv_iload_n B dX1_partOrZero_4 rfl (lv_at hl 1 rfl) ?_
    refine mv_aload_n B dX1_partOrZero_5 rfl (lv_at hl 0 rfl) ?_
    refine ww_size B hI (by rw [hf]; exact hh) uin_X1 kw_24 dX1_partOrZero_6 ?_
    refine mv_icmp_ge (tgt := 21) B dX1_partOrZero_9 (by decide) (by omega) (fun hc2 => ?_) (fun hc2 => ?_)
    · refine mv_iconst B dX1_partOrZero_21 ?_
      exact mw_iret B hQ hrt hI ⟨by rw [if_neg hc, pz_ge (by omega)], hf⟩ dX1_partOrZero_22
    · refine mv_aload_n B dX1_partOrZero_12 rfl (lv_at hl 0 rfl) ?_
      refine ww_parts B hI (by rw [hf]; exact hh) uin_X1 kw_22 dX1_partOrZero_13 ?_
      refine mv_iload_n B dX1_partOrZero_16 rfl (lv_at hl 1 rfl) ?_
      refine mw_iald B hI 0 (by rw [hf]; exact hr) rfl (x.toNat) (by omega) (by omega) (by decide) dX1_partOrZero_17 ?_
      refine mv_goto (tgt := 22) B dX1_partOrZero_18 (by decide) ?_
      exact mw_iret B hQ hrt hI ⟨by rw [if_neg hc, pz_lt (by omega)], hf⟩ dX1_partOrZero_22
abbrev rm_X1_compareParts : Room := { frames := 0, cells := 0, slots := 0, locals := 0 }
set_option maxHeartbeats 4000000 in
set_option maxRecDepth 100000 in
/-- compareParts -/
theorem t_X1_compareParts (l : Launch) (D : va_G) (kA : Nat → ClassId) (sz : Nat) (f0 : mw_M) {h r x rx : Nat} {g gx : Nat → Int} {n nx : Nat} {b bx : Int} (hh : f0 h = some (wh r (n : Int) b)) (hr : f0 r = some (mw_ar (kA 0) 104 g)) (hx : f0 x = some (wh rx (nx : Int) bx)) (hxr : f0 rx = some (mw_ar (kA 0) 104 gx)) (hc1 : cn g n) (hc2 : cn gx nx) : mw_Mi l yX1_compareParts (Cond.code yX1_compareParts cX1_compareParts 3 ((some .int)) :: gw) rm_X1_compareParts D vwCl (tyL kA) st_S [.ref h, .ref x] f0 sz (fun v f => v = iI (c3 (dv g n) (dv gx nx)) ∧ f = f0) 0 0 := by
  refine mw_ofi (cc := cX1_compareParts) (maxL := 3) (ret := (some .int)) (by decide) rfl (Nat.le_of_ble_eq_true rfl) ?_
  intro p e s m below meth c A ls Q hQ B hrt hnm hA hI hSt hl
  have hl : lv_has ls 3 [(0, .ref h), (1, .ref x)] := hl
  obtain ⟨f, hI, hf⟩ : ∃ f, mw_I D vwCl A s s.heap [] f ∧ f = f0 := ⟨f0, hI, rfl⟩
  have hh1 : f h = some (wh r (n : Int) b) := by rw [hf]; exact hh
  have hr1 : f r = some (mw_ar (kA 0) 104 g) := by rw [hf]; exact hr
  have hx1 : f x = some (wh rx (nx : Int) bx) := by rw [hf]; exact hx
  have hxr1 : f rx = some (mw_ar (kA 0) 104 gx) := by rw [hf]; exact hxr
  have hn1 := hc1.1
  have hn2 := hc2.1
  refine mv_aload_n B dX1_compareParts_0 rfl (lv_at hl 0 rfl) ?_
  refine ww_size B hI hh1 uin_X1 kw_24 dX1_compareParts_1 ?_
  refine mv_aload_n B dX1_compareParts_4 rfl (lv_at hl 1 rfl) ?_
  refine ww_size B hI hx1 uin_X1 kw_24 dX1_compareParts_5 ?_
  refine mv_icmp_eq (tgt := 28) B dX1_compareParts_8 (by decide) (by omega) (fun hc => ?_) (fun hc => ?_)
  · obtain rfl : n = nx := by omega
    refine mv_aload_n B dX1_compareParts_28 rfl (lv_at hl 0 rfl) ?_
    refine ww_size B hI hh1 uin_X1 kw_24 dX1_compareParts_29 ?_
    refine mv_iconst B dX1_compareParts_32 ?_
    refine mv_isub B dX1_compareParts_33 ?_
    refine mv_istore_n (lv' := [(2, .int (iI (((n : Int)) - (1)))), (0, .ref h), (1, .ref x)]) B dX1_compareParts_34 rfl hl (by decide) rfl (fun ls hl => ?_)
    have loop : ∀ (μ j : Nat) (y : Int) (ls : Array Slot), j < μ → y = (j : Int) - 1 → j ≤ n → (∀ i, j ≤ i → i < n → g i = gx i) → lv_has ls 3 [(2, .int (iI y)), (0, .ref h), (1, .ref x)] → W p l e rm_X1_compareParts s m ([.ref h, .ref x] : List Value).toArray below meth c s.heap [] 0 0 Q (F0 m 35 ls []) := by
      intro μ
      induction μ with
      | zero => intro j y ls hμ; exact absurd hμ (Nat.not_lt_zero _)
      | succ μ ih =>
        intro j y ls hμ hy hj hz hl
        refine mv_iload_n B dX1_compareParts_35 rfl (lv_at hl 0 rfl) ?_
        refine mv_if_lt (tgt := 81) B dX1_compareParts_36 (by decide) (by omega) (fun hd0 => ?_) (fun hd0 => ?_)
        · refine mv_iconst B dX1_compareParts_81 ?_
          exact mw_iret B hQ hrt hI ⟨by rw [c3_eq (dv_congr (fun i hi => hz i (by omega) hi))], hf⟩ dX1_compareParts_82
        · have hg1 := hc1.2.1 (j - 1) (by omega)
          have hg2 := hc2.2.1 (j - 1) (by omega)
          refine mv_aload_n B dX1_compareParts_39 rfl (lv_at hl 1 rfl) ?_
          refine ww_parts B hI hh1 uin_X1 kw_22 dX1_compareParts_40 ?_
          refine mv_iload_n B dX1_compareParts_43 rfl (lv_at hl 0 rfl) ?_
          refine mw_iald B hI 0 hr1 rfl (j - 1) (by omega) (by omega) (by decide) dX1_compareParts_44 ?_
          refine mv_aload_n B dX1_compareParts_45 rfl (lv_at hl 2 rfl) ?_
          refine ww_parts B hI hx1 uin_X1 kw_22 dX1_compareParts_46 ?_
          refine mv_iload_n B dX1_compareParts_49 rfl (lv_at hl 0 rfl) ?_
          refine mw_iald B hI 0 hxr1 rfl (j - 1) (by omega) (by omega) (by decide) dX1_compareParts_50 ?_
          refine mv_icmp_eq (tgt := 75) B dX1_compareParts_51 (by decide) (by omega) (fun hd => ?_) (fun hd => ?_)
          · refine mv_iinc (k := 0) (lv' := [(2, .int (iI (y + (-1)))), (0, .ref h), (1, .ref x)]) B dX1_compareParts_75 hl rfl (by decide) rfl (fun ls hl => ?_)
            refine mv_goto (tgt := 35) B dX1_compareParts_78 (by decide) ?_
            refine ih (j - 1) _ ls (by omega) (by omega) (by omega) (fun i h1 h2 => ?_) hl
            rcases Nat.lt_or_ge i j with q | q
            · rw [show i = j - 1 by omega]; exact hd
            · exact hz i q h2
          · refine mv_aload_n B dX1_compareParts_54 rfl (lv_at hl 1 rfl) ?_
            refine ww_parts B hI hh1 uin_X1 kw_22 dX1_compareParts_55 ?_
            refine mv_iload_n B dX1_compareParts_58 rfl (lv_at hl 0 rfl) ?_
            refine mw_iald B hI 0 hr1 rfl (j - 1) (by omega) (by omega) (by decide) dX1_compareParts_59 ?_
            refine mv_aload_n B dX1_compareParts_60 rfl (lv_at hl 2 rfl) ?_
            refine ww_parts B hI hx1 uin_X1 kw_22 dX1_compareParts_61 ?_
            refine mv_iload_n B dX1_compareParts_64 rfl (lv_at hl 0 rfl) ?_
            refine mw_iald B hI 0 hxr1 rfl (j - 1) (by omega) (by omega) (by decide) dX1_compareParts_65 ?_
            refine mv_icmp_ge (tgt := 73) B dX1_compareParts_66 (by decide) (by omega) (fun he => ?_) (fun he => ?_)
            · refine mv_iconst B dX1_compareParts_73 ?_
              exact mw_iret B hQ hrt hI ⟨by rw [c3_gt (dv_cmp hc2.2.1 hc1.2.1 (k := j - 1) (by omega) (fun i h1 h2 => (hz i (by omega) h2).symm) (by omega))], hf⟩ dX1_compareParts_74
            · refine mv_iconst B dX1_compareParts_69 ?_
              refine mv_goto (tgt := 74) B dX1_compareParts_70 (by decide) ?_
              exact mw_iret B hQ hrt hI ⟨by rw [c3_lt (dv_cmp hc1.2.1 hc2.2.1 (k := j - 1) (by omega) (fun i h1 h2 => hz i (by omega) h2) (by omega))], hf⟩ dX1_compareParts_74
    exact loop (n + 1) n _ ls (Nat.lt_succ_self n) rfl (Nat.le_refl n) (fun i h1 h2 => absurd h1 (by omega)) hl
  · refine mv_aload_n B dX1_compareParts_11 rfl (lv_at hl 0 rfl) ?_
    refine ww_size B hI hh1 uin_X1 kw_24 dX1_compareParts_12 ?_
    refine mv_aload_n B dX1_compareParts_15 rfl (lv_at hl 1 rfl) ?_
    refine ww_size B hI hx1 uin_X1 kw_24 dX1_compareParts_16 ?_
    refine mv_icmp_ge (tgt := 26) B dX1_compareParts_19 (by decide) (by omega) (fun hd => ?_) (fun hd => ?_)
    · refine mv_iconst B dX1_compareParts_26 ?_
      exact mw_iret B hQ hrt hI ⟨by rw [c3_gt (hc2.lt hc1 (by omega))], hf⟩ dX1_compareParts_27
    · refine mv_iconst B dX1_compareParts_22 ?_
      refine mv_goto (tgt := 27) B dX1_compareParts_23 (by decide) ?_
      exact mw_iret B hQ hrt hI ⟨by rw [c3_lt (hc1.lt hc2 (by omega))], hf⟩ dX1_compareParts_27
