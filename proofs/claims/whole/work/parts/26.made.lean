abbrev rm_X1_init : Room := { frames := 1, cells := 1, slots := 104, locals := 24 }
set_option maxHeartbeats 4000000 in
set_option maxRecDepth 100000 in
/-- Whole(): a row comes -/
theorem t_X1_init (l : Launch) (D : va_G) (kA : Nat → ClassId) (sz : Nat) (f0 : mw_M) {h : Nat} (hh : f0 h = some (.inr (1, [.null, .int (iI 0), .int (iI 0)]))) : mw_Mv l yX1_init (Cond.code yX1_init cX1_init 1 (none) :: gw) rm_X1_init D vwCl (tyL kA) st_S [.ref h] f0 sz (fun f => ∃ r, f0 r = none ∧ r ≠ h ∧ f h = some (wh r 0 0) ∧ f r = some (mw_ar (kA 0) 104 (fun _ => 0)) ∧ ∀ q, q ≠ h → q ≠ r → f q = f0 q) 1 104 := by
  refine mw_ofv (cc := cX1_init) (maxL := 1) (ret := none) (by decide) rfl (Nat.le_of_ble_eq_true rfl) ?_
  intro p e s m below meth c A ls Q hQ B hrt hnm hA hI hSt hl
  have hl : lv_has ls 1 [(0, .ref h)] := hl
  refine mv_aload_n B dX1_init_0 rfl (lv_at hl 0 rfl) ?_
  refine mw_obj B hl.1 kw_21 kw_13 kw_14 (Nat.le_of_ble_eq_true rfl) (Nat.le_of_ble_eq_true rfl) dX1_init_1 ?_
  refine mv_aload_n B dX1_init_4 rfl (lv_at hl 0 rfl) ?_
  refine mv_bipush B dX1_init_5 (by decide) ?_
  refine mw_newi (N := 104) B hI hA kw_36 0 rfl (by decide) (Nat.le_of_ble_eq_true rfl) (Nat.le_of_ble_eq_true rfl) dX1_init_7 (fun r H hfr hI => ?_)
  have hrh : r ≠ h := fun q => by rw [q, hh] at hfr; cases hfr
  have h1 : mw_set f0 r (mw_ar (kA 0) 104 (fun _ => 0)) h = some (.inr (1, [.null, .int (iI 0), .int (iI 0)])) := by rw [mw_set_ne _ _ (Ne.symm hrh)]; exact hh
  refine mw_putF2 (C := RX1) (T := TX1) (N := 3) B hI h1 uin_X1 tyX1 tyX1_ok nmX1 rfl 0 (by decide) kw_22 rfl hnm rfl rfl rfl (Nat.le_of_ble_eq_true rfl) dX1_init_9 (fun f H locs hq1 ho1 hI => ?_)
  refine mv_aload_n B dX1_init_12 rfl (lv_at hl 0 rfl) ?_
  refine mv_iconst B dX1_init_13 ?_
  refine mw_put2 (C := RX1) (T := TX1) (N := 3) B hI hq1 uin_X1 tyX1 tyX1_ok nmX1 rfl 1 (by decide) kw_24 rfl rfl rfl (Nat.le_of_ble_eq_true rfl) dX1_init_14 (fun f H locs hq2 ho2 hI => ?_)
  refine mv_aload_n B dX1_init_17 rfl (lv_at hl 0 rfl) ?_
  refine mv_iconst B dX1_init_18 ?_
  refine mw_put2 (C := RX1) (T := TX1) (N := 3) B hI hq2 uin_X1 tyX1 tyX1_ok nmX1 rfl 2 (by decide) kw_26 rfl rfl rfl (Nat.le_of_ble_eq_true rfl) dX1_init_19 (fun f H locs hq3 ho3 hI => ?_)
  exact mw_vret B hQ hrt hI ⟨r, hfr, hrh, hq3, by rw [ho3 r hrh, ho2 r hrh, ho1 r hrh]; exact mw_set_self _ _ _, fun q a1 a2 => by rw [ho3 q a1, ho2 q a1, ho1 q a1]; exact mw_set_ne _ _ a2⟩ dX1_init_22
abbrev rm_X1_rootOfLong : Room := { frames := 0, cells := 0, slots := 0, locals := 0 }
set_option maxHeartbeats 4000000 in
set_option maxRecDepth 100000 in
/-- rootOfLong -/
theorem t_X1_rootOfLong (l : Launch) (D : va_G) (kA : Nat → ClassId) (sz : Nat) (f0 : mw_M) {z : Int} (hz : 0 ≤ z ∧ z < 1000000000000000000) : mw_Ml l yX1_rootOfLong (Cond.code yX1_rootOfLong cX1_rootOfLong 8 ((some .long)) :: gw) rm_X1_rootOfLong D vwCl (tyL kA) st_S [.long (lI (z))] f0 sz (fun v f => (∃ t, v = lI t ∧ 0 ≤ t ∧ t * t ≤ z ∧ z < (t + 1) * (t + 1) ∧ t < 1073741824) ∧ f = f0) 0 0 := by
  refine mw_ofl (cc := cX1_rootOfLong) (maxL := 8) (ret := (some .long)) (by decide) rfl (Nat.le_of_ble_eq_true rfl) ?_
  intro p e s m below meth c A ls Q hQ B hrt hnm hA hI hSt hl
  have hl : lv_has ls 8 [(0, .long (lI (z)))] := hl
  obtain ⟨f, hI, hf⟩ : ∃ f, mw_I D vwCl A s s.heap [] f ∧ f = f0 := ⟨f0, hI, rfl⟩
  refine mv_lconst0 B dX1_rootOfLong_0 ?_
  refine mv_lstore_n (lv' := [(2, .long (lI (0))), (0, .long (lI (z)))]) B dX1_rootOfLong_1 rfl hl (by decide) rfl (fun ls hl => ?_)
  refine mv_ldc2 (z := 536870912) B dX1_rootOfLong_2 kw_271 (by decide) ?_
  refine mv_lstore (lv' := [(4, .long (lI (536870912))), (2, .long (lI (0))), (0, .long (lI (z)))]) B dX1_rootOfLong_5 hl (by decide) rfl (fun ls hl => ?_)
  have loop : ∀ (μ : Nat) (j : Nat) (bi t : Int) (ls : Array Slot), j < μ → bi = bt_ j → j ≤ 30 → 0 ≤ t → t * t ≤ z → z < (t + 2 ^ j) * (t + 2 ^ j) → t + 2 ^ j ≤ 1073741824 → lv_has ls 8 [(4, .long (lI (bi))), (2, .long (lI (t))), (0, .long (lI (z)))] → W p l e rm_X1_rootOfLong s m ([.long (lI (z))] : List Value).toArray below meth c s.heap [] 0 0 Q (F0 m 7 ls []) := by
    intro μ
    induction μ with
    | zero => intro j bi t ls hμ; exact absurd hμ (Nat.not_lt_zero _)
    | succ μ ih =>
      intro j bi t ls hμ hbi hj h0 h1 h2 h3 hl
      have b0 := bt_in j hj
      refine mv_lload B dX1_rootOfLong_7 (lv_at hl 0 rfl) ?_
      refine mv_lconst0 B dX1_rootOfLong_9 ?_
      refine mv_lcmp_le (tgt := 42) B dX1_rootOfLong_10 dX1_rootOfLong_11 (by decide) (by omega) (fun hd0 => ?_) (fun hd0 => ?_)
      · obtain rfl : j = 0 := by have := b0.2.2; omega
        refine mv_lload_n B dX1_rootOfLong_42 rfl (lv_at hl 1 rfl) ?_
        exact mw_lret B hQ hrt hI ⟨⟨t, rfl, h0, h1, h2, by have e : (2 : Int) ^ 0 = 1 := rfl; omega⟩, hf⟩ dX1_rootOfLong_43
      · obtain ⟨k, rfl⟩ : ∃ k, j = k + 1 := ⟨j - 1, by have := b0.2.2; omega⟩
        rw [show bt_ (k + 1) = 2 ^ k from rfl] at hbi
        rw [Int.pow_succ] at h2 h3
        have p0 : (0 : Int) < 2 ^ k := Int.pow_pos (by decide)
        refine mv_lload_n B dX1_rootOfLong_14 rfl (lv_at hl 1 rfl) ?_
        refine mv_lload B dX1_rootOfLong_15 (lv_at hl 0 rfl) ?_
        refine mv_ladd B dX1_rootOfLong_17 ?_
        refine mv_nml (fun mo hmo => ?_)
        rw [hbi] at hmo
        have m1 : 0 ≤ mo ∧ mo ≤ 1073741824 := by omega
        have m2 : 0 ≤ mo * mo ∧ mo * mo ≤ 1152921504606846976 := ⟨Int.mul_nonneg m1.1 m1.1, by have := Int.mul_le_mul m1.2 m1.2 m1.1 (by decide); omega⟩
        refine mv_lstore (lv' := [(6, .long (lI (mo))), (4, .long (lI (bi))), (2, .long (lI (t))), (0, .long (lI (z)))]) B dX1_rootOfLong_18 hl (by decide) rfl (fun ls hl => ?_)
        refine mv_lload B dX1_rootOfLong_20 (lv_at hl 0 rfl) ?_
        refine mv_lload B dX1_rootOfLong_22 (lv_at hl 0 rfl) ?_
        refine mv_lmul B dX1_rootOfLong_24 ?_
        refine mv_lload_n B dX1_rootOfLong_25 rfl (lv_at hl 3 rfl) ?_
        refine mv_lcmp_gt (tgt := 33) B dX1_rootOfLong_26 dX1_rootOfLong_27 (by decide) (by omega) (fun hd1 => ?_) (fun hd1 => ?_)
        · refine mv_lload B dX1_rootOfLong_33 (lv_at hl 1 rfl) ?_
          refine mv_iconst B dX1_rootOfLong_35 ?_
          refine mv_lshr1 B dX1_rootOfLong_36 (by omega) ?_
          refine mv_lstore (lv' := [(4, .long (lI ((bi) / (2)))), (6, .long (lI (mo))), (2, .long (lI (t))), (0, .long (lI (z)))]) B dX1_rootOfLong_37 hl (by decide) rfl (fun ls hl => ?_)
          refine mv_goto (tgt := 7) B dX1_rootOfLong_39 (by decide) ?_
          exact ih k _ _ ls (by omega) (by rw [hbi]; exact bt_half k) (by omega) h0 h1 (by rw [← hmo]; omega) (by omega) (lv_sub hl [0, 2, 3] rfl)
        · refine mv_lload B dX1_rootOfLong_30 (lv_at hl 0 rfl) ?_
          refine mv_lstore_n (lv' := [(2, .long (lI (mo))), (6, .long (lI (mo))), (4, .long (lI (bi))), (0, .long (lI (z)))]) B dX1_rootOfLong_32 rfl hl (by decide) rfl (fun ls hl => ?_)
          refine mv_lload B dX1_rootOfLong_33 (lv_at hl 2 rfl) ?_
          refine mv_iconst B dX1_rootOfLong_35 ?_
          refine mv_lshr1 B dX1_rootOfLong_36 (by omega) ?_
          refine mv_lstore (lv' := [(4, .long (lI ((bi) / (2)))), (2, .long (lI (mo))), (6, .long (lI (mo))), (0, .long (lI (z)))]) B dX1_rootOfLong_37 hl (by decide) rfl (fun ls hl => ?_)
          refine mv_goto (tgt := 7) B dX1_rootOfLong_39 (by decide) ?_
          exact ih k _ _ ls (by omega) (by rw [hbi]; exact bt_half k) (by omega) m1.1 (by omega) (by rw [hmo, Int.add_assoc, show (2 : Int) ^ k + 2 ^ k = 2 ^ k * 2 by omega]; exact h2) (by omega) (lv_sub hl [0, 1, 3] rfl)
  have e30 : ((0 : Int) + 2 ^ 30) * (0 + 2 ^ 30) = 1152921504606846976 := by decide
  exact loop 31 30 _ _ ls (by decide) (by decide) (by decide) (by decide) (by omega) (by rw [e30]; omega) (by decide) (lv_sub hl [0, 1, 2] rfl)
abbrev rm_X1_clearParts : Room := { frames := 0, cells := 0, slots := 0, locals := 0 }
set_option maxHeartbeats 4000000 in
set_option maxRecDepth 100000 in
/-- clearParts -/
theorem t_X1_clearParts (l : Launch) (D : va_G) (kA : Nat → ClassId) (sz : Nat) (f0 : mw_M) {h r : Nat} {g : Nat → Int} {n b : Int} {a0 b0 : Nat} (hh : f0 h = some (wh r n b)) (hr : f0 r = some (mw_ar (kA 0) 104 g)) (h1 : a0 ≤ b0) (h2 : b0 ≤ 104) : mw_Mv l yX1_clearParts (Cond.code yX1_clearParts cX1_clearParts 4 (none) :: gw) rm_X1_clearParts D vwCl (tyL kA) st_S [.ref h, .int (iI ((a0 : Int))), .int (iI ((b0 : Int)))] f0 sz (fun f => ∃ g', wSt (kA 0) f0 h r f g' n b ∧ (∀ i, a0 ≤ i → i < b0 → g' i = 0) ∧ (∀ i, i < a0 ∨ b0 ≤ i → g' i = g i)) 0 0 := by
  refine mw_ofv (cc := cX1_clearParts) (maxL := 4) (ret := none) (by decide) rfl (Nat.le_of_ble_eq_true rfl) ?_
  intro p e s m below meth c A ls Q hQ B hrt hnm hA hI hSt hl
  have hl : lv_has ls 4 [(0, .ref h), (1, .int (iI ((a0 : Int)))), (2, .int (iI ((b0 : Int))))] := hl
  obtain ⟨f, hI, hT⟩ : ∃ f, mw_I D vwCl A s s.heap [] f ∧ wSt (kA 0) f0 h r f g n b := ⟨f0, hI, wSt.self hh hr⟩
  refine mv_iload_n B dX1_clearParts_0 rfl (lv_at hl 1 rfl) ?_
  refine mv_istore_n (lv' := [(3, .int (iI ((a0 : Int)))), (0, .ref h), (1, .int (iI ((a0 : Int)))), (2, .int (iI ((b0 : Int))))]) B dX1_clearParts_1 rfl hl (by decide) rfl (fun ls hl => ?_)
  have loop : ∀ (μ : Nat) (j : Nat) (i : Int) (g' : Nat → Int) (f : mw_M) (H : Heap) (locs : List Loc) (ls : Array Slot), b0 - j < μ → i = (j : Int) → a0 ≤ j → j ≤ b0 → (∀ i, a0 ≤ i → i < j → g' i = 0) → (∀ i, i < a0 ∨ j ≤ i → g' i = g i) → mw_I D vwCl A s H locs f → wSt (kA 0) f0 h r f g' n b → lv_has ls 4 [(3, .int (iI (i))), (0, .ref h), (1, .int (iI ((a0 : Int)))), (2, .int (iI ((b0 : Int))))] → W p l e rm_X1_clearParts s m ([.ref h, .int (iI ((a0 : Int))), .int (iI ((b0 : Int)))] : List Value).toArray below meth c H locs 0 0 Q (F0 m 2 ls []) := by
    intro μ
    induction μ with
    | zero => intro j i g' f H locs ls hμ; exact absurd hμ (Nat.not_lt_zero _)
    | succ μ ih =>
      intro j i g' f H locs ls hμ hi hj1 hj2 hin hout hI hT hl
      refine mv_iload_n B dX1_clearParts_2 rfl (lv_at hl 0 rfl) ?_
      refine mv_iload_n B dX1_clearParts_3 rfl (lv_at hl 3 rfl) ?_
      refine mv_icmp_ge (tgt := 20) B dX1_clearParts_4 (by decide) (by omega) (fun hd0 => ?_) (fun hd0 => ?_)
      · obtain rfl : b0 = j := by omega
        exact mw_vret B hQ hrt hI ⟨g', hT, hin, hout⟩ dX1_clearParts_20
      · refine mv_aload_n B dX1_clearParts_7 rfl (lv_at hl 1 rfl) ?_
        refine ww_parts B hI hT.1 uin_X1 kw_22 dX1_clearParts_8 ?_
        refine mv_iload_n B dX1_clearParts_11 rfl (lv_at hl 0 rfl) ?_
        refine mv_iconst B dX1_clearParts_12 ?_
        refine ww_iast B hI hT (j) (by omega) (by omega) dX1_clearParts_13 (fun f H locs hT hI => ?_)
        refine mv_iinc (k := 0) (lv' := [(3, .int (iI (i + 1))), (0, .ref h), (1, .int (iI ((a0 : Int)))), (2, .int (iI ((b0 : Int))))]) B dX1_clearParts_14 hl rfl (by decide) rfl (fun ls hl => ?_)
        refine mv_goto (tgt := 2) B dX1_clearParts_17 (by decide) ?_
        refine ih (j + 1) _ _ f H locs ls (by omega) (by omega) (by omega) (by omega) (fun i h3 h4 => ?_) (fun i h3 => by rw [upI_ne _ _ (by omega)]; exact hout i (by omega)) hI hT (lv_sub hl [0, 1, 2, 3] rfl)
        by_cases q : i = j
        · rw [q, upI_self]
        · rw [upI_ne _ _ q]; exact hin i h3 (by omega)
  exact loop (b0 + 1) a0 _ g f s.heap [] ls (by omega) rfl (Nat.le_refl _) h1 (fun i h3 h4 => absurd h3 (by omega)) (fun i _ => rfl) hI hT (lv_sub hl [0, 1, 2, 3] rfl)
abbrev rm_X1_loadAboveRoot : Room := { frames := 1, cells := 0, slots := 0, locals := 27 }
set_option maxHeartbeats 4000000 in
set_option maxRecDepth 100000 in
/-- loadAboveRoot -/
theorem t_X1_loadAboveRoot (l : Launch) (D : va_G) (kA : Nat → ClassId) (sz : Nat) (f0 : mw_M) {h r x rx : Nat} {zx : Int} (hw : Rw (kA 0) f0 h r) (hx : Rp (kA 0) f0 x rx zx) (x1 : x ≠ h) (x2 : rx ≠ r) (hz0 : 0 < zx) (hzb : (zx.natAbs : Int) < 1000000 ^ 50) : mw_Mv l yX1_loadAboveRoot (Cond.code yX1_loadAboveRoot cX1_loadAboveRoot 8 (none) :: gw) rm_X1_loadAboveRoot D vwCl (tyL kA) st_S [.ref h, .ref x] f0 sz (fun f => (∃ G, Rp (kA 0) f h r G ∧ G < 1000000 ^ 27 ∧ ∀ t, 0 ≤ t → t * t ≤ zx → zx < (t + 1) * (t + 1) → t < G ∧ 1000 * (G - t - 2) ≤ t) ∧ fo f0 f h r) 0 0 := by
  refine mw_ofv (cc := cX1_loadAboveRoot) (maxL := 8) (ret := none) (by decide) rfl (Nat.le_of_ble_eq_true rfl) ?_
  intro p e s m below meth c A ls Q hQ B hrt hnm hA hI hSt hl
  have hl : lv_has ls 8 [(0, .ref h), (1, .ref x)] := hl
  obtain ⟨g, n, b, hh, hr⟩ := hw
  obtain ⟨gx, nx, bx, hx, hxr, hzx⟩ := hx
  have m1 := (hzx.size 50).mpr hzb
  obtain ⟨f, hI, hT⟩ : ∃ f, mw_I D vwCl A s s.heap [] f ∧ wSt (kA 0) f0 h r f g n b := ⟨f0, hI, wSt.self hh hr⟩
  have x3 := wh_ne hx hr
  have x4 := Ne.symm (wh_ne hh hxr)
  have q1 := hzx.b0
  have q3 := hzx.nat
  have nx1 : 1 ≤ nx := by have := hzx.zero; omega
  refine mv_aload_n B dX1_loadAboveRoot_0 rfl (lv_at hl 1 rfl) ?_
  refine ww_size B hI (hT.get hx x1 x3) uin_X1 kw_24 dX1_loadAboveRoot_1 ?_
  refine mv_iconst B dX1_loadAboveRoot_4 ?_
  have j22 : ∀ (ct : Nat), ct = (if nx < 2 then 0 else (nx - 2) / 2 * 2) → W p l e rm_X1_loadAboveRoot s m ([.ref h, .ref x] : List Value).toArray below meth c s.heap [] 0 0 Q (F0 m 22 ls [.int (iI ((ct : Int)))]) := by
    intro ct hct
    refine mv_istore_n (lv' := [(2, .int (iI ((ct : Int)))), (0, .ref h), (1, .ref x)]) B dX1_loadAboveRoot_22 rfl hl (by decide) rfl (fun ls hl => ?_)
    refine mv_lconst0 B dX1_loadAboveRoot_23 ?_
    refine mv_lstore_n (lv' := [(3, .long (lI (0))), (2, .int (iI ((ct : Int)))), (0, .ref h), (1, .ref x)]) B dX1_loadAboveRoot_24 rfl hl (by decide) rfl (fun ls hl => ?_)
    refine mv_aload_n B dX1_loadAboveRoot_25 rfl (lv_at hl 3 rfl) ?_
    refine ww_size B hI (hT.get hx x1 x3) uin_X1 kw_24 dX1_loadAboveRoot_26 ?_
    refine mv_iconst B dX1_loadAboveRoot_29 ?_
    refine mv_isub B dX1_loadAboveRoot_30 ?_
    refine mv_istore (lv' := [(5, .int (iI (((nx : Int)) - (1)))), (3, .long (lI (0))), (2, .int (iI ((ct : Int)))), (0, .ref h), (1, .ref x)]) B dX1_loadAboveRoot_31 hl (by decide) rfl (fun ls hl => ?_)
    have loop : ∀ (μ : Nat) (j : Nat) (y t : Int) (ls : Array Slot), j < μ → y = (j : Int) - 1 → ct ≤ j → j ≤ nx → t = wv gx j (nx - j) → lv_has ls 8 [(5, .int (iI (y))), (3, .long (lI (t))), (2, .int (iI ((ct : Int)))), (0, .ref h), (1, .ref x)] → W p l e rm_X1_loadAboveRoot s m ([.ref h, .ref x] : List Value).toArray below meth c s.heap [] 0 0 Q (F0 m 33 ls []) := by
      intro μ
      induction μ with
      | zero => intro j y t ls hμ; exact absurd hμ (Nat.not_lt_zero _)
      | succ μ ih =>
        intro j y t ls hμ hy hj1 hj2 ht hl
        refine mv_iload B dX1_loadAboveRoot_33 (lv_at hl 0 rfl) ?_
        refine mv_iload_n B dX1_loadAboveRoot_35 rfl (lv_at hl 2 rfl) ?_
        refine mv_icmp_lt (tgt := 60) B dX1_loadAboveRoot_36 (by decide) (by omega) (fun hd0 => ?_) (fun hd0 => ?_)
        · obtain rfl : ct = j := by omega
          have l1 := lead_in hzx.toCn nx1 hct
          rw [← ht] at l1
          refine mv_lload_n B dX1_loadAboveRoot_60 rfl (lv_at hl 1 rfl) ?_
          refine mw_calll hI hA (va_runS (As := [.long (lI (t))]) (rest := []) B.fix (t_X1_rootOfLong l D kA s.heap.size f (z := t) (by omega)) (cwS 1 B.2.2.2.2.1 (gS kw_268 kw_269 kw_2 kw_270) rfl rfl rfl (by decide +kernel) ⟨Nat.le_of_ble_eq_true rfl, Nat.le_of_ble_eq_true rfl⟩) ⟨mw_blind st_S.blind, mw_pre B hI (hSt.call hI hA)⟩ rfl rfl hl.1 rfl (lv_room (Nat.le_of_ble_eq_true rfl)) dX1_loadAboveRoot_61 ⟨Nat.le_of_ble_eq_true rfl, Nat.le_of_ble_eq_true rfl⟩) (fun r f H locs hp hI2 => ?_)
          clear hI
          have hI := hI2
          clear hI2
          obtain ⟨⟨u, rfl, u0, u1, u2, u3⟩, rfl⟩ := hp
          refine mv_lconst1 B dX1_loadAboveRoot_64 ?_
          refine mv_ladd B dX1_loadAboveRoot_65 ?_
          refine mv_nml (fun ab hab => ?_)
          refine mv_lstore (lv' := [(5, .long (lI (ab))), (3, .long (lI (t))), (2, .int (iI ((ct : Int)))), (0, .ref h), (1, .ref x)]) B dX1_loadAboveRoot_66 hl (by decide) rfl (fun ls hl => ?_)
          refine mv_iload_n B dX1_loadAboveRoot_68 rfl (lv_at hl 2 rfl) ?_
          refine mv_iconst B dX1_loadAboveRoot_69 ?_
          refine mv_idiv B dX1_loadAboveRoot_70 (by omega) ?_
          rw [show (ct : Int) / 2 = ((ct / 2 : Nat) : Int) by omega]
          refine mv_istore (lv' := [(7, .int (iI (((ct / 2 : Nat) : Int)))), (5, .long (lI (ab))), (3, .long (lI (t))), (2, .int (iI ((ct : Int)))), (0, .ref h), (1, .ref x)]) B dX1_loadAboveRoot_71 hl (by decide) rfl (fun ls hl => ?_)
          refine mv_aload_n B dX1_loadAboveRoot_73 rfl (lv_at hl 4 rfl) ?_
          refine mv_iconst B dX1_loadAboveRoot_74 ?_
          refine mv_iload B dX1_loadAboveRoot_75 (lv_at hl 0 rfl) ?_
          refine mw_callv hI hA (va_runV (As := [.int (iI (0)), .int (iI (((ct / 2 : Nat) : Int)))]) (rest := []) B.fix (t_X1_clearParts l D kA H.size f (a0 := 0) (b0 := ct / 2) hT.1 hT.2.1 (by omega) (by omega)) (cwV 2 B.2.2.2.2.1 (gV kw_272 kw_250 kw_251 kw_2 kw_252) rfl rfl rfl (by decide +kernel) ⟨Nat.le_of_ble_eq_true rfl, Nat.le_of_ble_eq_true rfl⟩) ⟨mw_blind st_S.blind, mw_recv B hI hT.1 rfl, mw_pre B hI (hSt.call hI hA)⟩ rfl rfl hl.1 rfl (lv_room (Nat.le_of_ble_eq_true rfl)) dX1_loadAboveRoot_77 ⟨Nat.le_of_ble_eq_true rfl, Nat.le_of_ble_eq_true rfl⟩) (fun f H locs hp hI2 => ?_)
          clear hI
          have hI := hI2
          clear hI2
          obtain ⟨g1, hT2, k2, k3⟩ := hp
          have hT := hT.trans hT2
          refine mv_aload_n B dX1_loadAboveRoot_80 rfl (lv_at hl 4 rfl) ?_
          refine ww_parts B hI hT.1 uin_X1 kw_22 dX1_loadAboveRoot_81 ?_
          refine mv_iload B dX1_loadAboveRoot_84 (lv_at hl 0 rfl) ?_
          refine mv_lload B dX1_loadAboveRoot_86 (lv_at hl 1 rfl) ?_
          refine mv_ldc2 (z := 1000000) B dX1_loadAboveRoot_88 kw_100 (by decide) ?_
          refine mv_lrem B dX1_loadAboveRoot_91 (by omega) ?_
          refine mv_l2i B dX1_loadAboveRoot_92 ?_
          refine ww_iast B hI hT (ct / 2) (by omega) (by omega) dX1_loadAboveRoot_93 (fun f H locs hT hI => ?_)
          refine mv_aload_n B dX1_loadAboveRoot_94 rfl (lv_at hl 4 rfl) ?_
          refine ww_parts B hI hT.1 uin_X1 kw_22 dX1_loadAboveRoot_95 ?_
          refine mv_iload B dX1_loadAboveRoot_98 (lv_at hl 0 rfl) ?_
          refine mv_iconst B dX1_loadAboveRoot_100 ?_
          refine mv_iadd B dX1_loadAboveRoot_101 ?_
          refine mv_lload B dX1_loadAboveRoot_102 (lv_at hl 1 rfl) ?_
          refine mv_ldc2 (z := 1000000) B dX1_loadAboveRoot_104 kw_100 (by decide) ?_
          refine mv_ldiv B dX1_loadAboveRoot_107 (by omega) ?_
          refine mv_l2i B dX1_loadAboveRoot_108 ?_
          refine ww_iast B hI hT (ct / 2 + 1) (by omega) (by omega) dX1_loadAboveRoot_109 (fun f H locs hT hI => ?_)
          refine mv_aload_n B dX1_loadAboveRoot_110 rfl (lv_at hl 4 rfl) ?_
          refine mv_iconst B dX1_loadAboveRoot_111 ?_
          refine ww_putb B hI hT (by decide) uin_X1 kw_26 dX1_loadAboveRoot_112 (fun f H locs hT hI => ?_)
          refine mv_aload_n B dX1_loadAboveRoot_115 rfl (lv_at hl 4 rfl) ?_
          refine mv_iload B dX1_loadAboveRoot_116 (lv_at hl 0 rfl) ?_
          refine mv_iconst B dX1_loadAboveRoot_118 ?_
          refine mv_iadd B dX1_loadAboveRoot_119 ?_
          have v1 : dg (upI (upI g1 (ct / 2) (ab % 1000000)) (ct / 2 + 1) (ab / 1000000)) (ct / 2 + 2) ∧ dv (upI (upI g1 (ct / 2) (ab % 1000000)) (ct / 2 + 1) (ab / 1000000)) (ct / 2 + 2) = ab * 1000000 ^ (ct / 2) := ab_row (by omega) (fun i hi => k2 i (by omega) hi)
          refine mw_callv hI hA (va_runV (As := [.int (iI ((((ct / 2 : Nat) : Int)) + (2)))]) (rest := []) B.fix (t_X1_trimTo l D kA H.size f (k := ct / 2 + 2) hT.1 hT.2.1 (by omega) v1.1) (cwV 1 B.2.2.2.2.1 (gV kw_104 kw_105 kw_106 kw_2 kw_107) rfl rfl rfl (by decide +kernel) ⟨Nat.le_of_ble_eq_true rfl, Nat.le_of_ble_eq_true rfl⟩) ⟨mw_blind st_S.blind, mw_recv B hI hT.1 rfl, mw_pre B hI (hSt.call hI hA)⟩ rfl rfl hl.1 rfl (lv_room (Nat.le_of_ble_eq_true rfl)) dX1_loadAboveRoot_120 ⟨Nat.le_of_ble_eq_true rfl, Nat.le_of_ble_eq_true rfl⟩) (fun f H locs hp hI2 => ?_)
          clear hI
          have hI := hI2
          clear hI2
          obtain ⟨n', a1, a2, a3, hT2⟩ := hp
          have hT := hT.trans hT2
          have e1 := dv_trim a1 a2
          have hR := hT.toRp (rp_of ⟨by omega, v1.1.sub a1, a3⟩ (e1.symm.trans v1.2) (Or.inl ⟨rfl, rfl⟩))
          have hA := above_root hzx.toCn nx1 m1 hct ht u0 u1 u2 hab (show zx = dv gx nx by omega)
          exact mw_vret B hQ hrt hI ⟨⟨_, hR.1, hA.1, hA.2⟩, hR.2⟩ dX1_loadAboveRoot_123
        · obtain ⟨k, rfl⟩ : ∃ k, j = k + 1 := ⟨j - 1, by omega⟩
          have g1 := hzx.2.1 k (by omega)
          refine mv_lload_n B dX1_loadAboveRoot_39 rfl (lv_at hl 1 rfl) ?_
          refine mv_ldc2 (z := 1000000) B dX1_loadAboveRoot_40 kw_100 (by decide) ?_
          refine mv_lmul B dX1_loadAboveRoot_43 ?_
          refine mv_aload_n B dX1_loadAboveRoot_44 rfl (lv_at hl 4 rfl) ?_
          refine ww_parts B hI (hT.get hx x1 x3) uin_X1 kw_22 dX1_loadAboveRoot_45 ?_
          refine mv_iload B dX1_loadAboveRoot_48 (lv_at hl 0 rfl) ?_
          refine mw_iald B hI 0 (hT.get hxr x4 x2) rfl (k) (by omega) (by omega) (by decide) dX1_loadAboveRoot_50 ?_
          refine mv_i2l B dX1_loadAboveRoot_51 (by omega) ?_
          refine mv_ladd B dX1_loadAboveRoot_52 ?_
          refine mv_lstore_n (lv' := [(3, .long (lI (((t) * (1000000)) + (gx (k))))), (5, .int (iI (y))), (2, .int (iI ((ct : Int)))), (0, .ref h), (1, .ref x)]) B dX1_loadAboveRoot_53 rfl hl (by decide) rfl (fun ls hl => ?_)
          refine mv_iinc (k := 1) (lv' := [(5, .int (iI (y + (-1)))), (3, .long (lI (((t) * (1000000)) + (gx (k))))), (2, .int (iI ((ct : Int)))), (0, .ref h), (1, .ref x)]) B dX1_loadAboveRoot_54 hl rfl (by decide) rfl (fun ls hl => ?_)
          refine mv_goto (tgt := 33) B dX1_loadAboveRoot_57 (by decide) ?_
          refine ih k _ _ ls (by omega) (by omega) (by omega) (by omega) ?_ (lv_sub hl [0, 1, 2, 3, 4] rfl)
          rw [show nx - k = (nx - (k + 1)) + 1 by omega, wv_cons, ht]
          omega
    exact loop (nx + 1) nx _ _ ls (Nat.lt_succ_self nx) rfl (by split at hct <;> omega) (Nat.le_refl nx) (by rw [Nat.sub_self, wv_0]) (lv_sub hl [0, 1, 2, 3, 4] rfl)
  refine mv_icmp_ge (tgt := 12) B dX1_loadAboveRoot_5 (by decide) (by omega) (fun hc => ?_) (fun hc => ?_)
  · refine mv_aload_n B dX1_loadAboveRoot_12 rfl (lv_at hl 1 rfl) ?_
    refine ww_size B hI (hT.get hx x1 x3) uin_X1 kw_24 dX1_loadAboveRoot_13 ?_
    refine mv_iconst B dX1_loadAboveRoot_16 ?_
    refine mv_isub B dX1_loadAboveRoot_17 ?_
    refine mv_iconst B dX1_loadAboveRoot_18 ?_
    refine mv_idiv B dX1_loadAboveRoot_19 (by omega) ?_
    refine mv_iconst B dX1_loadAboveRoot_20 ?_
    refine mv_imul B dX1_loadAboveRoot_21 ?_
    rw [show ((nx : Int) - 2) / 2 * 2 = (((nx - 2) / 2 * 2 : Nat) : Int) by omega]
    exact j22 _ (by rw [if_neg (by omega)])
  · refine mv_iconst B dX1_loadAboveRoot_8 ?_
    refine mv_goto (tgt := 22) B dX1_loadAboveRoot_9 (by decide) ?_
    exact j22 0 (by rw [if_pos (by omega)])
