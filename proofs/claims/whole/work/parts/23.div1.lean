abbrev rm_X1_subtractTimes : Room := { frames := 0, cells := 0, slots := 0, locals := 0 }
set_option maxHeartbeats 4000000 in
set_option maxRecDepth 100000 in
/-- subtractTimes -/
theorem t_X1_subtractTimes (l : Launch) (D : va_G) (kA : Nat → ClassId) (sz : Nat) (f0 : mw_M) {h r x rx : Nat} {g gx : Nat → Int} {n b bx q : Int} {nx pl : Nat} (hh : f0 h = some (wh r n b)) (hr : f0 r = some (mw_ar (kA 0) 104 g)) (hx : f0 x = some (wh rx (nx : Int) bx)) (hxr : f0 rx = some (mw_ar (kA 0) 104 gx)) (x1 : x ≠ h) (x2 : rx ≠ r) (hp : pl + nx ≤ 103) (hq : 0 ≤ q ∧ q ≤ 1000000) (hgx : dg gx nx) (hg : dw g pl (nx + 1)) : mw_Mv l yX1_subtractTimes (Cond.code yX1_subtractTimes cX1_subtractTimes 10 (none) :: gw) rm_X1_subtractTimes D vwCl (tyL kA) st_S [.ref h, .ref x, .int (iI (q)), .int (iI ((pl : Int)))] f0 sz (fun f => ∃ g', wSt (kA 0) f0 h r f g' n b ∧ dw g' pl nx ∧ (∀ i, i < pl ∨ pl + nx < i → g' i = g i) ∧ wv g' pl nx + g' (pl + nx) * 1000000 ^ nx = wv g pl nx + g (pl + nx) * 1000000 ^ nx - q * dv gx nx) 0 0 := by
  refine mw_ofv (cc := cX1_subtractTimes) (maxL := 10) (ret := none) (by decide) rfl (Nat.le_of_ble_eq_true rfl) ?_
  intro p e s m below meth c A ls Q hQ B hrt hnm hA hI hSt hl
  have hl : lv_has ls 10 [(0, .ref h), (1, .ref x), (2, .int (iI (q))), (3, .int (iI ((pl : Int))))] := hl
  obtain ⟨f, hI, hT⟩ : ∃ f, mw_I D vwCl A s s.heap [] f ∧ wSt (kA 0) f0 h r f g n b := ⟨f0, hI, wSt.self hh hr⟩
  have x3 := wh_ne hx hr
  have x4 := Ne.symm (wh_ne hh hxr)
  refine mv_lconst0 B dX1_subtractTimes_0 ?_
  refine mv_lstore (lv' := [(4, .long (lI (0))), (0, .ref h), (1, .ref x), (2, .int (iI (q))), (3, .int (iI ((pl : Int))))]) B dX1_subtractTimes_1 hl (by decide) rfl (fun ls hl => ?_)
  refine mv_iconst B dX1_subtractTimes_3 ?_
  refine mv_istore (lv' := [(6, .int (iI (0))), (4, .long (lI (0))), (0, .ref h), (1, .ref x), (2, .int (iI (q))), (3, .int (iI ((pl : Int))))]) B dX1_subtractTimes_4 hl (by decide) rfl (fun ls hl => ?_)
  have loop : ∀ (μ : Nat) (j : Nat) (i cy : Int) (g' : Nat → Int) (f : mw_M) (H : Heap) (locs : List Loc) (ls : Array Slot), nx - j < μ → i = (j : Int) → j ≤ nx → (0 ≤ cy ∧ cy ≤ 1000000) → dw g' pl j → (∀ i, i < pl ∨ pl + j ≤ i → g' i = g i) → wv g' pl j - cy * 1000000 ^ j = wv g pl j - q * dv gx j → mw_I D vwCl A s H locs f → wSt (kA 0) f0 h r f g' n b → lv_has ls 10 [(6, .int (iI (i))), (4, .long (lI (cy))), (0, .ref h), (1, .ref x), (2, .int (iI (q))), (3, .int (iI ((pl : Int))))] → W p l e rm_X1_subtractTimes s m ([.ref h, .ref x, .int (iI (q)), .int (iI ((pl : Int)))] : List Value).toArray below meth c H locs 0 0 Q (F0 m 6 ls []) := by
    intro μ
    induction μ with
    | zero => intro j i cy g' f H locs ls hμ; exact absurd hμ (Nat.not_lt_zero _)
    | succ μ ih =>
      intro j i cy g' f H locs ls hμ hi hj hcy hd ho hv hI hT hl
      refine mv_iload B dX1_subtractTimes_6 (lv_at hl 0 rfl) ?_
      refine mv_aload_n B dX1_subtractTimes_8 rfl (lv_at hl 3 rfl) ?_
      refine ww_size B hI (hT.get hx x1 x3) uin_X1 kw_24 dX1_subtractTimes_9 ?_
      refine mv_icmp_ge (tgt := 96) B dX1_subtractTimes_12 (by decide) (by omega) (fun hd0 => ?_) (fun hd0 => ?_)
      · obtain rfl : nx = j := by omega
        have o1 : g' (pl + nx) = g (pl + nx) := ho _ (Or.inr (Nat.le_refl _))
        refine mv_aload_n B dX1_subtractTimes_96 rfl (lv_at hl 2 rfl) ?_
        refine ww_parts B hI hT.1 uin_X1 kw_22 dX1_subtractTimes_97 ?_
        refine mv_iload_n B dX1_subtractTimes_100 rfl (lv_at hl 5 rfl) ?_
        refine mv_aload_n B dX1_subtractTimes_101 rfl (lv_at hl 3 rfl) ?_
        refine ww_size B hI (hT.get hx x1 x3) uin_X1 kw_24 dX1_subtractTimes_102 ?_
        refine mv_iadd B dX1_subtractTimes_105 ?_
        refine mv_dup2 B dX1_subtractTimes_106 rfl rfl ?_
        refine mw_iald B hI 0 hT.2.1 rfl (pl + nx) (by omega) (by omega) (by decide) dX1_subtractTimes_107 ?_
        refine mv_lload B dX1_subtractTimes_108 (lv_at hl 1 rfl) ?_
        refine mv_l2i B dX1_subtractTimes_110 ?_
        refine mv_isub B dX1_subtractTimes_111 ?_
        refine ww_iast B hI hT (pl + nx) (by omega) (by omega) dX1_subtractTimes_112 (fun f H locs hT hI => ?_)
        have w1 : wv (upI g' (pl + nx) (g' (pl + nx) - cy)) pl nx = wv g' pl nx := wv_congr fun i h1 h2 => upI_ne _ _ (by omega)
        exact mw_vret B hQ hrt hI ⟨_, hT, fun i h1 h2 => by rw [upI_ne _ _ (by omega)]; exact hd i h1 h2, fun i h1 => by rw [upI_ne _ _ (by omega)]; exact ho i (by omega), by rw [w1, upI_self, o1, Int.sub_mul]; omega⟩ dX1_subtractTimes_113
      · have p1 := hgx j (by omega)
        have o1 : g' (pl + j) = g (pl + j) := ho _ (Or.inr (Nat.le_refl _))
        have p2 := hg (pl + j) (by omega) (by omega)
        have p3 : 0 ≤ q * gx j ∧ q * gx j ≤ 999999000000 := ⟨Int.mul_nonneg hq.1 p1.1, by have := Int.mul_le_mul hq.2 (show gx j ≤ 999999 by omega) p1.1 (by decide); omega⟩
        refine mv_iload_n B dX1_subtractTimes_15 rfl (lv_at hl 4 rfl) ?_
        refine mv_i2l B dX1_subtractTimes_16 (by omega) ?_
        refine mv_aload_n B dX1_subtractTimes_17 rfl (lv_at hl 3 rfl) ?_
        refine ww_parts B hI (hT.get hx x1 x3) uin_X1 kw_22 dX1_subtractTimes_18 ?_
        refine mv_iload B dX1_subtractTimes_21 (lv_at hl 0 rfl) ?_
        refine mw_iald B hI 0 (hT.get hxr x4 x2) rfl (j) (by omega) (by omega) (by decide) dX1_subtractTimes_23 ?_
        refine mv_i2l B dX1_subtractTimes_24 (by omega) ?_
        refine mv_lmul B dX1_subtractTimes_25 ?_
        refine mv_lload B dX1_subtractTimes_26 (lv_at hl 1 rfl) ?_
        refine mv_ladd B dX1_subtractTimes_28 ?_
        refine mv_nml (fun t ht => ?_)
        refine mv_lstore (lv' := [(7, .long (lI (t))), (6, .int (iI (i))), (4, .long (lI (cy))), (0, .ref h), (1, .ref x), (2, .int (iI (q))), (3, .int (iI ((pl : Int))))]) B dX1_subtractTimes_29 hl (by decide) rfl (fun ls hl => ?_)
        refine mv_lload B dX1_subtractTimes_31 (lv_at hl 0 rfl) ?_
        refine mv_ldc2 (z := 1000000) B dX1_subtractTimes_33 kw_100 (by decide) ?_
        refine mv_ldiv B dX1_subtractTimes_36 (by omega) ?_
        refine mv_nml (fun u hu => ?_)
        refine mv_lstore (lv' := [(4, .long (lI (u))), (7, .long (lI (t))), (6, .int (iI (i))), (0, .ref h), (1, .ref x), (2, .int (iI (q))), (3, .int (iI ((pl : Int))))]) B dX1_subtractTimes_37 hl (by decide) rfl (fun ls hl => ?_)
        refine mv_aload_n B dX1_subtractTimes_39 rfl (lv_at hl 3 rfl) ?_
        refine ww_parts B hI hT.1 uin_X1 kw_22 dX1_subtractTimes_40 ?_
        refine mv_iload_n B dX1_subtractTimes_43 rfl (lv_at hl 6 rfl) ?_
        refine mv_iload B dX1_subtractTimes_44 (lv_at hl 2 rfl) ?_
        refine mv_iadd B dX1_subtractTimes_46 ?_
        refine mw_iald B hI 0 hT.2.1 rfl (pl + j) (by omega) (by omega) (by decide) dX1_subtractTimes_47 ?_
        refine mv_lload B dX1_subtractTimes_48 (lv_at hl 1 rfl) ?_
        refine mv_lload B dX1_subtractTimes_50 (lv_at hl 0 rfl) ?_
        refine mv_ldc2 (z := 1000000) B dX1_subtractTimes_52 kw_100 (by decide) ?_
        refine mv_lmul B dX1_subtractTimes_55 ?_
        refine mv_lsub B dX1_subtractTimes_56 ?_
        refine mv_l2i B dX1_subtractTimes_57 ?_
        refine mv_isub B dX1_subtractTimes_58 ?_
        refine mv_nmi (fun y hy => ?_)
        refine mv_istore (lv' := [(9, .int (iI (y))), (4, .long (lI (u))), (7, .long (lI (t))), (6, .int (iI (i))), (0, .ref h), (1, .ref x), (2, .int (iI (q))), (3, .int (iI ((pl : Int))))]) B dX1_subtractTimes_59 hl (by decide) rfl (fun ls hl => ?_)
        refine mv_iload B dX1_subtractTimes_61 (lv_at hl 0 rfl) ?_
        have t1 := Int.mul_ediv_add_emod t 1000000
        have t2 := Int.emod_nonneg t (by decide : (1000000 : Int) ≠ 0)
        have t3 := Int.emod_lt_of_pos t (by decide : (0 : Int) < 1000000)
        refine mv_if_ge (tgt := 79) B dX1_subtractTimes_63 (by decide) (by omega) (fun hd1 => ?_) (fun hd1 => ?_)
        · refine mv_aload_n B dX1_subtractTimes_79 rfl (lv_at hl 4 rfl) ?_
          refine ww_parts B hI hT.1 uin_X1 kw_22 dX1_subtractTimes_80 ?_
          refine mv_iload_n B dX1_subtractTimes_83 rfl (lv_at hl 7 rfl) ?_
          refine mv_iload B dX1_subtractTimes_84 (lv_at hl 3 rfl) ?_
          refine mv_iadd B dX1_subtractTimes_86 ?_
          refine mv_iload B dX1_subtractTimes_87 (lv_at hl 0 rfl) ?_
          refine ww_iast B hI hT (pl + j) (by omega) (by omega) dX1_subtractTimes_89 (fun f H locs hT hI => ?_)
          refine mv_iinc (k := 3) (lv' := [(6, .int (iI (i + 1))), (9, .int (iI (y))), (4, .long (lI (u))), (7, .long (lI (t))), (0, .ref h), (1, .ref x), (2, .int (iI (q))), (3, .int (iI ((pl : Int))))]) B dX1_subtractTimes_90 hl rfl (by decide) rfl (fun ls hl => ?_)
          refine mv_goto (tgt := 6) B dX1_subtractTimes_93 (by decide) ?_
          refine ih (j + 1) _ _ _ f H locs ls (by omega) (by omega) (by omega) (by omega) (fun i h1 h2 => ?_) (fun i h1 => by rw [upI_ne _ _ (by omega)]; exact ho i (by omega)) ?_ hI hT (lv_sub hl [0, 2, 4, 5, 6, 7] rfl)
          · by_cases qq : i = pl + j
            · rw [qq, upI_self]; omega
            · rw [upI_ne _ _ qq]; exact hd i h1 (by omega)
          · rw [wv_up_s, wv_s, dv_s, bp_s]
            exact st_step hv (by omega)
        · refine mv_iload B dX1_subtractTimes_66 (lv_at hl 0 rfl) ?_
          refine mv_ldc (z := 1000000) B dX1_subtractTimes_68 kw_139 (by decide) ?_
          refine mv_iadd B dX1_subtractTimes_70 ?_
          refine mv_istore (lv' := [(9, .int (iI ((y) + (1000000)))), (4, .long (lI (u))), (7, .long (lI (t))), (6, .int (iI (i))), (0, .ref h), (1, .ref x), (2, .int (iI (q))), (3, .int (iI ((pl : Int))))]) B dX1_subtractTimes_71 hl (by decide) rfl (fun ls hl => ?_)
          refine mv_lload B dX1_subtractTimes_73 (lv_at hl 1 rfl) ?_
          refine mv_lconst1 B dX1_subtractTimes_75 ?_
          refine mv_ladd B dX1_subtractTimes_76 ?_
          refine mv_lstore (lv' := [(4, .long (lI ((u) + (1)))), (9, .int (iI ((y) + (1000000)))), (7, .long (lI (t))), (6, .int (iI (i))), (0, .ref h), (1, .ref x), (2, .int (iI (q))), (3, .int (iI ((pl : Int))))]) B dX1_subtractTimes_77 hl (by decide) rfl (fun ls hl => ?_)
          refine mv_aload_n B dX1_subtractTimes_79 rfl (lv_at hl 4 rfl) ?_
          refine ww_parts B hI hT.1 uin_X1 kw_22 dX1_subtractTimes_80 ?_
          refine mv_iload_n B dX1_subtractTimes_83 rfl (lv_at hl 7 rfl) ?_
          refine mv_iload B dX1_subtractTimes_84 (lv_at hl 3 rfl) ?_
          refine mv_iadd B dX1_subtractTimes_86 ?_
          refine mv_iload B dX1_subtractTimes_87 (lv_at hl 1 rfl) ?_
          refine ww_iast B hI hT (pl + j) (by omega) (by omega) dX1_subtractTimes_89 (fun f H locs hT hI => ?_)
          refine mv_iinc (k := 3) (lv' := [(6, .int (iI (i + 1))), (4, .long (lI ((u) + (1)))), (9, .int (iI ((y) + (1000000)))), (7, .long (lI (t))), (0, .ref h), (1, .ref x), (2, .int (iI (q))), (3, .int (iI ((pl : Int))))]) B dX1_subtractTimes_90 hl rfl (by decide) rfl (fun ls hl => ?_)
          refine mv_goto (tgt := 6) B dX1_subtractTimes_93 (by decide) ?_
          refine ih (j + 1) _ _ _ f H locs ls (by omega) (by omega) (by omega) (by omega) (fun i h1 h2 => ?_) (fun i h1 => by rw [upI_ne _ _ (by omega)]; exact ho i (by omega)) ?_ hI hT (lv_sub hl [0, 1, 4, 5, 6, 7] rfl)
          · by_cases qq : i = pl + j
            · rw [qq, upI_self]; omega
            · rw [upI_ne _ _ qq]; exact hd i h1 (by omega)
          · rw [wv_up_s, wv_s, dv_s, bp_s]
            exact st_step hv (by omega)
  exact loop (nx + 1) 0 _ _ g f s.heap [] ls (by omega) rfl (by omega) (by omega) (fun i h1 h2 => absurd h2 (by omega)) (fun i _ => rfl) (by simp [wv_0, dv_0]) hI hT (lv_sub hl [0, 1, 2, 3, 4, 5] rfl)
abbrev rm_X1_addBack : Room := { frames := 0, cells := 0, slots := 0, locals := 0 }
set_option maxHeartbeats 4000000 in
set_option maxRecDepth 100000 in
/-- addBack -/
theorem t_X1_addBack (l : Launch) (D : va_G) (kA : Nat → ClassId) (sz : Nat) (f0 : mw_M) {h r x rx : Nat} {g gx : Nat → Int} {n b bx : Int} {nx pl : Nat} (hh : f0 h = some (wh r n b)) (hr : f0 r = some (mw_ar (kA 0) 104 g)) (hx : f0 x = some (wh rx (nx : Int) bx)) (hxr : f0 rx = some (mw_ar (kA 0) 104 gx)) (x1 : x ≠ h) (x2 : rx ≠ r) (hp : pl + nx ≤ 103) (hgx : dg gx nx) (hg : dw g pl nx) : mw_Mv l yX1_addBack (Cond.code yX1_addBack cX1_addBack 6 (none) :: gw) rm_X1_addBack D vwCl (tyL kA) st_S [.ref h, .ref x, .int (iI ((pl : Int)))] f0 sz (fun f => ∃ g', wSt (kA 0) f0 h r f g' n b ∧ dw g' pl nx ∧ (∀ i, i < pl ∨ pl + nx < i → g' i = g i) ∧ wv g' pl nx + g' (pl + nx) * 1000000 ^ nx = wv g pl nx + g (pl + nx) * 1000000 ^ nx + dv gx nx) 0 0 := by
  refine mw_ofv (cc := cX1_addBack) (maxL := 6) (ret := none) (by decide) rfl (Nat.le_of_ble_eq_true rfl) ?_
  intro p e s m below meth c A ls Q hQ B hrt hnm hA hI hSt hl
  have hl : lv_has ls 6 [(0, .ref h), (1, .ref x), (2, .int (iI ((pl : Int))))] := hl
  obtain ⟨f, hI, hT⟩ : ∃ f, mw_I D vwCl A s s.heap [] f ∧ wSt (kA 0) f0 h r f g n b := ⟨f0, hI, wSt.self hh hr⟩
  have x3 := wh_ne hx hr
  have x4 := Ne.symm (wh_ne hh hxr)
  refine mv_iconst B dX1_addBack_0 ?_
  refine mv_istore_n (lv' := [(3, .int (iI (0))), (0, .ref h), (1, .ref x), (2, .int (iI ((pl : Int))))]) B dX1_addBack_1 rfl hl (by decide) rfl (fun ls hl => ?_)
  refine mv_iconst B dX1_addBack_2 ?_
  refine mv_istore (lv' := [(4, .int (iI (0))), (3, .int (iI (0))), (0, .ref h), (1, .ref x), (2, .int (iI ((pl : Int))))]) B dX1_addBack_3 hl (by decide) rfl (fun ls hl => ?_)
  have loop : ∀ (μ : Nat) (j : Nat) (i cy : Int) (g' : Nat → Int) (f : mw_M) (H : Heap) (locs : List Loc) (ls : Array Slot), nx - j < μ → i = (j : Int) → j ≤ nx → (cy = 0 ∨ cy = 1) → dw g' pl j → (∀ i, i < pl ∨ pl + j ≤ i → g' i = g i) → wv g' pl j + cy * 1000000 ^ j = wv g pl j + dv gx j → mw_I D vwCl A s H locs f → wSt (kA 0) f0 h r f g' n b → lv_has ls 6 [(4, .int (iI (i))), (3, .int (iI (cy))), (0, .ref h), (1, .ref x), (2, .int (iI ((pl : Int))))] → W p l e rm_X1_addBack s m ([.ref h, .ref x, .int (iI ((pl : Int)))] : List Value).toArray below meth c H locs 0 0 Q (F0 m 5 ls []) := by
    intro μ
    induction μ with
    | zero => intro j i cy g' f H locs ls hμ; exact absurd hμ (Nat.not_lt_zero _)
    | succ μ ih =>
      intro j i cy g' f H locs ls hμ hi hj hcy hd ho hv hI hT hl
      refine mv_iload B dX1_addBack_5 (lv_at hl 0 rfl) ?_
      refine mv_aload_n B dX1_addBack_7 rfl (lv_at hl 3 rfl) ?_
      refine ww_size B hI (hT.get hx x1 x3) uin_X1 kw_24 dX1_addBack_8 ?_
      refine mv_icmp_ge (tgt := 70) B dX1_addBack_11 (by decide) (by omega) (fun hd0 => ?_) (fun hd0 => ?_)
      · obtain rfl : nx = j := by omega
        have o1 : g' (pl + nx) = g (pl + nx) := ho _ (Or.inr (Nat.le_refl _))
        refine mv_aload_n B dX1_addBack_70 rfl (lv_at hl 2 rfl) ?_
        refine ww_parts B hI hT.1 uin_X1 kw_22 dX1_addBack_71 ?_
        refine mv_iload_n B dX1_addBack_74 rfl (lv_at hl 4 rfl) ?_
        refine mv_aload_n B dX1_addBack_75 rfl (lv_at hl 3 rfl) ?_
        refine ww_size B hI (hT.get hx x1 x3) uin_X1 kw_24 dX1_addBack_76 ?_
        refine mv_iadd B dX1_addBack_79 ?_
        refine mv_dup2 B dX1_addBack_80 rfl rfl ?_
        refine mw_iald B hI 0 hT.2.1 rfl (pl + nx) (by omega) (by omega) (by decide) dX1_addBack_81 ?_
        refine mv_iload_n B dX1_addBack_82 rfl (lv_at hl 1 rfl) ?_
        refine mv_iadd B dX1_addBack_83 ?_
        refine ww_iast B hI hT (pl + nx) (by omega) (by omega) dX1_addBack_84 (fun f H locs hT hI => ?_)
        have w1 : wv (upI g' (pl + nx) (g' (pl + nx) + cy)) pl nx = wv g' pl nx := wv_congr fun i h1 h2 => upI_ne _ _ (by omega)
        exact mw_vret B hQ hrt hI ⟨_, hT, fun i h1 h2 => by rw [upI_ne _ _ (by omega)]; exact hd i h1 h2, fun i h1 => by rw [upI_ne _ _ (by omega)]; exact ho i (by omega), by rw [w1, upI_self, o1, Int.add_mul]; omega⟩ dX1_addBack_85
      · have p1 := hgx j (by omega)
        have o1 : g' (pl + j) = g (pl + j) := ho _ (Or.inr (Nat.le_refl _))
        have p2 := hg (pl + j) (by omega) (by omega)
        refine mv_aload_n B dX1_addBack_14 rfl (lv_at hl 2 rfl) ?_
        refine ww_parts B hI hT.1 uin_X1 kw_22 dX1_addBack_15 ?_
        refine mv_iload_n B dX1_addBack_18 rfl (lv_at hl 4 rfl) ?_
        refine mv_iload B dX1_addBack_19 (lv_at hl 0 rfl) ?_
        refine mv_iadd B dX1_addBack_21 ?_
        refine mw_iald B hI 0 hT.2.1 rfl (pl + j) (by omega) (by omega) (by decide) dX1_addBack_22 ?_
        refine mv_aload_n B dX1_addBack_23 rfl (lv_at hl 3 rfl) ?_
        refine ww_parts B hI (hT.get hx x1 x3) uin_X1 kw_22 dX1_addBack_24 ?_
        refine mv_iload B dX1_addBack_27 (lv_at hl 0 rfl) ?_
        refine mw_iald B hI 0 (hT.get hxr x4 x2) rfl (j) (by omega) (by omega) (by decide) dX1_addBack_29 ?_
        refine mv_iadd B dX1_addBack_30 ?_
        refine mv_iload_n B dX1_addBack_31 rfl (lv_at hl 1 rfl) ?_
        refine mv_iadd B dX1_addBack_32 ?_
        refine mv_nmi (fun t ht => ?_)
        refine mv_istore (lv' := [(5, .int (iI (t))), (4, .int (iI (i))), (3, .int (iI (cy))), (0, .ref h), (1, .ref x), (2, .int (iI ((pl : Int))))]) B dX1_addBack_33 hl (by decide) rfl (fun ls hl => ?_)
        refine mv_iload B dX1_addBack_35 (lv_at hl 0 rfl) ?_
        refine mv_ldc (z := 1000000) B dX1_addBack_37 kw_139 (by decide) ?_
        refine mv_icmp_lt (tgt := 46) B dX1_addBack_39 (by decide) (by omega) (fun hd1 => ?_) (fun hd1 => ?_)
        · refine mv_iconst B dX1_addBack_46 ?_
          refine mv_istore_n (lv' := [(3, .int (iI (0))), (5, .int (iI (t))), (4, .int (iI (i))), (0, .ref h), (1, .ref x), (2, .int (iI ((pl : Int))))]) B dX1_addBack_47 rfl hl (by decide) rfl (fun ls hl => ?_)
          refine mv_aload_n B dX1_addBack_48 rfl (lv_at hl 3 rfl) ?_
          refine ww_parts B hI hT.1 uin_X1 kw_22 dX1_addBack_49 ?_
          refine mv_iload_n B dX1_addBack_52 rfl (lv_at hl 5 rfl) ?_
          refine mv_iload B dX1_addBack_53 (lv_at hl 2 rfl) ?_
          refine mv_iadd B dX1_addBack_55 ?_
          refine mv_iload B dX1_addBack_56 (lv_at hl 1 rfl) ?_
          refine mv_iload_n B dX1_addBack_58 rfl (lv_at hl 0 rfl) ?_
          refine mv_ldc (z := 1000000) B dX1_addBack_59 kw_139 (by decide) ?_
          refine mv_imul B dX1_addBack_61 ?_
          refine mv_isub B dX1_addBack_62 ?_
          refine ww_iast B hI hT (pl + j) (by omega) (by omega) dX1_addBack_63 (fun f H locs hT hI => ?_)
          refine mv_iinc (k := 2) (lv' := [(4, .int (iI (i + 1))), (3, .int (iI (0))), (5, .int (iI (t))), (0, .ref h), (1, .ref x), (2, .int (iI ((pl : Int))))]) B dX1_addBack_64 hl rfl (by decide) rfl (fun ls hl => ?_)
          refine mv_goto (tgt := 5) B dX1_addBack_67 (by decide) ?_
          refine ih (j + 1) _ _ _ f H locs ls (by omega) (by omega) (by omega) (by omega) (fun i h1 h2 => ?_) (fun i h1 => by rw [upI_ne _ _ (by omega)]; exact ho i (by omega)) ?_ hI hT (lv_sub hl [0, 1, 3, 4, 5] rfl)
          · by_cases qq : i = pl + j
            · rw [qq, upI_self]; omega
            · rw [upI_ne _ _ qq]; exact hd i h1 (by omega)
          · rw [wv_up_s, wv_s, dv_s, bp_s]
            exact ab_step hv (by omega)
        · refine mv_iconst B dX1_addBack_42 ?_
          refine mv_goto (tgt := 47) B dX1_addBack_43 (by decide) ?_
          refine mv_istore_n (lv' := [(3, .int (iI (1))), (5, .int (iI (t))), (4, .int (iI (i))), (0, .ref h), (1, .ref x), (2, .int (iI ((pl : Int))))]) B dX1_addBack_47 rfl hl (by decide) rfl (fun ls hl => ?_)
          refine mv_aload_n B dX1_addBack_48 rfl (lv_at hl 3 rfl) ?_
          refine ww_parts B hI hT.1 uin_X1 kw_22 dX1_addBack_49 ?_
          refine mv_iload_n B dX1_addBack_52 rfl (lv_at hl 5 rfl) ?_
          refine mv_iload B dX1_addBack_53 (lv_at hl 2 rfl) ?_
          refine mv_iadd B dX1_addBack_55 ?_
          refine mv_iload B dX1_addBack_56 (lv_at hl 1 rfl) ?_
          refine mv_iload_n B dX1_addBack_58 rfl (lv_at hl 0 rfl) ?_
          refine mv_ldc (z := 1000000) B dX1_addBack_59 kw_139 (by decide) ?_
          refine mv_imul B dX1_addBack_61 ?_
          refine mv_isub B dX1_addBack_62 ?_
          refine ww_iast B hI hT (pl + j) (by omega) (by omega) dX1_addBack_63 (fun f H locs hT hI => ?_)
          refine mv_iinc (k := 2) (lv' := [(4, .int (iI (i + 1))), (3, .int (iI (1))), (5, .int (iI (t))), (0, .ref h), (1, .ref x), (2, .int (iI ((pl : Int))))]) B dX1_addBack_64 hl rfl (by decide) rfl (fun ls hl => ?_)
          refine mv_goto (tgt := 5) B dX1_addBack_67 (by decide) ?_
          refine ih (j + 1) _ _ _ f H locs ls (by omega) (by omega) (by omega) (by omega) (fun i h1 h2 => ?_) (fun i h1 => by rw [upI_ne _ _ (by omega)]; exact ho i (by omega)) ?_ hI hT (lv_sub hl [0, 1, 3, 4, 5] rfl)
          · by_cases qq : i = pl + j
            · rw [qq, upI_self]; omega
            · rw [upI_ne _ _ qq]; exact hd i h1 (by omega)
          · rw [wv_up_s, wv_s, dv_s, bp_s]
            exact ab_step hv (by omega)
  exact loop (nx + 1) 0 _ _ g f s.heap [] ls (by omega) rfl (by omega) (by omega) (fun i h1 h2 => absurd h2 (by omega)) (fun i _ => rfl) (by simp [wv_0, dv_0]) hI hT (lv_sub hl [0, 1, 2, 3, 4] rfl)
abbrev rm_X1_leadOfTwo : Room := { frames := 1, cells := 0, slots := 0, locals := 21 }
set_option maxHeartbeats 4000000 in
set_option maxRecDepth 100000 in
/-- leadOfTwo -/
theorem t_X1_leadOfTwo (l : Launch) (D : va_G) (kA : Nat → ClassId) (sz : Nat) (f0 : mw_M) {h r : Nat} {g : Nat → Int} {n : Nat} {b : Int} (hh : f0 h = some (wh r (n : Int) b)) (hr : f0 r = some (mw_ar (kA 0) 104 g)) (hc1 : cn g n) : mw_Ml l yX1_leadOfTwo (Cond.code yX1_leadOfTwo cX1_leadOfTwo 1 ((some .long)) :: gw) rm_X1_leadOfTwo D vwCl (tyL kA) st_S [.ref h] f0 sz (fun v f => v = lI (ld2 g n) ∧ f = f0) 0 0 := by
  refine mw_ofl (cc := cX1_leadOfTwo) (maxL := 1) (ret := (some .long)) (by decide) rfl (Nat.le_of_ble_eq_true rfl) ?_
  intro p e s m below meth c A ls Q hQ B hrt hnm hA hI hSt hl
  have hl : lv_has ls 1 [(0, .ref h)] := hl
  obtain ⟨f, hI, hf⟩ : ∃ f, mw_I D vwCl A s s.heap [] f ∧ f = f0 := ⟨f0, hI, rfl⟩
  have hh1 : f h = some (wh r (n : Int) b) := by rw [hf]; exact hh
  have hr1 : f r = some (mw_ar (kA 0) 104 g) := by rw [hf]; exact hr
  have hn1 := hc1.1
  have z1 : (if (n : Int) - 1 < 0 then 0 else pz g n ((n : Int) - 1).toNat) = if n = 0 then 0 else g (n - 1) := by
      by_cases q : n = 0
      · rw [if_pos q, if_pos (by omega)]
      · rw [if_neg q, if_neg (by omega), show ((n : Int) - 1).toNat = n - 1 by omega, pz_lt (by omega)]
  have z2 : (if (n : Int) - 2 < 0 then 0 else pz g n ((n : Int) - 2).toNat) = if 2 ≤ n then g (n - 2) else 0 := by
      by_cases q : 2 ≤ n
      · rw [if_pos q, if_neg (by omega), show ((n : Int) - 2).toNat = n - 2 by omega, pz_lt (by omega)]
      · rw [if_neg q, if_pos (by omega)]
  have b1 : 0 ≤ (if n = 0 then 0 else g (n - 1)) ∧ (if n = 0 then 0 else g (n - 1)) < 1000000 := by
      by_cases q : n = 0
      · rw [if_pos q]; decide
      · rw [if_neg q]; exact hc1.2.1 _ (by omega)
  have b2 : 0 ≤ (if 2 ≤ n then g (n - 2) else 0) ∧ (if 2 ≤ n then g (n - 2) else 0) < 1000000 := by
      by_cases q : 2 ≤ n
      · rw [if_pos q]; exact hc1.2.1 _ (by omega)
      · rw [if_neg q]; decide
  refine mv_aload_n B dX1_leadOfTwo_0 rfl (lv_at hl 0 rfl) ?_
  refine mv_aload_n B dX1_leadOfTwo_1 rfl (lv_at hl 0 rfl) ?_
  refine ww_size B hI hh1 uin_X1 kw_24 dX1_leadOfTwo_2 ?_
  refine mv_iconst B dX1_leadOfTwo_5 ?_
  refine mv_isub B dX1_leadOfTwo_6 ?_
  refine mw_calli hI hA (va_runV (As := [.int (iI (((n : Int)) - (1)))]) (rest := []) B.fix (t_X1_partOrZero l D kA s.heap.size f hh1 hr1 hn1 (by omega)) (cwV 1 B.2.2.2.2.1 (gV kw_135 kw_136 kw_137 kw_2 kw_138) rfl rfl rfl (by decide +kernel) ⟨Nat.le_of_ble_eq_true rfl, Nat.le_of_ble_eq_true rfl⟩) ⟨mw_blind st_S.blind, mw_recv B hI hh1 rfl, mw_pre B hI (hSt.call hI hA)⟩ rfl rfl hl.1 rfl (lv_room (Nat.le_of_ble_eq_true rfl)) dX1_leadOfTwo_7 ⟨Nat.le_of_ble_eq_true rfl, Nat.le_of_ble_eq_true rfl⟩) (fun r f H locs hp hI2 => ?_)
  clear hI
  have hI := hI2
  clear hI2
  obtain ⟨rfl, rfl⟩ := hp
  rw [z1]
  refine mv_i2l B dX1_leadOfTwo_10 (by omega) ?_
  refine mv_ldc2 (z := 1000000) B dX1_leadOfTwo_11 kw_100 (by decide) ?_
  refine mv_lmul B dX1_leadOfTwo_14 ?_
  refine mv_aload_n B dX1_leadOfTwo_15 rfl (lv_at hl 0 rfl) ?_
  refine mv_aload_n B dX1_leadOfTwo_16 rfl (lv_at hl 0 rfl) ?_
  refine ww_size B hI hh1 uin_X1 kw_24 dX1_leadOfTwo_17 ?_
  refine mv_iconst B dX1_leadOfTwo_20 ?_
  refine mv_isub B dX1_leadOfTwo_21 ?_
  refine mw_calli hI hA (va_runV (As := [.int (iI (((n : Int)) - (2)))]) (rest := [.long (lI ((if n = 0 then 0 else g (n - 1)) * (1000000)))]) B.fix (t_X1_partOrZero l D kA H.size f hh1 hr1 hn1 (by omega)) (cwV 1 B.2.2.2.2.1 (gV kw_135 kw_136 kw_137 kw_2 kw_138) rfl rfl rfl (by decide +kernel) ⟨Nat.le_of_ble_eq_true rfl, Nat.le_of_ble_eq_true rfl⟩) ⟨mw_blind st_S.blind, mw_recv B hI hh1 rfl, mw_pre B hI (hSt.call hI hA)⟩ rfl rfl hl.1 rfl (lv_room (Nat.le_of_ble_eq_true rfl)) dX1_leadOfTwo_22 ⟨Nat.le_of_ble_eq_true rfl, Nat.le_of_ble_eq_true rfl⟩) (fun r f H locs hp hI2 => ?_)
  clear hI
  have hI := hI2
  clear hI2
  obtain ⟨rfl, rfl⟩ := hp
  rw [z2]
  refine mv_i2l B dX1_leadOfTwo_25 (by omega) ?_
  refine mv_ladd B dX1_leadOfTwo_26 ?_
  exact mw_lret B hQ hrt hI ⟨by unfold ld2; by_cases q : n = 0 <;> simp [q], hf⟩ dX1_leadOfTwo_27
abbrev rm_X1_takeAway : Room := { frames := 1, cells := 0, slots := 0, locals := 29 }
set_option maxHeartbeats 4000000 in
set_option maxRecDepth 100000 in
/-- takeAway -/
theorem t_X1_takeAway (l : Launch) (D : va_G) (kA : Nat → ClassId) (sz : Nat) (f0 : mw_M) {h r x rx : Nat} {g gx : Nat → Int} {n b bx : Int} {nx pl : Nat} (hh : f0 h = some (wh r n b)) (hr : f0 r = some (mw_ar (kA 0) 104 g)) (hx : f0 x = some (wh rx (nx : Int) bx)) (hxr : f0 rx = some (mw_ar (kA 0) 104 gx)) (x1 : x ≠ h) (x2 : rx ≠ r) (hp : pl + nx ≤ 103) (hn : 1 ≤ nx) (hgx : cn gx nx) (hg : dg g (pl + nx + 1)) (hU : wv g pl (nx + 1) < dv gx nx * 1000000) : mw_Mi l yX1_takeAway (Cond.code yX1_takeAway cX1_takeAway 11 ((some .int)) :: gw) rm_X1_takeAway D vwCl (tyL kA) st_S [.ref h, .ref x, .long (lI (ld2 gx nx)), .int (iI ((pl : Int)))] f0 sz (fun v f => v = iI (wv g pl (nx + 1) / dv gx nx) ∧ ∃ g', wSt (kA 0) f0 h r f g' n b ∧ dg g' (pl + nx + 1) ∧ (∀ i, i < pl ∨ pl + nx < i → g' i = g i) ∧ g' (pl + nx) = 0 ∧ wv g' pl nx = wv g pl (nx + 1) % dv gx nx) 0 0 := by
  refine mw_ofi (cc := cX1_takeAway) (maxL := 11) (ret := (some .int)) (by decide) rfl (Nat.le_of_ble_eq_true rfl) ?_
  intro p e s m below meth c A ls Q hQ B hrt hnm hA hI hSt hl
  have hl : lv_has ls 11 [(0, .ref h), (1, .ref x), (2, .long (lI (ld2 gx nx))), (4, .int (iI ((pl : Int))))] := hl
  obtain ⟨f, hI, hT⟩ : ∃ f, mw_I D vwCl A s s.heap [] f ∧ wSt (kA 0) f0 h r f g n b := ⟨f0, hI, wSt.self hh hr⟩
  have x3 := wh_ne hx hr
  have x4 := Ne.symm (wh_ne hh hxr)
  have i1 := ld2_in hgx
  have d1 := hg (pl + nx) (by omega)
  have d2 := hg (pl + nx - 1) (by omega)
  have hV : 0 < dv gx nx := by have := hgx.pos (by omega); have := bp_pos (nx - 1); omega
  have hVP := dv_lt hgx.2.1
  have hdw : dw g pl (nx + 1) := fun i h1 h2 => hg i (by omega)
  have hU0 := wv_nn hdw
  refine mv_iload B dX1_takeAway_0 (lv_at hl 3 rfl) ?_
  refine mv_aload_n B dX1_takeAway_2 rfl (lv_at hl 1 rfl) ?_
  refine ww_size B hI (hT.get hx x1 x3) uin_X1 kw_24 dX1_takeAway_3 ?_
  refine mv_iadd B dX1_takeAway_6 ?_
  refine mv_istore (lv' := [(5, .int (iI (((pl : Int)) + ((nx : Int))))), (0, .ref h), (1, .ref x), (2, .long (lI (ld2 gx nx))), (4, .int (iI ((pl : Int))))]) B dX1_takeAway_7 hl (by decide) rfl (fun ls hl => ?_)
  refine mv_iload B dX1_takeAway_9 (lv_at hl 0 rfl) ?_
  refine mv_iconst B dX1_takeAway_11 ?_
  have j29 : ∀ (un : Int), un = (if 2 ≤ pl + nx then g (pl + nx - 2) else 0) → W p l e rm_X1_takeAway s m ([.ref h, .ref x, .long (lI (ld2 gx nx)), .int (iI ((pl : Int)))] : List Value).toArray below meth c s.heap [] 0 0 Q (F0 m 29 ls [.long (lI (un))]) := by
    intro un hun
    refine mv_lstore (lv' := [(6, .long (lI (un))), (5, .int (iI (((pl : Int)) + ((nx : Int))))), (0, .ref h), (1, .ref x), (2, .long (lI (ld2 gx nx))), (4, .int (iI ((pl : Int))))]) B dX1_takeAway_29 hl (by decide) rfl (fun ls hl => ?_)
    refine mv_aload_n B dX1_takeAway_31 rfl (lv_at hl 2 rfl) ?_
    refine ww_parts B hI hT.1 uin_X1 kw_22 dX1_takeAway_32 ?_
    refine mv_iload B dX1_takeAway_35 (lv_at hl 1 rfl) ?_
    refine mw_iald B hI 0 hT.2.1 rfl (pl + nx) (by omega) (by omega) (by decide) dX1_takeAway_37 ?_
    refine mv_i2l B dX1_takeAway_38 (by omega) ?_
    refine mv_ldc2 (z := 1000000) B dX1_takeAway_39 kw_100 (by decide) ?_
    refine mv_lmul B dX1_takeAway_42 ?_
    refine mv_aload_n B dX1_takeAway_43 rfl (lv_at hl 2 rfl) ?_
    refine ww_parts B hI hT.1 uin_X1 kw_22 dX1_takeAway_44 ?_
    refine mv_iload B dX1_takeAway_47 (lv_at hl 1 rfl) ?_
    refine mv_iconst B dX1_takeAway_49 ?_
    refine mv_isub B dX1_takeAway_50 ?_
    refine mw_iald B hI 0 hT.2.1 rfl (pl + nx - 1) (by omega) (by omega) (by decide) dX1_takeAway_51 ?_
    refine mv_i2l B dX1_takeAway_52 (by omega) ?_
    refine mv_ladd B dX1_takeAway_53 ?_
    refine mv_ldc2 (z := 1000000) B dX1_takeAway_54 kw_100 (by decide) ?_
    refine mv_lmul B dX1_takeAway_57 ?_
    refine mv_lload B dX1_takeAway_58 (lv_at hl 0 rfl) ?_
    refine mv_ladd B dX1_takeAway_60 ?_
    refine mv_nml (fun hd_ hhd_ => ?_)
    have k1 := qh (head := hd_) hn hgx hg hU (by rw [hhd_, hun])
    have k2 : 0 ≤ hd_ / ld2 gx nx := Int.ediv_nonneg k1.1 i1.1
    refine mv_lstore (lv' := [(8, .long (lI (hd_))), (6, .long (lI (un))), (5, .int (iI (((pl : Int)) + ((nx : Int))))), (0, .ref h), (1, .ref x), (2, .long (lI (ld2 gx nx))), (4, .int (iI ((pl : Int))))]) B dX1_takeAway_61 hl (by decide) rfl (fun ls hl => ?_)
    refine mv_lload_n B dX1_takeAway_63 rfl (lv_at hl 5 rfl) ?_
    refine mv_lconst0 B dX1_takeAway_64 ?_
    have j78 : ∀ (q : Int), q = hd_ / ld2 gx nx → W p l e rm_X1_takeAway s m ([.ref h, .ref x, .long (lI (ld2 gx nx)), .int (iI ((pl : Int)))] : List Value).toArray below meth c s.heap [] 0 0 Q (F0 m 78 ls [.int (iI (q))]) := by
      intro q hq
      refine mv_istore (lv' := [(10, .int (iI (q))), (8, .long (lI (hd_))), (6, .long (lI (un))), (5, .int (iI (((pl : Int)) + ((nx : Int))))), (0, .ref h), (1, .ref x), (2, .long (lI (ld2 gx nx))), (4, .int (iI ((pl : Int))))]) B dX1_takeAway_78 hl (by decide) rfl (fun ls hl => ?_)
      refine mv_iload B dX1_takeAway_80 (lv_at hl 0 rfl) ?_
      refine mv_if_ne (tgt := 87) B dX1_takeAway_82 (by decide) (by omega) (fun hc2 => ?_) (fun hc2 => ?_)
      · refine mv_aload_n B dX1_takeAway_87 rfl (lv_at hl 4 rfl) ?_
        refine mv_aload_n B dX1_takeAway_88 rfl (lv_at hl 5 rfl) ?_
        refine mv_iload B dX1_takeAway_89 (lv_at hl 0 rfl) ?_
        refine mv_iload B dX1_takeAway_91 (lv_at hl 7 rfl) ?_
        refine mw_callv hI hA (va_runV (As := [.ref x, .int (iI (q)), .int (iI ((pl : Int)))]) (rest := []) B.fix (t_X1_subtractTimes l D kA s.heap.size f hT.1 hT.2.1 (hT.get hx x1 x3) (hT.get hxr x4 x2) x1 x2 hp (by omega) hgx.2.1 hdw) (cwV 3 B.2.2.2.2.1 (gV kw_207 kw_209 ks_7 kw_2 kw_210) rfl rfl rfl (by decide +kernel) ⟨Nat.le_of_ble_eq_true rfl, Nat.le_of_ble_eq_true rfl⟩) ⟨mw_blind st_S.blind, mw_recv B hI hT.1 rfl, mw_pre B hI (hSt.call hI hA)⟩ rfl rfl hl.1 rfl (lv_room (Nat.le_of_ble_eq_true rfl)) dX1_takeAway_93 ⟨Nat.le_of_ble_eq_true rfl, Nat.le_of_ble_eq_true rfl⟩) (fun f H locs hp_ hI2 => ?_)
        clear hI
        have hI := hI2
        clear hI2
        obtain ⟨g', hT2, s1, s2, s3⟩ := hp_
        have hT := hT.trans hT2
        have s4 : wv g' pl nx + g' (pl + nx) * 1000000 ^ nx = wv g pl (nx + 1) - q * dv gx nx := by rw [s3, wv_s]
        have fit := tk_fit (bp_pos nx) hV hVP (wv_nn s1) (wv_lt s1) s4 (by omega) (by omega)
        refine mv_aload_n B dX1_takeAway_96 rfl (lv_at hl 4 rfl) ?_
        refine ww_parts B hI hT.1 uin_X1 kw_22 dX1_takeAway_97 ?_
        refine mv_iload B dX1_takeAway_100 (lv_at hl 3 rfl) ?_
        refine mw_iald B hI 0 hT.2.1 rfl (pl + nx) (by omega) (by omega) (by decide) dX1_takeAway_102 ?_
        refine mv_if_ge (tgt := 116) B dX1_takeAway_103 (by decide) (by omega) (fun hc3 => ?_) (fun hc3 => ?_)
        · obtain ⟨f1, f2, f3⟩ : g' (pl + nx) = 0 ∧ q = wv g pl (nx + 1) / dv gx nx ∧ wv g' pl nx = wv g pl (nx + 1) % dv gx nx := by omega
          refine mv_iload B dX1_takeAway_116 (lv_at hl 0 rfl) ?_
          have dg1 : dg g' (pl + nx + 1) := fun i hi => by
            rcases Nat.lt_or_ge i pl with a1 | a1
            · rw [s2 i (Or.inl a1)]; exact hg i hi
            · rcases Nat.lt_or_ge i (pl + nx) with a2 | a2
              · exact s1 i a1 a2
              · rw [show i = pl + nx by omega, f1]; decide
          exact mw_iret B hQ hrt hI ⟨by rw [f2], g', hT, dg1, s2, f1, f3⟩ dX1_takeAway_118
        · obtain ⟨f1, f2, f3⟩ : g' (pl + nx) = -1 ∧ q = wv g pl (nx + 1) / dv gx nx + 1 ∧ wv g' pl nx - 1000000 ^ nx + dv gx nx = wv g pl (nx + 1) % dv gx nx := by omega
          refine mv_aload_n B dX1_takeAway_106 rfl (lv_at hl 4 rfl) ?_
          refine mv_aload_n B dX1_takeAway_107 rfl (lv_at hl 5 rfl) ?_
          refine mv_iload B dX1_takeAway_108 (lv_at hl 7 rfl) ?_
          refine mw_callv hI hA (va_runV (As := [.ref x, .int (iI ((pl : Int)))]) (rest := []) B.fix (t_X1_addBack l D kA H.size f hT.1 hT.2.1 (hT.get hx x1 x3) (hT.get hxr x4 x2) x1 x2 hp hgx.2.1 s1) (cwV 2 B.2.2.2.2.1 (gV kw_211 kw_213 ks_8 kw_2 kw_214) rfl rfl rfl (by decide +kernel) ⟨Nat.le_of_ble_eq_true rfl, Nat.le_of_ble_eq_true rfl⟩) ⟨mw_blind st_S.blind, mw_recv B hI hT.1 rfl, mw_pre B hI (hSt.call hI hA)⟩ rfl rfl hl.1 rfl (lv_room (Nat.le_of_ble_eq_true rfl)) dX1_takeAway_110 ⟨Nat.le_of_ble_eq_true rfl, Nat.le_of_ble_eq_true rfl⟩) (fun f H locs hp_ hI2 => ?_)
          clear hI
          have hI := hI2
          clear hI2
          obtain ⟨g2, hT3, u1, u2, u3⟩ := hp_
          have hT := hT.trans hT3
          rw [f1] at u3
          have m1 := Int.emod_nonneg (wv g pl (nx + 1)) (show dv gx nx ≠ 0 by omega)
          have m2 := Int.emod_lt_of_pos (wv g pl (nx + 1)) hV
          have m3 := wv_nn u1
          have m4 := wv_lt u1
          have f4 : g2 (pl + nx) = 0 := t_zero (bp_pos nx) (by omega) (by omega)
          rw [f4, Int.zero_mul, Int.add_zero] at u3
          refine mv_iinc (k := 0) (lv' := [(10, .int (iI (q + (-1)))), (8, .long (lI (hd_))), (6, .long (lI (un))), (5, .int (iI (((pl : Int)) + ((nx : Int))))), (0, .ref h), (1, .ref x), (2, .long (lI (ld2 gx nx))), (4, .int (iI ((pl : Int))))]) B dX1_takeAway_113 hl rfl (by decide) rfl (fun ls hl => ?_)
          refine mv_iload B dX1_takeAway_116 (lv_at hl 0 rfl) ?_
          have dg1 : dg g2 (pl + nx + 1) := fun i hi => by
            rcases Nat.lt_or_ge i pl with a1 | a1
            · rw [u2 i (Or.inl a1), s2 i (Or.inl a1)]; exact hg i hi
            · rcases Nat.lt_or_ge i (pl + nx) with a2 | a2
              · exact u1 i a1 a2
              · rw [show i = pl + nx by omega, f4]; decide
          exact mw_iret B hQ hrt hI ⟨by rw [f2]; congr 1; omega, g2, hT, dg1, fun i hi => (u2 i hi).trans (s2 i hi), f4, by omega⟩ dX1_takeAway_118
      · refine mv_iconst B dX1_takeAway_85 ?_
        have e0 : wv g pl (nx + 1) / dv gx nx = 0 := by have := Int.ediv_nonneg hU0 (Int.le_of_lt hV); omega
        have e1 := Int.mul_ediv_add_emod (wv g pl (nx + 1)) (dv gx nx)
        rw [e0, Int.mul_zero, Int.zero_add] at e1
        have e2 := Int.emod_lt_of_pos (wv g pl (nx + 1)) hV
        have hdn : dw g pl nx := fun i h1 h2 => hg i (by omega)
        have hwn := wv_nn hdn
        have e3 := wv_s g pl nx
        have hwl := wv_lt hdn
        have e4 : g (pl + nx) = 0 := cy_zero d1.1 (bp_pos nx) (by omega)
        rw [e4, Int.zero_mul, Int.add_zero] at e3
        exact mw_iret B hQ hrt hI ⟨by rw [e0], g, hT, hg, fun _ _ => rfl, e4, by omega⟩ dX1_takeAway_86
    refine mv_lcmp_ne (tgt := 73) B dX1_takeAway_65 dX1_takeAway_66 (by decide) (by omega) (fun hc1 => ?_) (fun hc1 => ?_)
    · refine mv_lload B dX1_takeAway_73 (lv_at hl 0 rfl) ?_
      refine mv_lload_n B dX1_takeAway_75 rfl (lv_at hl 5 rfl) ?_
      refine mv_ldiv B dX1_takeAway_76 (by omega) ?_
      refine mv_l2i B dX1_takeAway_77 ?_
      exact j78 _ rfl
    · exact absurd hc1 (by omega)
  refine mv_icmp_lt (tgt := 28) B dX1_takeAway_12 (by decide) (by omega) (fun hc => ?_) (fun hc => ?_)
  · refine mv_lconst0 B dX1_takeAway_28 ?_
    exact j29 _ (by rw [if_neg (by omega)])
  · have d3 := hg (pl + nx - 2) (by omega)
    refine mv_aload_n B dX1_takeAway_15 rfl (lv_at hl 1 rfl) ?_
    refine ww_parts B hI hT.1 uin_X1 kw_22 dX1_takeAway_16 ?_
    refine mv_iload B dX1_takeAway_19 (lv_at hl 0 rfl) ?_
    refine mv_iconst B dX1_takeAway_21 ?_
    refine mv_isub B dX1_takeAway_22 ?_
    refine mw_iald B hI 0 hT.2.1 rfl (pl + nx - 2) (by omega) (by omega) (by decide) dX1_takeAway_23 ?_
    refine mv_i2l B dX1_takeAway_24 (by omega) ?_
    refine mv_goto (tgt := 29) B dX1_takeAway_25 (by decide) ?_
    exact j29 _ (by rw [if_pos (by omega)])
