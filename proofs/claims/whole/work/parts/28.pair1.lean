abbrev rm_X0_change : Room := { frames := 0, cells := 0, slots := 0, locals := 0 }
set_option maxHeartbeats 4000000 in
set_option maxRecDepth 100000 in
/-- change -/
theorem t_X0_change (l : Launch) (D : va_G) (kA : Nat → ClassId) (sz : Nat) (f0 : mw_M) {q un mo fe : Nat} {a_ b_ c_ d_ : Int} (hq : f0 q = some (prc un mo fe a_ b_ c_ d_)) : mw_Mv l yX0_change (Cond.code yX0_change cX0_change 2 (none) :: gw) rm_X0_change D vwCl (tyL kA) st_S [.ref q] f0 sz (fun f => f q = some (prc un fe mo a_ b_ c_ d_) ∧ ∀ k, k ≠ q → f k = f0 k) 0 0 := by
  refine mw_ofv (cc := cX0_change) (maxL := 2) (ret := none) (by decide) rfl (Nat.le_of_ble_eq_true rfl) ?_
  intro p e s m below meth c A ls Q hQ B hrt hnm hA hI hSt hl
  have hl : lv_has ls 2 [(0, .ref q)] := hl
  refine mv_aload_n B dX0_change_0 rfl (lv_at hl 0 rfl) ?_
  refine mw_get (C := RX0) (T := TX0) (N := 7) B hI hq uin_X0 rfl 1 (by decide) kw_46 rfl dX0_change_1 ?_
  refine mv_astore_n (lv' := [(1, .ref mo), (0, .ref q)]) B dX0_change_4 rfl hl (by decide) rfl (fun ls hl => ?_)
  refine mv_aload_n B dX0_change_5 rfl (lv_at hl 1 rfl) ?_
  refine mv_aload_n B dX0_change_6 rfl (lv_at hl 1 rfl) ?_
  refine mw_get (C := RX0) (T := TX0) (N := 7) B hI hq uin_X0 rfl 2 (by decide) kw_47 rfl dX0_change_7 ?_
  refine mw_put2 (C := RX0) (T := TX0) (N := 7) B hI hq uin_X0 tyX0 tyX0_ok nmX0 rfl 1 (by decide) kw_46 rfl rfl rfl (Nat.le_of_ble_eq_true rfl) dX0_change_10 (fun f H locs hq1 ho1 hI => ?_)
  refine mv_aload_n B dX0_change_13 rfl (lv_at hl 1 rfl) ?_
  refine mv_aload_n B dX0_change_14 rfl (lv_at hl 0 rfl) ?_
  refine mw_put2 (C := RX0) (T := TX0) (N := 7) B hI hq1 uin_X0 tyX0 tyX0_ok nmX0 rfl 2 (by decide) kw_47 rfl rfl rfl (Nat.le_of_ble_eq_true rfl) dX0_change_15 (fun f H locs hq2 ho2 hI => ?_)
  exact mw_vret B hQ hrt hI ⟨hq2, fun k hk => by rw [ho2 k hk]; exact ho1 k hk⟩ dX0_change_18
abbrev rm_X0_leadOfThree : Room := { frames := 1, cells := 0, slots := 0, locals := 21 }
set_option maxHeartbeats 4000000 in
set_option maxRecDepth 100000 in
/-- leadOfThree -/
theorem t_X0_leadOfThree (l : Launch) (D : va_G) (kA : Nat → ClassId) (sz : Nat) (f0 : mw_M) {q un mo fe : Nat} {a_ b_ c_ d_ : Int} {rmo x rx : Nat} {bm bx : Int} {nm nx : Nat} {gx : Nat → Int} (hq : f0 q = some (prc un mo fe a_ b_ c_ d_)) (hm : f0 mo = some (wh rmo (nm : Int) bm)) (hx : f0 x = some (wh rx (nx : Int) bx)) (hxr : f0 rx = some (mw_ar (kA 0) 104 gx)) (hn : nm ≤ 104) (hn2 : nx ≤ 104) (hgx : dg gx nx) : mw_Ml l yX0_leadOfThree (Cond.code yX0_leadOfThree cX0_leadOfThree 5 ((some .long)) :: gw) rm_X0_leadOfThree D vwCl (tyL kA) st_S [.ref q, .ref x] f0 sz (fun v f => v = lI (l3 gx nx nm) ∧ f = f0) 0 0 := by
  refine mw_ofl (cc := cX0_leadOfThree) (maxL := 5) (ret := (some .long)) (by decide) rfl (Nat.le_of_ble_eq_true rfl) ?_
  intro p e s m below meth c A ls Q hQ B hrt hnm hA hI hSt hl
  have hl : lv_has ls 5 [(0, .ref q), (1, .ref x)] := hl
  obtain ⟨f, hI, hf⟩ : ∃ f, mw_I D vwCl A s s.heap [] f ∧ f = f0 := ⟨f0, hI, rfl⟩
  have hq1 : f q = some (prc un mo fe a_ b_ c_ d_) := by rw [hf]; exact hq
  have hm1 : f mo = some (wh rmo (nm : Int) bm) := by rw [hf]; exact hm
  have hx1 : f x = some (wh rx (nx : Int) bx) := by rw [hf]; exact hx
  have hxr1 : f rx = some (mw_ar (kA 0) 104 gx) := by rw [hf]; exact hxr
  have b1 := p0_in hgx ((nm : Int) - 1)
  have b2 := p0_in hgx ((nm : Int) - 1 - 1)
  have b3 := p0_in hgx ((nm : Int) - 1 - 2)
  refine mv_aload_n B dX0_leadOfThree_0 rfl (lv_at hl 0 rfl) ?_
  refine mw_get (C := RX0) (T := TX0) (N := 7) B hI hq1 uin_X0 rfl 1 (by decide) kw_46 rfl dX0_leadOfThree_1 ?_
  refine ww_size B hI hm1 uin_X1 kw_25 dX0_leadOfThree_4 ?_
  refine mv_iconst B dX0_leadOfThree_7 ?_
  refine mv_isub B dX0_leadOfThree_8 ?_
  refine mv_istore_n (lv' := [(2, .int (iI (((nm : Int)) - (1)))), (0, .ref q), (1, .ref x)]) B dX0_leadOfThree_9 rfl hl (by decide) rfl (fun ls hl => ?_)
  refine mv_aload_n B dX0_leadOfThree_10 rfl (lv_at hl 2 rfl) ?_
  refine mv_iload_n B dX0_leadOfThree_11 rfl (lv_at hl 0 rfl) ?_
  refine mw_calli hI hA (va_runV (As := [.int (iI (((nm : Int)) - (1)))]) (rest := []) B.fix (t_X1_partOrZero l D kA s.heap.size f hx1 hxr1 hn2 (by omega)) (cwV 1 B.2.2.2.2.1 (gV kw_242 kw_136 kw_137 kw_2 kw_138) rfl rfl rfl (by decide +kernel) ⟨Nat.le_of_ble_eq_true rfl, Nat.le_of_ble_eq_true rfl⟩) ⟨mw_blind st_S.blind, mw_recv B hI hx1 rfl, mw_pre B hI (hSt.call hI hA)⟩ rfl rfl hl.1 rfl (lv_room (Nat.le_of_ble_eq_true rfl)) dX0_leadOfThree_12 ⟨Nat.le_of_ble_eq_true rfl, Nat.le_of_ble_eq_true rfl⟩) (fun r f H locs hp hI2 => ?_)
  clear hI
  have hI := hI2
  clear hI2
  obtain ⟨rfl, rfl⟩ := hp
  rw [show (if (nm : Int) - 1 < 0 then 0 else pz gx nx ((nm : Int) - 1).toNat) = p0_ gx nx ((nm : Int) - 1) from rfl]
  refine mv_i2l B dX0_leadOfThree_15 (by omega) ?_
  refine mv_ldc2 (z := 1000000) B dX0_leadOfThree_16 kw_243 (by decide) ?_
  refine mv_lmul B dX0_leadOfThree_19 ?_
  refine mv_aload_n B dX0_leadOfThree_20 rfl (lv_at hl 2 rfl) ?_
  refine mv_iload_n B dX0_leadOfThree_21 rfl (lv_at hl 0 rfl) ?_
  refine mv_iconst B dX0_leadOfThree_22 ?_
  refine mv_isub B dX0_leadOfThree_23 ?_
  refine mw_calli hI hA (va_runV (As := [.int (iI ((((nm : Int)) - (1)) - (1)))]) (rest := [.long (lI ((p0_ gx nx ((nm : Int) - 1)) * (1000000)))]) B.fix (t_X1_partOrZero l D kA H.size f hx1 hxr1 hn2 (by omega)) (cwV 1 B.2.2.2.2.1 (gV kw_242 kw_136 kw_137 kw_2 kw_138) rfl rfl rfl (by decide +kernel) ⟨Nat.le_of_ble_eq_true rfl, Nat.le_of_ble_eq_true rfl⟩) ⟨mw_blind st_S.blind, mw_recv B hI hx1 rfl, mw_pre B hI (hSt.call hI hA)⟩ rfl rfl hl.1 rfl (lv_room (Nat.le_of_ble_eq_true rfl)) dX0_leadOfThree_24 ⟨Nat.le_of_ble_eq_true rfl, Nat.le_of_ble_eq_true rfl⟩) (fun r f H locs hp hI2 => ?_)
  clear hI
  have hI := hI2
  clear hI2
  obtain ⟨rfl, rfl⟩ := hp
  rw [show (if (nm : Int) - 1 - 1 < 0 then 0 else pz gx nx ((nm : Int) - 1 - 1).toNat) = p0_ gx nx ((nm : Int) - 1 - 1) from rfl]
  refine mv_i2l B dX0_leadOfThree_27 (by omega) ?_
  refine mv_ladd B dX0_leadOfThree_28 ?_
  refine mv_lstore_n (lv' := [(3, .long (lI (((p0_ gx nx ((nm : Int) - 1)) * (1000000)) + (p0_ gx nx ((nm : Int) - 1 - 1))))), (2, .int (iI (((nm : Int)) - (1)))), (0, .ref q), (1, .ref x)]) B dX0_leadOfThree_29 rfl hl (by decide) rfl (fun ls hl => ?_)
  refine mv_lload_n B dX0_leadOfThree_30 rfl (lv_at hl 0 rfl) ?_
  refine mv_ldc2 (z := 1000000) B dX0_leadOfThree_31 kw_243 (by decide) ?_
  refine mv_lmul B dX0_leadOfThree_34 ?_
  refine mv_aload_n B dX0_leadOfThree_35 rfl (lv_at hl 3 rfl) ?_
  refine mv_iload_n B dX0_leadOfThree_36 rfl (lv_at hl 1 rfl) ?_
  refine mv_iconst B dX0_leadOfThree_37 ?_
  refine mv_isub B dX0_leadOfThree_38 ?_
  refine mw_calli hI hA (va_runV (As := [.int (iI ((((nm : Int)) - (1)) - (2)))]) (rest := [.long (lI ((((p0_ gx nx ((nm : Int) - 1)) * (1000000)) + (p0_ gx nx ((nm : Int) - 1 - 1))) * (1000000)))]) B.fix (t_X1_partOrZero l D kA H.size f hx1 hxr1 hn2 (by omega)) (cwV 1 B.2.2.2.2.1 (gV kw_242 kw_136 kw_137 kw_2 kw_138) rfl rfl rfl (by decide +kernel) ⟨Nat.le_of_ble_eq_true rfl, Nat.le_of_ble_eq_true rfl⟩) ⟨mw_blind st_S.blind, mw_recv B hI hx1 rfl, mw_pre B hI (hSt.call hI hA)⟩ rfl rfl hl.1 rfl (lv_room (Nat.le_of_ble_eq_true rfl)) dX0_leadOfThree_39 ⟨Nat.le_of_ble_eq_true rfl, Nat.le_of_ble_eq_true rfl⟩) (fun r f H locs hp hI2 => ?_)
  clear hI
  have hI := hI2
  clear hI2
  obtain ⟨rfl, rfl⟩ := hp
  rw [show (if (nm : Int) - 1 - 2 < 0 then 0 else pz gx nx ((nm : Int) - 1 - 2).toNat) = p0_ gx nx ((nm : Int) - 1 - 2) from rfl]
  refine mv_i2l B dX0_leadOfThree_42 (by omega) ?_
  refine mv_ladd B dX0_leadOfThree_43 ?_
  exact mw_lret B hQ hrt hI ⟨rfl, hf⟩ dX0_leadOfThree_44
abbrev rm_X0_foretellSteps : Room := { frames := 2, cells := 0, slots := 0, locals := 45 }
set_option maxHeartbeats 4000000 in
set_option maxRecDepth 100000 in
/-- foretellSteps -/
theorem t_X0_foretellSteps (l : Launch) (D : va_G) (kA : Nat → ClassId) (sz : Nat) (f0 : mw_M) {q un mo fe : Nat} {a_ b_ c_ d_ : Int} {rmo rfe : Nat} {bm bf : Int} {nm nf : Nat} {gm gf : Nat → Int} (hq : f0 q = some (prc un mo fe a_ b_ c_ d_)) (hm : f0 mo = some (wh rmo (nm : Int) bm)) (hmr : f0 rmo = some (mw_ar (kA 0) 104 gm)) (hf_ : f0 fe = some (wh rfe (nf : Int) bf)) (hfr : f0 rfe = some (mw_ar (kA 0) 104 gf)) (cm : cn gm nm) (cf : cn gf nf) (hn : 1 ≤ nm) (hle : dv gf nf ≤ dv gm nm) : mw_Mv l yX0_foretellSteps (Cond.code yX0_foretellSteps cX0_foretellSteps 14 (none) :: gw) rm_X0_foretellSteps D vwCl (tyL kA) st_S [.ref q] f0 sz (fun f => ∃ a b c d, f q = some (prc un mo fe a b c d) ∧ (∀ k, k ≠ q → f k = f0 k) ∧ lhO (dv gm nm) (dv gf nf) a b c d) 0 0 := by
  refine mw_ofv (cc := cX0_foretellSteps) (maxL := 14) (ret := none) (by decide) rfl (Nat.le_of_ble_eq_true rfl) ?_
  intro p e s m below meth c A ls Q hQ B hrt hnm hA hI hSt hl
  have hl : lv_has ls 14 [(0, .ref q)] := hl
  obtain ⟨f, hI, hf⟩ : ∃ f, mw_I D vwCl A s s.heap [] f ∧ f = f0 := ⟨f0, hI, rfl⟩
  have hq1 : f q = some (prc un mo fe a_ b_ c_ d_) := by rw [hf]; exact hq
  have hm1 : f mo = some (wh rmo (nm : Int) bm) := by rw [hf]; exact hm
  have hmr1 : f rmo = some (mw_ar (kA 0) 104 gm) := by rw [hf]; exact hmr
  have hf1 : f fe = some (wh rfe (nf : Int) bf) := by rw [hf]; exact hf_
  have hfr1 : f rfe = some (mw_ar (kA 0) 104 gf) := by rw [hf]; exact hfr
  have hnf : nf ≤ nm := by
    rcases Nat.lt_or_ge nm nf with q | q
    · have := cm.lt cf q; omega
    · exact q
  have U0 := dv_nn cm.2.1
  have V0 := dv_nn cf.2.1
  have X1 := l3_in cm.2.1 nm
  have Y1 := l3_in cf.2.1 nm
  have X2 := l3_top cm hn
  obtain ⟨K, P, hK, hP, sp⟩ := l3_split hn
  obtain ⟨u0, ua, ub, eU⟩ := sp gm nm cm.2.1 (Nat.le_refl nm)
  obtain ⟨v0, va, vb, eV⟩ := sp gf nf cf.2.1 hnf
  have YX := l3_le hP hK ub va eU eV hle
  have m1 := cm.1
  have m2 := cf.1
  refine mv_aload_n B dX0_foretellSteps_0 rfl (lv_at hl 0 rfl) ?_
  refine mv_aload_n B dX0_foretellSteps_1 rfl (lv_at hl 0 rfl) ?_
  refine mw_get (C := RX0) (T := TX0) (N := 7) B hI hq1 uin_X0 rfl 1 (by decide) kw_46 rfl dX0_foretellSteps_2 ?_
  refine mw_calll hI hA (va_runV (As := [.ref mo]) (rest := []) B.fix (t_X0_leadOfThree l D kA s.heap.size f hq1 hm1 hm1 hmr1 m1 m1 cm.2.1) (cwV 1 B.2.2.2.2.1 (gV kw_238 kw_240 ks_11 kw_3 kw_241) rfl rfl rfl (by decide +kernel) ⟨Nat.le_of_ble_eq_true rfl, Nat.le_of_ble_eq_true rfl⟩) ⟨mw_blind st_S.blind, mw_recv B hI hq1 rfl, mw_pre B hI (hSt.call hI hA)⟩ rfl rfl hl.1 rfl (lv_room (Nat.le_of_ble_eq_true rfl)) dX0_foretellSteps_5 ⟨Nat.le_of_ble_eq_true rfl, Nat.le_of_ble_eq_true rfl⟩) (fun r f H locs hp hI2 => ?_)
  clear hI
  have hI := hI2
  clear hI2
  obtain ⟨rfl, rfl⟩ := hp
  refine mv_lstore_n (lv' := [(1, .long (lI (l3 gm nm nm))), (0, .ref q)]) B dX0_foretellSteps_8 rfl hl (by decide) rfl (fun ls hl => ?_)
  refine mv_aload_n B dX0_foretellSteps_9 rfl (lv_at hl 1 rfl) ?_
  refine mv_aload_n B dX0_foretellSteps_10 rfl (lv_at hl 1 rfl) ?_
  refine mw_get (C := RX0) (T := TX0) (N := 7) B hI hq1 uin_X0 rfl 2 (by decide) kw_47 rfl dX0_foretellSteps_11 ?_
  refine mw_calll hI hA (va_runV (As := [.ref fe]) (rest := []) B.fix (t_X0_leadOfThree l D kA H.size f hq1 hm1 hf1 hfr1 m1 m2 cf.2.1) (cwV 1 B.2.2.2.2.1 (gV kw_238 kw_240 ks_11 kw_3 kw_241) rfl rfl rfl (by decide +kernel) ⟨Nat.le_of_ble_eq_true rfl, Nat.le_of_ble_eq_true rfl⟩) ⟨mw_blind st_S.blind, mw_recv B hI hq1 rfl, mw_pre B hI (hSt.call hI hA)⟩ rfl rfl hl.1 rfl (lv_room (Nat.le_of_ble_eq_true rfl)) dX0_foretellSteps_14 ⟨Nat.le_of_ble_eq_true rfl, Nat.le_of_ble_eq_true rfl⟩) (fun r f H locs hp hI2 => ?_)
  clear hI
  have hI := hI2
  clear hI2
  obtain ⟨rfl, rfl⟩ := hp
  refine mv_lstore_n (lv' := [(3, .long (lI (l3 gf nf nm))), (1, .long (lI (l3 gm nm nm))), (0, .ref q)]) B dX0_foretellSteps_17 rfl hl (by decide) rfl (fun ls hl => ?_)
  refine mv_aload_n B dX0_foretellSteps_18 rfl (lv_at hl 2 rfl) ?_
  refine mv_lconst1 B dX0_foretellSteps_19 ?_
  have ho0 : ∀ k, k ≠ q → f k = f0 k := fun k _ => by rw [hf]
  refine mw_put2 (C := RX0) (T := TX0) (N := 7) B hI hq1 uin_X0 tyX0 tyX0_ok nmX0 rfl 3 (by decide) kw_48 rfl rfl rfl (Nat.le_of_ble_eq_true rfl) dX0_foretellSteps_20 (fun f H locs hqa ho1 hI => ?_)
  refine mv_aload_n B dX0_foretellSteps_23 rfl (lv_at hl 2 rfl) ?_
  refine mv_lconst0 B dX0_foretellSteps_24 ?_
  refine mw_put2 (C := RX0) (T := TX0) (N := 7) B hI hqa uin_X0 tyX0 tyX0_ok nmX0 rfl 4 (by decide) kw_49 rfl rfl rfl (Nat.le_of_ble_eq_true rfl) dX0_foretellSteps_25 (fun f H locs hqb ho2 hI => ?_)
  refine mv_aload_n B dX0_foretellSteps_28 rfl (lv_at hl 2 rfl) ?_
  refine mv_lconst0 B dX0_foretellSteps_29 ?_
  refine mw_put2 (C := RX0) (T := TX0) (N := 7) B hI hqb uin_X0 tyX0 tyX0_ok nmX0 rfl 5 (by decide) kw_50 rfl rfl rfl (Nat.le_of_ble_eq_true rfl) dX0_foretellSteps_30 (fun f H locs hqc ho3 hI => ?_)
  refine mv_aload_n B dX0_foretellSteps_33 rfl (lv_at hl 2 rfl) ?_
  refine mv_lconst1 B dX0_foretellSteps_34 ?_
  refine mw_put2 (C := RX0) (T := TX0) (N := 7) B hI hqc uin_X0 tyX0 tyX0_ok nmX0 rfl 6 (by decide) kw_51 rfl rfl rfl (Nat.le_of_ble_eq_true rfl) dX0_foretellSteps_35 (fun f H locs hqd ho4 hI => ?_)
  refine mv_iconst B dX0_foretellSteps_38 ?_
  refine mv_istore (lv' := [(5, .int (iI (0))), (3, .long (lI (l3 gf nf nm))), (1, .long (lI (l3 gm nm nm))), (0, .ref q)]) B dX0_foretellSteps_39 hl (by decide) rfl (fun ls hl => ?_)
  have ho : ∀ k, k ≠ q → f k = f0 k := fun k hk => by rw [ho4 k hk, ho3 k hk, ho2 k hk, ho1 k hk]; exact ho0 k hk
  have loop : ∀ (μ : Nat) (j : Nat) (i x y a b c_1 d : Int) (f : mw_M) (H : Heap) (locs : List Loc) (ls : Array Slot), 64 - j < μ → i = (j : Int) → j ≤ 64 → lh (l3 gm nm nm) (l3 gf nf nm) (dv gm nm) (dv gf nf) a b c_1 d x y → a * dv gm nm + b * dv gf nf ≤ dv gm nm → x ≤ l3 gm nm nm → f q = some (prc un mo fe a b c_1 d) → (∀ k, k ≠ q → f k = f0 k) → mw_I D vwCl A s H locs f → lv_has ls 14 [(5, .int (iI (i))), (3, .long (lI (y))), (1, .long (lI (x))), (0, .ref q)] → W p l e rm_X0_foretellSteps s m ([.ref q] : List Value).toArray below meth c H locs 0 0 Q (F0 m 41 ls []) := by
    intro μ
    induction μ with
    | zero => intro j i x y a b c_1 d f H locs ls hμ; exact absurd hμ (Nat.not_lt_zero _)
    | succ μ ih =>
      intro j i x y a b c_1 d f H locs ls hμ hi hj hlh hu hx hq ho hI hl
      have hy := hlh.2.2.1
      have hbd := hlh.2.2.2.2.1
      refine mv_iload B dX0_foretellSteps_41 (lv_at hl 0 rfl) ?_
      refine mv_bipush B dX0_foretellSteps_43 (by decide) ?_
      refine mv_icmp_ge (tgt := 181) B dX0_foretellSteps_45 (by decide) (by omega) (fun hd0 => ?_) (fun hd0 => ?_)
      · exact mw_vret B hQ hrt hI ⟨a, b, c_1, d, hq, ho, hlh.out hu⟩ dX0_foretellSteps_181
      · refine mv_lload_n B dX0_foretellSteps_48 rfl (lv_at hl 1 rfl) ?_
        refine mv_aload_n B dX0_foretellSteps_49 rfl (lv_at hl 3 rfl) ?_
        refine mw_get (C := RX0) (T := TX0) (N := 7) B hI hq uin_X0 rfl 5 (by decide) kw_50 rfl dX0_foretellSteps_50 ?_
        refine mv_ladd B dX0_foretellSteps_53 ?_
        refine mv_lstore (lv' := [(6, .long (lI ((y) + (c_1)))), (5, .int (iI (i))), (3, .long (lI (y))), (1, .long (lI (x))), (0, .ref q)]) B dX0_foretellSteps_54 hl (by decide) rfl (fun ls hl => ?_)
        refine mv_lload_n B dX0_foretellSteps_56 rfl (lv_at hl 2 rfl) ?_
        refine mv_aload_n B dX0_foretellSteps_57 rfl (lv_at hl 4 rfl) ?_
        refine mw_get (C := RX0) (T := TX0) (N := 7) B hI hq uin_X0 rfl 6 (by decide) kw_51 rfl dX0_foretellSteps_58 ?_
        refine mv_ladd B dX0_foretellSteps_61 ?_
        refine mv_lstore (lv' := [(8, .long (lI ((y) + (d)))), (6, .long (lI ((y) + (c_1)))), (5, .int (iI (i))), (3, .long (lI (y))), (1, .long (lI (x))), (0, .ref q)]) B dX0_foretellSteps_62 hl (by decide) rfl (fun ls hl => ?_)
        refine mv_lload B dX0_foretellSteps_64 (lv_at hl 1 rfl) ?_
        refine mv_lconst0 B dX0_foretellSteps_66 ?_
        refine mv_lcmp_le (tgt := 78) B dX0_foretellSteps_67 dX0_foretellSteps_68 (by decide) (by omega) (fun hd1 => ?_) (fun hd1 => ?_)
        · exact mw_vret B hQ hrt hI ⟨a, b, c_1, d, hq, ho, hlh.out hu⟩ dX0_foretellSteps_78
        · refine mv_lload B dX0_foretellSteps_71 (lv_at hl 0 rfl) ?_
          refine mv_lconst0 B dX0_foretellSteps_73 ?_
          refine mv_lcmp_gt (tgt := 79) B dX0_foretellSteps_74 dX0_foretellSteps_75 (by decide) (by omega) (fun hd2 => ?_) (fun hd2 => ?_)
          · refine mv_lload_n B dX0_foretellSteps_79 rfl (lv_at hl 4 rfl) ?_
            refine mv_aload_n B dX0_foretellSteps_80 rfl (lv_at hl 5 rfl) ?_
            refine mw_get (C := RX0) (T := TX0) (N := 7) B hI hq uin_X0 rfl 3 (by decide) kw_48 rfl dX0_foretellSteps_81 ?_
            refine mv_ladd B dX0_foretellSteps_84 ?_
            refine mv_lload B dX0_foretellSteps_85 (lv_at hl 1 rfl) ?_
            refine mv_ldiv B dX0_foretellSteps_87 (by omega) ?_
            refine mv_lstore (lv' := [(10, .long (lI (((x) + (a)) / ((y) + (c_1))))), (8, .long (lI ((y) + (d)))), (6, .long (lI ((y) + (c_1)))), (5, .int (iI (i))), (3, .long (lI (y))), (1, .long (lI (x))), (0, .ref q)]) B dX0_foretellSteps_88 hl (by decide) rfl (fun ls hl => ?_)
            refine mv_lload B dX0_foretellSteps_90 (lv_at hl 0 rfl) ?_
            refine mv_lload_n B dX0_foretellSteps_92 rfl (lv_at hl 5 rfl) ?_
            refine mv_aload_n B dX0_foretellSteps_93 rfl (lv_at hl 6 rfl) ?_
            refine mw_get (C := RX0) (T := TX0) (N := 7) B hI hq uin_X0 rfl 4 (by decide) kw_49 rfl dX0_foretellSteps_94 ?_
            refine mv_ladd B dX0_foretellSteps_97 ?_
            refine mv_lload B dX0_foretellSteps_98 (lv_at hl 1 rfl) ?_
            refine mv_ldiv B dX0_foretellSteps_100 (by omega) ?_
            have d1 : 0 ≤ (x + a) / (y + c_1) ∧ (x + a) / (y + c_1) ≤ x + a := ⟨Int.ediv_nonneg (by omega) (by omega), Int.ediv_le_self _ (by omega)⟩
            have d2 : 0 ≤ (x + b) / (y + d) ∧ (x + b) / (y + d) ≤ x + b := ⟨Int.ediv_nonneg (by omega) (by omega), Int.ediv_le_self _ (by omega)⟩
            refine mv_lcmp_eq (tgt := 106) B dX0_foretellSteps_101 dX0_foretellSteps_102 (by decide) (by omega) (fun hd3 => ?_) (fun hd3 => ?_)
            · refine mv_lload_n B dX0_foretellSteps_106 rfl (lv_at hl 5 rfl) ?_
              refine mv_lload B dX0_foretellSteps_107 (lv_at hl 0 rfl) ?_
              refine mv_lload_n B dX0_foretellSteps_109 rfl (lv_at hl 4 rfl) ?_
              refine mv_lmul B dX0_foretellSteps_110 ?_
              refine mv_lsub B dX0_foretellSteps_111 ?_
              refine mv_lstore (lv' := [(12, .long (lI ((x) - ((((x) + (a)) / ((y) + (c_1))) * (y))))), (10, .long (lI (((x) + (a)) / ((y) + (c_1))))), (8, .long (lI ((y) + (d)))), (6, .long (lI ((y) + (c_1)))), (5, .int (iI (i))), (3, .long (lI (y))), (1, .long (lI (x))), (0, .ref q)]) B dX0_foretellSteps_112 hl (by decide) rfl (fun ls hl => ?_)
              refine mv_lload_n B dX0_foretellSteps_114 rfl (lv_at hl 5 rfl) ?_
              refine mv_lstore_n (lv' := [(1, .long (lI (y))), (12, .long (lI ((x) - ((((x) + (a)) / ((y) + (c_1))) * (y))))), (10, .long (lI (((x) + (a)) / ((y) + (c_1))))), (8, .long (lI ((y) + (d)))), (6, .long (lI ((y) + (c_1)))), (5, .int (iI (i))), (3, .long (lI (y))), (0, .ref q)]) B dX0_foretellSteps_115 rfl hl (by decide) rfl (fun ls hl => ?_)
              refine mv_lload B dX0_foretellSteps_116 (lv_at hl 1 rfl) ?_
              refine mv_lstore_n (lv' := [(3, .long (lI ((x) - ((((x) + (a)) / ((y) + (c_1))) * (y))))), (1, .long (lI (y))), (12, .long (lI ((x) - ((((x) + (a)) / ((y) + (c_1))) * (y))))), (10, .long (lI (((x) + (a)) / ((y) + (c_1))))), (8, .long (lI ((y) + (d)))), (6, .long (lI ((y) + (c_1)))), (5, .int (iI (i))), (0, .ref q)]) B dX0_foretellSteps_118 rfl hl (by decide) rfl (fun ls hl => ?_)
              refine mv_aload_n B dX0_foretellSteps_119 rfl (lv_at hl 7 rfl) ?_
              refine mw_get (C := RX0) (T := TX0) (N := 7) B hI hq uin_X0 rfl 3 (by decide) kw_48 rfl dX0_foretellSteps_120 ?_
              refine mv_lload B dX0_foretellSteps_123 (lv_at hl 3 rfl) ?_
              refine mv_aload_n B dX0_foretellSteps_125 rfl (lv_at hl 7 rfl) ?_
              refine mw_get (C := RX0) (T := TX0) (N := 7) B hI hq uin_X0 rfl 5 (by decide) kw_50 rfl dX0_foretellSteps_126 ?_
              refine mv_lmul B dX0_foretellSteps_129 ?_
              refine mv_lsub B dX0_foretellSteps_130 ?_
              refine mv_lstore (lv' := [(12, .long (lI ((a) - ((((x) + (a)) / ((y) + (c_1))) * (c_1))))), (3, .long (lI ((x) - ((((x) + (a)) / ((y) + (c_1))) * (y))))), (1, .long (lI (y))), (10, .long (lI (((x) + (a)) / ((y) + (c_1))))), (8, .long (lI ((y) + (d)))), (6, .long (lI ((y) + (c_1)))), (5, .int (iI (i))), (0, .ref q)]) B dX0_foretellSteps_131 hl (by decide) rfl (fun ls hl => ?_)
              refine mv_aload_n B dX0_foretellSteps_133 rfl (lv_at hl 7 rfl) ?_
              refine mv_aload_n B dX0_foretellSteps_134 rfl (lv_at hl 7 rfl) ?_
              refine mw_get (C := RX0) (T := TX0) (N := 7) B hI hq uin_X0 rfl 5 (by decide) kw_50 rfl dX0_foretellSteps_135 ?_
              refine mw_put2 (C := RX0) (T := TX0) (N := 7) B hI hq uin_X0 tyX0 tyX0_ok nmX0 rfl 3 (by decide) kw_48 rfl rfl rfl (Nat.le_of_ble_eq_true rfl) dX0_foretellSteps_138 (fun f H locs hq1 ho1 hI => ?_)
              refine mv_aload_n B dX0_foretellSteps_141 rfl (lv_at hl 7 rfl) ?_
              refine mv_lload B dX0_foretellSteps_142 (lv_at hl 0 rfl) ?_
              refine mw_put2 (C := RX0) (T := TX0) (N := 7) B hI hq1 uin_X0 tyX0 tyX0_ok nmX0 rfl 5 (by decide) kw_50 rfl rfl rfl (Nat.le_of_ble_eq_true rfl) dX0_foretellSteps_144 (fun f H locs hq2 ho2 hI => ?_)
              refine mv_aload_n B dX0_foretellSteps_147 rfl (lv_at hl 7 rfl) ?_
              refine mw_get (C := RX0) (T := TX0) (N := 7) B hI hq2 uin_X0 rfl 4 (by decide) kw_49 rfl dX0_foretellSteps_148 ?_
              refine mv_lload B dX0_foretellSteps_151 (lv_at hl 3 rfl) ?_
              refine mv_aload_n B dX0_foretellSteps_153 rfl (lv_at hl 7 rfl) ?_
              refine mw_get (C := RX0) (T := TX0) (N := 7) B hI hq2 uin_X0 rfl 6 (by decide) kw_51 rfl dX0_foretellSteps_154 ?_
              refine mv_lmul B dX0_foretellSteps_157 ?_
              refine mv_lsub B dX0_foretellSteps_158 ?_
              refine mv_lstore (lv' := [(12, .long (lI ((b) - ((((x) + (a)) / ((y) + (c_1))) * (d))))), (3, .long (lI ((x) - ((((x) + (a)) / ((y) + (c_1))) * (y))))), (1, .long (lI (y))), (10, .long (lI (((x) + (a)) / ((y) + (c_1))))), (8, .long (lI ((y) + (d)))), (6, .long (lI ((y) + (c_1)))), (5, .int (iI (i))), (0, .ref q)]) B dX0_foretellSteps_159 hl (by decide) rfl (fun ls hl => ?_)
              refine mv_aload_n B dX0_foretellSteps_161 rfl (lv_at hl 7 rfl) ?_
              refine mv_aload_n B dX0_foretellSteps_162 rfl (lv_at hl 7 rfl) ?_
              refine mw_get (C := RX0) (T := TX0) (N := 7) B hI hq2 uin_X0 rfl 6 (by decide) kw_51 rfl dX0_foretellSteps_163 ?_
              refine mw_put2 (C := RX0) (T := TX0) (N := 7) B hI hq2 uin_X0 tyX0 tyX0_ok nmX0 rfl 4 (by decide) kw_49 rfl rfl rfl (Nat.le_of_ble_eq_true rfl) dX0_foretellSteps_166 (fun f H locs hq3 ho3 hI => ?_)
              refine mv_aload_n B dX0_foretellSteps_169 rfl (lv_at hl 7 rfl) ?_
              refine mv_lload B dX0_foretellSteps_170 (lv_at hl 0 rfl) ?_
              refine mw_put2 (C := RX0) (T := TX0) (N := 7) B hI hq3 uin_X0 tyX0 tyX0_ok nmX0 rfl 6 (by decide) kw_51 rfl rfl rfl (Nat.le_of_ble_eq_true rfl) dX0_foretellSteps_172 (fun f H locs hq4 ho4 hI => ?_)
              refine mv_iinc (k := 6) (lv' := [(5, .int (iI (i + 1))), (12, .long (lI ((b) - ((((x) + (a)) / ((y) + (c_1))) * (d))))), (3, .long (lI ((x) - ((((x) + (a)) / ((y) + (c_1))) * (y))))), (1, .long (lI (y))), (10, .long (lI (((x) + (a)) / ((y) + (c_1))))), (8, .long (lI ((y) + (d)))), (6, .long (lI ((y) + (c_1)))), (0, .ref q)]) B dX0_foretellSteps_175 hl rfl (by decide) rfl (fun ls hl => ?_)
              refine mv_goto (tgt := 41) B dX0_foretellSteps_178 (by decide) ?_
              have st := lh_step hK eU eV hP ⟨ua, ub⟩ ⟨va, vb⟩ X1.2 Y1.2 hlh (by omega) (by omega) rfl hd3
              exact ih (j + 1) _ _ _ _ _ _ _ f H locs ls (by omega) (by omega) (by omega) st (by have := hlh.2.2.2.2.2.1; omega) (by omega) hq4 (fun k hk => by rw [ho4 k hk, ho3 k hk, ho2 k hk, ho1 k hk]; exact ho k hk) hI (lv_sub hl [0, 2, 3, 7] rfl)
            · exact mw_vret B hQ hrt hI ⟨a, b, c_1, d, hq, ho, hlh.out hu⟩ dX0_foretellSteps_105
          · exact mw_vret B hQ hrt hI ⟨a, b, c_1, d, hq, ho, hlh.out hu⟩ dX0_foretellSteps_78
  exact loop 65 0 _ _ _ _ _ _ _ f H locs ls (by decide) rfl (by decide) (lh_init Y1.1 YX X2 V0 hle) (by rw [Int.one_mul, Int.zero_mul]; omega) (Int.le_refl _) hqd ho hI (lv_sub hl [0, 1, 2, 3] rfl)
