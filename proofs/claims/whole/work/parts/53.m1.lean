abbrev rm_X3_at : Room := { frames := 0, cells := 0, slots := 0, locals := 0 }
set_option maxHeartbeats 4000000 in
set_option maxRecDepth 100000 in
/-- at -/
theorem t_X3_at (l : Launch) (D : va_G) (kA : Nat → ClassId) (sz : Nat) (f0 : mw_M) {o li si su di : Nat} {L S G U : Nat → Int} {r k : Nat} {xr : Int} {xk : Int} (hM : MS kA f0 f0 o li si su di L S G U) (hL : lr L) (hxr : xr = (r : Int)) (hxk : xk = (k : Int)) (hr : r < 25) (hk : k < 140) : mw_Mi l yX3_at (Cond.code yX3_at cX3_at 3 ((some .int)) :: gw) rm_X3_at D vwCl (tyL kA) st_S [.ref o, .int (iI (xr)), .int (iI (xk))] f0 sz (fun v f => v = iI (L (140 * r + k)) ∧ f = f0) 0 0 := by
  refine mw_ofi (cc := cX3_at) (maxL := 3) (ret := (some .int)) (by decide) rfl (Nat.le_of_ble_eq_true rfl) ?_
  intro p e s m below meth c A ls Q hQ B hrt hnm hA hI hSt hl
  have hl : lv_has ls 3 [(0, .ref o), (1, .int (iI (xr))), (2, .int (iI (xk)))] := hl
  subst hxr
  subst hxk
  obtain ⟨f, hI, hM, hf⟩ : ∃ f, mw_I D vwCl A s s.heap [] f ∧ MS kA f0 f o li si su di L S G U ∧ f = f0 := ⟨f0, hI, hM, rfl⟩
  refine mv_aload_n B dX3_at_0 rfl (lv_at hl 0 rfl) ?_
  refine mw_get (C := RX3) (T := TX3) (N := 4) B hI hM.1 uin_X3 rfl 0 (by decide) kw_381 rfl dX3_at_1 ?_
  refine mv_sipush B dX3_at_4 (by decide) ?_
  refine mv_iload_n B dX3_at_7 rfl (lv_at hl 1 rfl) ?_
  refine mv_imul B dX3_at_8 ?_
  refine mv_iload_n B dX3_at_9 rfl (lv_at hl 2 rfl) ?_
  refine mv_iadd B dX3_at_10 ?_
  refine mw_iald B hI 0 hM.2.1 rfl (140 * r + k) (by omega) (by omega) (by decide) dX3_at_11 ?_
  exact mw_iret B hQ hrt hI ⟨rfl, hf⟩ dX3_at_12
abbrev rm_X3_settle : Room := { frames := 1, cells := 0, slots := 0, locals := 22 }
set_option maxHeartbeats 4000000 in
set_option maxRecDepth 100000 in
/-- settle -/
theorem t_X3_settle (l : Launch) (D : va_G) (kA : Nat → ClassId) (sz : Nat) (f0 : mw_M) {o li si su di : Nat} {L S G U : Nat → Int} {r : Nat} {x : Int} {xr : Int} (hM : MS kA f0 f0 o li si su di L S G U) (hL : lr L) (hxr : xr = (r : Int)) (hr : r < 25) : mw_Mv l yX3_settle (Cond.code yX3_settle cX3_settle 5 (none) :: gw) rm_X3_settle D vwCl (tyL kA) st_S [.ref o, .int (iI (xr)), .int (iI (x))] f0 sz (fun f => MS kA f0 f o li si su di L (upI S r (if mg L r = 0 then 0 else x)) G U) 0 0 := by
  refine mw_ofv (cc := cX3_settle) (maxL := 5) (ret := none) (by decide) rfl (Nat.le_of_ble_eq_true rfl) ?_
  intro p e s m below meth c A ls Q hQ B hrt hnm hA hI hSt hl
  have hl : lv_has ls 5 [(0, .ref o), (1, .int (iI (xr))), (2, .int (iI (x)))] := hl
  subst hxr
  obtain ⟨f, hI, hM, hf⟩ : ∃ f, mw_I D vwCl A s s.heap [] f ∧ MS kA f0 f o li si su di L S G U ∧ f = f0 := ⟨f0, hI, hM, rfl⟩
  refine mv_iconst B dX3_settle_0 ?_
  refine mv_istore_n (lv' := [(3, .int (iI (0))), (0, .ref o), (1, .int (iI ((r : Int)))), (2, .int (iI (x)))]) B dX3_settle_1 rfl hl (by decide) rfl (fun ls hl => ?_)
  refine mv_iconst B dX3_settle_2 ?_
  refine mv_istore (lv' := [(4, .int (iI (0))), (3, .int (iI (0))), (0, .ref o), (1, .int (iI ((r : Int)))), (2, .int (iI (x)))]) B dX3_settle_3 hl (by decide) rfl (fun ls hl => ?_)
  have loop : ∀ (μ : Nat) (j : Nat) (i so : Int) (f : mw_M) (H : Heap) (locs : List Loc) (ls : Array Slot), 140 - j < μ → i = (j : Int) → j ≤ 140 → (so = 0 ∧ (∀ i, i < j → L (140 * r + i) = 0) ∨ so = 1 ∧ mg L r ≠ 0) → MS kA f0 f o li si su di L S G U → mw_I D vwCl A s H locs f → lv_has ls 5 [(4, .int (iI (i))), (3, .int (iI (so))), (0, .ref o), (1, .int (iI ((r : Int)))), (2, .int (iI (x)))] → W p l e rm_X3_settle s m ([.ref o, .int (iI ((r : Int))), .int (iI (x))] : List Value).toArray below meth c H locs 0 0 Q (F0 m 5 ls []) := by
    intro μ
    induction μ with
    | zero => intro j i so f H locs ls hμ; exact absurd hμ (Nat.not_lt_zero _)
    | succ μ ih =>
      intro j i so f H locs ls hμ hi hj hs hM hI hl
      refine mv_iload B dX3_settle_5 (lv_at hl 0 rfl) ?_
      refine mv_sipush B dX3_settle_7 (by decide) ?_
      refine mv_icmp_ge (tgt := 39) B dX3_settle_10 (by decide) (by omega) (fun hd0 => ?_) (fun hd0 => ?_)
      · have hzz : so = 0 → mg L r = 0 := fun e => by
          rcases hs with ⟨_, q⟩ | ⟨q, _⟩
          · exact (mg_zero hL hr).mpr (fun i hi => q i (by omega))
          · omega
        have hnz : ¬ so = 0 → ¬ mg L r = 0 := fun e => by
          rcases hs with ⟨q, _⟩ | ⟨_, q⟩
          · omega
          · exact q
        refine mv_aload_n B dX3_settle_39 rfl (lv_at hl 2 rfl) ?_
        refine mw_get (C := RX3) (T := TX3) (N := 4) B hI hM.1 uin_X3 rfl 1 (by decide) kw_382 rfl dX3_settle_40 ?_
        refine mv_iload_n B dX3_settle_43 rfl (lv_at hl 3 rfl) ?_
        refine mv_iload_n B dX3_settle_44 rfl (lv_at hl 1 rfl) ?_
        refine mv_if_eq (tgt := 52) B dX3_settle_45 (by decide) (by omega) (fun hd5 => ?_) (fun hd5 => ?_)
        · have hz : mg L r = 0 := hzz hd5
          refine mv_iconst B dX3_settle_52 ?_
          refine md_S B hI hM (r) (by omega) (by omega) dX3_settle_53 (fun f H locs hM hI => ?_)
          exact mw_vret B hQ hrt hI (by rw [if_pos hz]; exact hM) dX3_settle_54
        · have hz : ¬ mg L r = 0 := hnz hd5
          refine mv_iload_n B dX3_settle_48 rfl (lv_at hl 4 rfl) ?_
          refine mv_goto (tgt := 53) B dX3_settle_49 (by decide) ?_
          refine md_S B hI hM (r) (by omega) (by omega) dX3_settle_53 (fun f H locs hM hI => ?_)
          exact mw_vret B hQ hrt hI (by rw [if_neg hz]; exact hM) dX3_settle_54
      · refine mv_iload_n B dX3_settle_13 rfl (lv_at hl 1 rfl) ?_
        refine mv_if_ne (tgt := 39) B dX3_settle_14 (by decide) (by omega) (fun hd1 => ?_) (fun hd1 => ?_)
        · have hzz : so = 0 → mg L r = 0 := fun e => absurd e hd1
          have hnz : ¬ so = 0 → ¬ mg L r = 0 := fun e => by
            rcases hs with ⟨q, _⟩ | ⟨_, q⟩
            · omega
            · exact q
          refine mv_aload_n B dX3_settle_39 rfl (lv_at hl 2 rfl) ?_
          refine mw_get (C := RX3) (T := TX3) (N := 4) B hI hM.1 uin_X3 rfl 1 (by decide) kw_382 rfl dX3_settle_40 ?_
          refine mv_iload_n B dX3_settle_43 rfl (lv_at hl 3 rfl) ?_
          refine mv_iload_n B dX3_settle_44 rfl (lv_at hl 1 rfl) ?_
          refine mv_if_eq (tgt := 52) B dX3_settle_45 (by decide) (by omega) (fun hd5 => ?_) (fun hd5 => ?_)
          · have hz : mg L r = 0 := hzz hd5
            refine mv_iconst B dX3_settle_52 ?_
            refine md_S B hI hM (r) (by omega) (by omega) dX3_settle_53 (fun f H locs hM hI => ?_)
            exact mw_vret B hQ hrt hI (by rw [if_pos hz]; exact hM) dX3_settle_54
          · have hz : ¬ mg L r = 0 := hnz hd5
            refine mv_iload_n B dX3_settle_48 rfl (lv_at hl 4 rfl) ?_
            refine mv_goto (tgt := 53) B dX3_settle_49 (by decide) ?_
            refine md_S B hI hM (r) (by omega) (by omega) dX3_settle_53 (fun f H locs hM hI => ?_)
            exact mw_vret B hQ hrt hI (by rw [if_neg hz]; exact hM) dX3_settle_54
        · have hq : ∀ i, i < j → L (140 * r + i) = 0 := by
            rcases hs with ⟨_, q⟩ | ⟨q, _⟩
            · exact q
            · omega
          have lb := hL (140 * r + j) (by omega)
          refine mv_aload_n B dX3_settle_17 rfl (lv_at hl 2 rfl) ?_
          refine mv_iload_n B dX3_settle_18 rfl (lv_at hl 3 rfl) ?_
          refine mv_iload B dX3_settle_19 (lv_at hl 0 rfl) ?_
          refine mw_calli hI hA (va_runV (As := [.int (iI ((r : Int))), .int (iI (i))]) (rest := []) B.fix (t_X3_at l D kA H.size f (r := r) (k := j) hM.self hL (by omega) (by omega) (by omega) (by omega)) (cwV 2 B.2.2.2.2.1 (gV kw_371 kw_373 ks_18 kw_4 kw_374) rfl rfl rfl (by decide +kernel) ⟨Nat.le_of_ble_eq_true rfl, Nat.le_of_ble_eq_true rfl⟩) ⟨mw_blind st_S.blind, mw_recv B hI hM.1 rfl, mw_pre B hI (hSt.call hI hA)⟩ rfl rfl hl.1 rfl (lv_room (Nat.le_of_ble_eq_true rfl)) dX3_settle_21 ⟨Nat.le_of_ble_eq_true rfl, Nat.le_of_ble_eq_true rfl⟩) (fun r f H locs hp hI2 => ?_)
          clear hI
          have hI := hI2
          clear hI2
          obtain ⟨rfl, rfl⟩ := hp
          refine mv_if_eq (tgt := 31) B dX3_settle_24 (by decide) (by omega) (fun hd2 => ?_) (fun hd2 => ?_)
          · refine mv_iconst B dX3_settle_31 ?_
            refine mv_istore_n (lv' := [(3, .int (iI (0))), (4, .int (iI (i))), (0, .ref o), (1, .int (iI ((r : Int)))), (2, .int (iI (x)))]) B dX3_settle_32 rfl hl (by decide) rfl (fun ls hl => ?_)
            refine mv_iinc (k := 1) (lv' := [(4, .int (iI (i + 1))), (3, .int (iI (0))), (0, .ref o), (1, .int (iI ((r : Int)))), (2, .int (iI (x)))]) B dX3_settle_33 hl rfl (by decide) rfl (fun ls hl => ?_)
            refine mv_goto (tgt := 5) B dX3_settle_36 (by decide) ?_
            refine ih (j + 1) _ _ f H locs ls (by omega) (by omega) (by omega) (Or.inl ⟨rfl, fun i hi => ?_⟩) hM hI (lv_sub hl [0, 1, 2, 3, 4] rfl)
            by_cases q : i = j
            · rw [q]; exact hd2
            · exact hq i (by omega)
          · refine mv_iconst B dX3_settle_27 ?_
            refine mv_goto (tgt := 32) B dX3_settle_28 (by decide) ?_
            refine mv_istore_n (lv' := [(3, .int (iI (1))), (4, .int (iI (i))), (0, .ref o), (1, .int (iI ((r : Int)))), (2, .int (iI (x)))]) B dX3_settle_32 rfl hl (by decide) rfl (fun ls hl => ?_)
            refine mv_iinc (k := 1) (lv' := [(4, .int (iI (i + 1))), (3, .int (iI (1))), (0, .ref o), (1, .int (iI ((r : Int)))), (2, .int (iI (x)))]) B dX3_settle_33 hl rfl (by decide) rfl (fun ls hl => ?_)
            refine mv_goto (tgt := 5) B dX3_settle_36 (by decide) ?_
            exact ih (j + 1) _ _ f H locs ls (by omega) (by omega) (by omega) (Or.inr ⟨rfl, fun q => hd2 ((mg_zero hL hr).mp q j (by omega))⟩) hM hI (lv_sub hl [0, 1, 2, 3, 4] rfl)
  exact loop 141 0 _ _ f s.heap [] ls (by decide) rfl (by decide) (Or.inl ⟨rfl, fun i hi => absurd hi (by omega)⟩) hM hI (lv_sub hl [0, 1, 2, 3, 4] rfl)
abbrev rm_X3_move : Room := { frames := 1, cells := 0, slots := 0, locals := 22 }
set_option maxHeartbeats 4000000 in
set_option maxRecDepth 100000 in
/-- move -/
theorem t_X3_move (l : Launch) (D : va_G) (kA : Nat → ClassId) (sz : Nat) (f0 : mw_M) {o li si su di : Nat} {L S G U : Nat → Int} {t a : Nat} {xt : Int} {xa : Int} (hM : MS kA f0 f0 o li si su di L S G U) (hL : lr L) (hxt : xt = (t : Int)) (hxa : xa = (a : Int)) (ht : t < 25) (ha : a < 25) : mw_Mv l yX3_move (Cond.code yX3_move cX3_move 4 (none) :: gw) rm_X3_move D vwCl (tyL kA) st_S [.ref o, .int (iI (xt)), .int (iI (xa))] f0 sz (fun f => ∃ L', MS kA f0 f o li si su di L' (upI S t (S a)) G U ∧ lr L' ∧ (∀ r, r < 25 → r ≠ t → mg L' r = mg L r) ∧ mg L' t = mg L a) 0 0 := by
  refine mw_ofv (cc := cX3_move) (maxL := 4) (ret := none) (by decide) rfl (Nat.le_of_ble_eq_true rfl) ?_
  intro p e s m below meth c A ls Q hQ B hrt hnm hA hI hSt hl
  have hl : lv_has ls 4 [(0, .ref o), (1, .int (iI (xt))), (2, .int (iI (xa)))] := hl
  subst hxt
  subst hxa
  obtain ⟨f, hI, hM, hf⟩ : ∃ f, mw_I D vwCl A s s.heap [] f ∧ MS kA f0 f o li si su di L S G U ∧ f = f0 := ⟨f0, hI, hM, rfl⟩
  refine mv_iconst B dX3_move_0 ?_
  refine mv_istore_n (lv' := [(3, .int (iI (0))), (0, .ref o), (1, .int (iI ((t : Int)))), (2, .int (iI ((a : Int))))]) B dX3_move_1 rfl hl (by decide) rfl (fun ls hl => ?_)
  have loop : ∀ (μ : Nat) (j : Nat) (i : Int) (L' : Nat → Int) (f : mw_M) (H : Heap) (locs : List Loc) (ls : Array Slot), 140 - j < μ → i = (j : Int) → j ≤ 140 → lr L' → (∀ i, ¬ (140 * t ≤ i ∧ i < 140 * t + j) → L' i = L i) → (∀ i, i < j → L' (140 * t + i) = L (140 * a + i)) → MS kA f0 f o li si su di L' S G U → mw_I D vwCl A s H locs f → lv_has ls 4 [(3, .int (iI (i))), (0, .ref o), (1, .int (iI ((t : Int)))), (2, .int (iI ((a : Int))))] → W p l e rm_X3_move s m ([.ref o, .int (iI ((t : Int))), .int (iI ((a : Int)))] : List Value).toArray below meth c H locs 0 0 Q (F0 m 2 ls []) := by
    intro μ
    induction μ with
    | zero => intro j i L' f H locs ls hμ; exact absurd hμ (Nat.not_lt_zero _)
    | succ μ ih =>
      intro j i L' f H locs ls hμ hi hj hL' ho hv hM hI hl
      refine mv_iload_n B dX3_move_2 rfl (lv_at hl 0 rfl) ?_
      refine mv_sipush B dX3_move_3 (by decide) ?_
      refine mv_icmp_ge (tgt := 33) B dX3_move_6 (by decide) (by omega) (fun hd0 => ?_) (fun hd0 => ?_)
      · obtain rfl : j = 140 := by omega
        refine mv_aload_n B dX3_move_33 rfl (lv_at hl 1 rfl) ?_
        refine mw_get (C := RX3) (T := TX3) (N := 4) B hI hM.1 uin_X3 rfl 1 (by decide) kw_382 rfl dX3_move_34 ?_
        refine mv_iload_n B dX3_move_37 rfl (lv_at hl 2 rfl) ?_
        refine mv_aload_n B dX3_move_38 rfl (lv_at hl 1 rfl) ?_
        refine mw_get (C := RX3) (T := TX3) (N := 4) B hI hM.1 uin_X3 rfl 1 (by decide) kw_382 rfl dX3_move_39 ?_
        refine mv_iload_n B dX3_move_42 rfl (lv_at hl 3 rfl) ?_
        refine mw_iald B hI 0 hM.2.2.1 rfl (a) (by omega) (by omega) (by decide) dX3_move_43 ?_
        refine md_S B hI hM (t) (by omega) (by omega) dX3_move_44 (fun f H locs hM hI => ?_)
        exact mw_vret B hQ hrt hI ⟨L', hM, hL', fun r hr hrt => mg_same (fun i hi => ho _ (by omega)), ev_congr hv⟩ dX3_move_45
      · have lb := hL (140 * a + j) (by omega)
        have la : L' (140 * a + j) = L (140 * a + j) := ho _ (by omega)
        refine mv_aload_n B dX3_move_9 rfl (lv_at hl 1 rfl) ?_
        refine mw_get (C := RX3) (T := TX3) (N := 4) B hI hM.1 uin_X3 rfl 0 (by decide) kw_381 rfl dX3_move_10 ?_
        refine mv_sipush B dX3_move_13 (by decide) ?_
        refine mv_iload_n B dX3_move_16 rfl (lv_at hl 2 rfl) ?_
        refine mv_imul B dX3_move_17 ?_
        refine mv_iload_n B dX3_move_18 rfl (lv_at hl 0 rfl) ?_
        refine mv_iadd B dX3_move_19 ?_
        refine mv_aload_n B dX3_move_20 rfl (lv_at hl 1 rfl) ?_
        refine mv_iload_n B dX3_move_21 rfl (lv_at hl 3 rfl) ?_
        refine mv_iload_n B dX3_move_22 rfl (lv_at hl 0 rfl) ?_
        refine mw_calli hI hA (va_runV (As := [.int (iI ((a : Int))), .int (iI (i))]) (rest := [.int (iI (((140) * ((t : Int))) + (i))), .ref li]) B.fix (t_X3_at l D kA H.size f (r := a) (k := j) hM.self hL' (by omega) (by omega) (by omega) (by omega)) (cwV 2 B.2.2.2.2.1 (gV kw_371 kw_373 ks_18 kw_4 kw_374) rfl rfl rfl (by decide +kernel) ⟨Nat.le_of_ble_eq_true rfl, Nat.le_of_ble_eq_true rfl⟩) ⟨mw_blind st_S.blind, mw_recv B hI hM.1 rfl, mw_pre B hI (hSt.call hI hA)⟩ rfl rfl hl.1 rfl (lv_room (Nat.le_of_ble_eq_true rfl)) dX3_move_23 ⟨Nat.le_of_ble_eq_true rfl, Nat.le_of_ble_eq_true rfl⟩) (fun r f H locs hp hI2 => ?_)
        clear hI
        have hI := hI2
        clear hI2
        obtain ⟨rfl, rfl⟩ := hp
        refine md_L B hI hM (140 * t + j) (by omega) (by omega) dX3_move_26 (fun f H locs hM hI => ?_)
        refine mv_iinc (k := 0) (lv' := [(3, .int (iI (i + 1))), (0, .ref o), (1, .int (iI ((t : Int)))), (2, .int (iI ((a : Int))))]) B dX3_move_27 hl rfl (by decide) rfl (fun ls hl => ?_)
        refine mv_goto (tgt := 2) B dX3_move_30 (by decide) ?_
        refine ih (j + 1) _ _ f H locs ls (by omega) (by omega) (by omega) (hL'.up (by omega)) (fun i hi => by rw [upI_ne _ _ (by omega)]; exact ho i (by omega)) (fun i hi => ?_) hM hI (lv_sub hl [0, 1, 2, 3] rfl)
        by_cases q : i = j
        · rw [q, upI_self, la]
        · rw [upI_ne _ _ (by omega)]; exact hv i (by omega)
  exact loop 141 0 _ L f s.heap [] ls (by decide) rfl (by decide) hL (fun _ _ => rfl) (fun i hi => absurd hi (by omega)) hM hI (lv_sub hl [0, 1, 2, 3] rfl)
abbrev rm_X3_sizes : Room := { frames := 1, cells := 0, slots := 0, locals := 22 }
set_option maxHeartbeats 4000000 in
set_option maxRecDepth 100000 in
/-- sizes -/
theorem t_X3_sizes (l : Launch) (D : va_G) (kA : Nat → ClassId) (sz : Nat) (f0 : mw_M) {o li si su di : Nat} {L S G U : Nat → Int} {a b : Nat} {xa : Int} {xb : Int} (hM : MS kA f0 f0 o li si su di L S G U) (hL : lr L) (hxa : xa = (a : Int)) (hxb : xb = (b : Int)) (ha : a < 25) (hb : b < 25) : mw_Mi l yX3_sizes (Cond.code yX3_sizes cX3_sizes 4 ((some .int)) :: gw) rm_X3_sizes D vwCl (tyL kA) st_S [.ref o, .int (iI (xa)), .int (iI (xb))] f0 sz (fun v f => v = iI (c3 (mg L a) (mg L b)) ∧ f = f0) 0 0 := by
  refine mw_ofi (cc := cX3_sizes) (maxL := 4) (ret := (some .int)) (by decide) rfl (Nat.le_of_ble_eq_true rfl) ?_
  intro p e s m below meth c A ls Q hQ B hrt hnm hA hI hSt hl
  have hl : lv_has ls 4 [(0, .ref o), (1, .int (iI (xa))), (2, .int (iI (xb)))] := hl
  subst hxa
  subst hxb
  obtain ⟨f, hI, hM, hf⟩ : ∃ f, mw_I D vwCl A s s.heap [] f ∧ MS kA f0 f o li si su di L S G U ∧ f = f0 := ⟨f0, hI, hM, rfl⟩
  refine mv_sipush B dX3_sizes_0 (by decide) ?_
  refine mv_istore_n (lv' := [(3, .int (iI (139))), (0, .ref o), (1, .int (iI ((a : Int)))), (2, .int (iI ((b : Int))))]) B dX3_sizes_3 rfl hl (by decide) rfl (fun ls hl => ?_)
  have loop : ∀ (μ : Nat) (j : Nat) (i : Int) (f : mw_M) (H : Heap) (locs : List Loc) (ls : Array Slot), j < μ → i = (j : Int) → j ≤ 139 → (∀ i, j < i → i < 140 → L (140 * a + i) = L (140 * b + i)) → MS kA f0 f o li si su di L S G U → f = f0 → mw_I D vwCl A s H locs f → lv_has ls 4 [(3, .int (iI (i))), (0, .ref o), (1, .int (iI ((a : Int)))), (2, .int (iI ((b : Int))))] → W p l e rm_X3_sizes s m ([.ref o, .int (iI ((a : Int))), .int (iI ((b : Int)))] : List Value).toArray below meth c H locs 0 0 Q (F0 m 4 ls []) := by
    intro μ
    induction μ with
    | zero => intro j i f H locs ls hμ; exact absurd hμ (Nat.not_lt_zero _)
    | succ μ ih =>
      intro j i f H locs ls hμ hi hj he hM hf hI hl
      have la := hL (140 * a + j) (by omega)
      have lb := hL (140 * b + j) (by omega)
      have ra := hL.row ha (Nat.le_refl 140)
      have rb := hL.row hb (Nat.le_refl 140)
      refine mv_iload_n B dX3_sizes_4 rfl (lv_at hl 0 rfl) ?_
      refine mv_if_le (tgt := 29) B dX3_sizes_5 (by decide) (by omega) (fun hd0 => ?_) (fun hd0 => ?_)
      · have hlow : L (140 * a + j) = L (140 * b + j) → ∀ i, i < j → L (140 * a + i) = L (140 * b + i) := fun _ i hi => absurd hi (by omega)
        refine mv_aload_n B dX3_sizes_29 rfl (lv_at hl 1 rfl) ?_
        refine mv_iload_n B dX3_sizes_30 rfl (lv_at hl 2 rfl) ?_
        refine mv_iload_n B dX3_sizes_31 rfl (lv_at hl 0 rfl) ?_
        refine mw_calli hI hA (va_runV (As := [.int (iI ((a : Int))), .int (iI (i))]) (rest := []) B.fix (t_X3_at l D kA H.size f (r := a) (k := j) hM.self hL (by omega) (by omega) (by omega) (by omega)) (cwV 2 B.2.2.2.2.1 (gV kw_371 kw_373 ks_18 kw_4 kw_374) rfl rfl rfl (by decide +kernel) ⟨Nat.le_of_ble_eq_true rfl, Nat.le_of_ble_eq_true rfl⟩) ⟨mw_blind st_S.blind, mw_recv B hI hM.1 rfl, mw_pre B hI (hSt.call hI hA)⟩ rfl rfl hl.1 rfl (lv_room (Nat.le_of_ble_eq_true rfl)) dX3_sizes_32 ⟨Nat.le_of_ble_eq_true rfl, Nat.le_of_ble_eq_true rfl⟩) (fun r f H locs hp hI2 => ?_)
        clear hI
        have hI := hI2
        clear hI2
        obtain ⟨rfl, rfl⟩ := hp
        refine mv_aload_n B dX3_sizes_35 rfl (lv_at hl 1 rfl) ?_
        refine mv_iload_n B dX3_sizes_36 rfl (lv_at hl 3 rfl) ?_
        refine mv_iload_n B dX3_sizes_37 rfl (lv_at hl 0 rfl) ?_
        refine mw_calli hI hA (va_runV (As := [.int (iI ((b : Int))), .int (iI (i))]) (rest := [.int (iI (L (140 * a + j)))]) B.fix (t_X3_at l D kA H.size f (r := b) (k := j) hM.self hL (by omega) (by omega) (by omega) (by omega)) (cwV 2 B.2.2.2.2.1 (gV kw_371 kw_373 ks_18 kw_4 kw_374) rfl rfl rfl (by decide +kernel) ⟨Nat.le_of_ble_eq_true rfl, Nat.le_of_ble_eq_true rfl⟩) ⟨mw_blind st_S.blind, mw_recv B hI hM.1 rfl, mw_pre B hI (hSt.call hI hA)⟩ rfl rfl hl.1 rfl (lv_room (Nat.le_of_ble_eq_true rfl)) dX3_sizes_38 ⟨Nat.le_of_ble_eq_true rfl, Nat.le_of_ble_eq_true rfl⟩) (fun r f H locs hp hI2 => ?_)
        clear hI
        have hI := hI2
        clear hI2
        obtain ⟨rfl, rfl⟩ := hp
        refine mv_icmp_ge (tgt := 48) B dX3_sizes_41 (by decide) (by omega) (fun hd5 => ?_) (fun hd5 => ?_)
        · refine mv_aload_n B dX3_sizes_48 rfl (lv_at hl 1 rfl) ?_
          refine mv_iload_n B dX3_sizes_49 rfl (lv_at hl 2 rfl) ?_
          refine mv_iload_n B dX3_sizes_50 rfl (lv_at hl 0 rfl) ?_
          refine mw_calli hI hA (va_runV (As := [.int (iI ((a : Int))), .int (iI (i))]) (rest := []) B.fix (t_X3_at l D kA H.size f (r := a) (k := j) hM.self hL (by omega) (by omega) (by omega) (by omega)) (cwV 2 B.2.2.2.2.1 (gV kw_371 kw_373 ks_18 kw_4 kw_374) rfl rfl rfl (by decide +kernel) ⟨Nat.le_of_ble_eq_true rfl, Nat.le_of_ble_eq_true rfl⟩) ⟨mw_blind st_S.blind, mw_recv B hI hM.1 rfl, mw_pre B hI (hSt.call hI hA)⟩ rfl rfl hl.1 rfl (lv_room (Nat.le_of_ble_eq_true rfl)) dX3_sizes_51 ⟨Nat.le_of_ble_eq_true rfl, Nat.le_of_ble_eq_true rfl⟩) (fun r f H locs hp hI2 => ?_)
          clear hI
          have hI := hI2
          clear hI2
          obtain ⟨rfl, rfl⟩ := hp
          refine mv_aload_n B dX3_sizes_54 rfl (lv_at hl 1 rfl) ?_
          refine mv_iload_n B dX3_sizes_55 rfl (lv_at hl 3 rfl) ?_
          refine mv_iload_n B dX3_sizes_56 rfl (lv_at hl 0 rfl) ?_
          refine mw_calli hI hA (va_runV (As := [.int (iI ((b : Int))), .int (iI (i))]) (rest := [.int (iI (L (140 * a + j)))]) B.fix (t_X3_at l D kA H.size f (r := b) (k := j) hM.self hL (by omega) (by omega) (by omega) (by omega)) (cwV 2 B.2.2.2.2.1 (gV kw_371 kw_373 ks_18 kw_4 kw_374) rfl rfl rfl (by decide +kernel) ⟨Nat.le_of_ble_eq_true rfl, Nat.le_of_ble_eq_true rfl⟩) ⟨mw_blind st_S.blind, mw_recv B hI hM.1 rfl, mw_pre B hI (hSt.call hI hA)⟩ rfl rfl hl.1 rfl (lv_room (Nat.le_of_ble_eq_true rfl)) dX3_sizes_57 ⟨Nat.le_of_ble_eq_true rfl, Nat.le_of_ble_eq_true rfl⟩) (fun r f H locs hp hI2 => ?_)
          clear hI
          have hI := hI2
          clear hI2
          obtain ⟨rfl, rfl⟩ := hp
          refine mv_icmp_le (tgt := 67) B dX3_sizes_60 (by decide) (by omega) (fun hd6 => ?_) (fun hd6 => ?_)
          · refine mv_iconst B dX3_sizes_67 ?_
            have eq : L (140 * a + j) = L (140 * b + j) := by omega
            have hall : ∀ i, i < 140 → L (140 * a + i) = L (140 * b + i) := fun i hi => by
              rcases Nat.lt_trichotomy i j with q | q | q
              · exact hlow (by omega) i q
              · rw [q]; exact eq
              · exact he i q hi
            exact mw_iret B hQ hrt hI ⟨by rw [c3_eq (show mg L a = mg L b from ev_congr hall)], hf⟩ dX3_sizes_68
          · refine mv_iconst B dX3_sizes_63 ?_
            refine mv_goto (tgt := 68) B dX3_sizes_64 (by decide) ?_
            exact mw_iret B hQ hrt hI ⟨by rw [c3_gt (show mg L b < mg L a from ev_cmp rb ra (k := j) (by omega) (fun i h1 h2 => (he i h1 h2).symm) (by omega))], hf⟩ dX3_sizes_68
        · refine mv_iconst B dX3_sizes_44 ?_
          refine mv_goto (tgt := 68) B dX3_sizes_45 (by decide) ?_
          exact mw_iret B hQ hrt hI ⟨by rw [c3_lt (show mg L a < mg L b from ev_cmp ra rb (k := j) (by omega) (fun i h1 h2 => he i h1 h2) (by omega))], hf⟩ dX3_sizes_68
      · refine mv_aload_n B dX3_sizes_8 rfl (lv_at hl 1 rfl) ?_
        refine mv_iload_n B dX3_sizes_9 rfl (lv_at hl 2 rfl) ?_
        refine mv_iload_n B dX3_sizes_10 rfl (lv_at hl 0 rfl) ?_
        refine mw_calli hI hA (va_runV (As := [.int (iI ((a : Int))), .int (iI (i))]) (rest := []) B.fix (t_X3_at l D kA H.size f (r := a) (k := j) hM.self hL (by omega) (by omega) (by omega) (by omega)) (cwV 2 B.2.2.2.2.1 (gV kw_371 kw_373 ks_18 kw_4 kw_374) rfl rfl rfl (by decide +kernel) ⟨Nat.le_of_ble_eq_true rfl, Nat.le_of_ble_eq_true rfl⟩) ⟨mw_blind st_S.blind, mw_recv B hI hM.1 rfl, mw_pre B hI (hSt.call hI hA)⟩ rfl rfl hl.1 rfl (lv_room (Nat.le_of_ble_eq_true rfl)) dX3_sizes_11 ⟨Nat.le_of_ble_eq_true rfl, Nat.le_of_ble_eq_true rfl⟩) (fun r f H locs hp hI2 => ?_)
        clear hI
        have hI := hI2
        clear hI2
        obtain ⟨rfl, rfl⟩ := hp
        refine mv_aload_n B dX3_sizes_14 rfl (lv_at hl 1 rfl) ?_
        refine mv_iload_n B dX3_sizes_15 rfl (lv_at hl 3 rfl) ?_
        refine mv_iload_n B dX3_sizes_16 rfl (lv_at hl 0 rfl) ?_
        refine mw_calli hI hA (va_runV (As := [.int (iI ((b : Int))), .int (iI (i))]) (rest := [.int (iI (L (140 * a + j)))]) B.fix (t_X3_at l D kA H.size f (r := b) (k := j) hM.self hL (by omega) (by omega) (by omega) (by omega)) (cwV 2 B.2.2.2.2.1 (gV kw_371 kw_373 ks_18 kw_4 kw_374) rfl rfl rfl (by decide +kernel) ⟨Nat.le_of_ble_eq_true rfl, Nat.le_of_ble_eq_true rfl⟩) ⟨mw_blind st_S.blind, mw_recv B hI hM.1 rfl, mw_pre B hI (hSt.call hI hA)⟩ rfl rfl hl.1 rfl (lv_room (Nat.le_of_ble_eq_true rfl)) dX3_sizes_17 ⟨Nat.le_of_ble_eq_true rfl, Nat.le_of_ble_eq_true rfl⟩) (fun r f H locs hp hI2 => ?_)
        clear hI
        have hI := hI2
        clear hI2
        obtain ⟨rfl, rfl⟩ := hp
        refine mv_icmp_ne (tgt := 29) B dX3_sizes_20 (by decide) (by omega) (fun hd1 => ?_) (fun hd1 => ?_)
        · have hlow : L (140 * a + j) = L (140 * b + j) → ∀ i, i < j → L (140 * a + i) = L (140 * b + i) := fun q _ _ => absurd q hd1
          refine mv_aload_n B dX3_sizes_29 rfl (lv_at hl 1 rfl) ?_
          refine mv_iload_n B dX3_sizes_30 rfl (lv_at hl 2 rfl) ?_
          refine mv_iload_n B dX3_sizes_31 rfl (lv_at hl 0 rfl) ?_
          refine mw_calli hI hA (va_runV (As := [.int (iI ((a : Int))), .int (iI (i))]) (rest := []) B.fix (t_X3_at l D kA H.size f (r := a) (k := j) hM.self hL (by omega) (by omega) (by omega) (by omega)) (cwV 2 B.2.2.2.2.1 (gV kw_371 kw_373 ks_18 kw_4 kw_374) rfl rfl rfl (by decide +kernel) ⟨Nat.le_of_ble_eq_true rfl, Nat.le_of_ble_eq_true rfl⟩) ⟨mw_blind st_S.blind, mw_recv B hI hM.1 rfl, mw_pre B hI (hSt.call hI hA)⟩ rfl rfl hl.1 rfl (lv_room (Nat.le_of_ble_eq_true rfl)) dX3_sizes_32 ⟨Nat.le_of_ble_eq_true rfl, Nat.le_of_ble_eq_true rfl⟩) (fun r f H locs hp hI2 => ?_)
          clear hI
          have hI := hI2
          clear hI2
          obtain ⟨rfl, rfl⟩ := hp
          refine mv_aload_n B dX3_sizes_35 rfl (lv_at hl 1 rfl) ?_
          refine mv_iload_n B dX3_sizes_36 rfl (lv_at hl 3 rfl) ?_
          refine mv_iload_n B dX3_sizes_37 rfl (lv_at hl 0 rfl) ?_
          refine mw_calli hI hA (va_runV (As := [.int (iI ((b : Int))), .int (iI (i))]) (rest := [.int (iI (L (140 * a + j)))]) B.fix (t_X3_at l D kA H.size f (r := b) (k := j) hM.self hL (by omega) (by omega) (by omega) (by omega)) (cwV 2 B.2.2.2.2.1 (gV kw_371 kw_373 ks_18 kw_4 kw_374) rfl rfl rfl (by decide +kernel) ⟨Nat.le_of_ble_eq_true rfl, Nat.le_of_ble_eq_true rfl⟩) ⟨mw_blind st_S.blind, mw_recv B hI hM.1 rfl, mw_pre B hI (hSt.call hI hA)⟩ rfl rfl hl.1 rfl (lv_room (Nat.le_of_ble_eq_true rfl)) dX3_sizes_38 ⟨Nat.le_of_ble_eq_true rfl, Nat.le_of_ble_eq_true rfl⟩) (fun r f H locs hp hI2 => ?_)
          clear hI
          have hI := hI2
          clear hI2
          obtain ⟨rfl, rfl⟩ := hp
          refine mv_icmp_ge (tgt := 48) B dX3_sizes_41 (by decide) (by omega) (fun hd5 => ?_) (fun hd5 => ?_)
          · refine mv_aload_n B dX3_sizes_48 rfl (lv_at hl 1 rfl) ?_
            refine mv_iload_n B dX3_sizes_49 rfl (lv_at hl 2 rfl) ?_
            refine mv_iload_n B dX3_sizes_50 rfl (lv_at hl 0 rfl) ?_
            refine mw_calli hI hA (va_runV (As := [.int (iI ((a : Int))), .int (iI (i))]) (rest := []) B.fix (t_X3_at l D kA H.size f (r := a) (k := j) hM.self hL (by omega) (by omega) (by omega) (by omega)) (cwV 2 B.2.2.2.2.1 (gV kw_371 kw_373 ks_18 kw_4 kw_374) rfl rfl rfl (by decide +kernel) ⟨Nat.le_of_ble_eq_true rfl, Nat.le_of_ble_eq_true rfl⟩) ⟨mw_blind st_S.blind, mw_recv B hI hM.1 rfl, mw_pre B hI (hSt.call hI hA)⟩ rfl rfl hl.1 rfl (lv_room (Nat.le_of_ble_eq_true rfl)) dX3_sizes_51 ⟨Nat.le_of_ble_eq_true rfl, Nat.le_of_ble_eq_true rfl⟩) (fun r f H locs hp hI2 => ?_)
            clear hI
            have hI := hI2
            clear hI2
            obtain ⟨rfl, rfl⟩ := hp
            refine mv_aload_n B dX3_sizes_54 rfl (lv_at hl 1 rfl) ?_
            refine mv_iload_n B dX3_sizes_55 rfl (lv_at hl 3 rfl) ?_
            refine mv_iload_n B dX3_sizes_56 rfl (lv_at hl 0 rfl) ?_
            refine mw_calli hI hA (va_runV (As := [.int (iI ((b : Int))), .int (iI (i))]) (rest := [.int (iI (L (140 * a + j)))]) B.fix (t_X3_at l D kA H.size f (r := b) (k := j) hM.self hL (by omega) (by omega) (by omega) (by omega)) (cwV 2 B.2.2.2.2.1 (gV kw_371 kw_373 ks_18 kw_4 kw_374) rfl rfl rfl (by decide +kernel) ⟨Nat.le_of_ble_eq_true rfl, Nat.le_of_ble_eq_true rfl⟩) ⟨mw_blind st_S.blind, mw_recv B hI hM.1 rfl, mw_pre B hI (hSt.call hI hA)⟩ rfl rfl hl.1 rfl (lv_room (Nat.le_of_ble_eq_true rfl)) dX3_sizes_57 ⟨Nat.le_of_ble_eq_true rfl, Nat.le_of_ble_eq_true rfl⟩) (fun r f H locs hp hI2 => ?_)
            clear hI
            have hI := hI2
            clear hI2
            obtain ⟨rfl, rfl⟩ := hp
            refine mv_icmp_le (tgt := 67) B dX3_sizes_60 (by decide) (by omega) (fun hd6 => ?_) (fun hd6 => ?_)
            · refine mv_iconst B dX3_sizes_67 ?_
              have eq : L (140 * a + j) = L (140 * b + j) := by omega
              have hall : ∀ i, i < 140 → L (140 * a + i) = L (140 * b + i) := fun i hi => by
                rcases Nat.lt_trichotomy i j with q | q | q
                · exact hlow (by omega) i q
                · rw [q]; exact eq
                · exact he i q hi
              exact mw_iret B hQ hrt hI ⟨by rw [c3_eq (show mg L a = mg L b from ev_congr hall)], hf⟩ dX3_sizes_68
            · refine mv_iconst B dX3_sizes_63 ?_
              refine mv_goto (tgt := 68) B dX3_sizes_64 (by decide) ?_
              exact mw_iret B hQ hrt hI ⟨by rw [c3_gt (show mg L b < mg L a from ev_cmp rb ra (k := j) (by omega) (fun i h1 h2 => (he i h1 h2).symm) (by omega))], hf⟩ dX3_sizes_68
          · refine mv_iconst B dX3_sizes_44 ?_
            refine mv_goto (tgt := 68) B dX3_sizes_45 (by decide) ?_
            exact mw_iret B hQ hrt hI ⟨by rw [c3_lt (show mg L a < mg L b from ev_cmp ra rb (k := j) (by omega) (fun i h1 h2 => he i h1 h2) (by omega))], hf⟩ dX3_sizes_68
        · refine mv_iinc (k := 0) (lv' := [(3, .int (iI (i + (-1)))), (0, .ref o), (1, .int (iI ((a : Int)))), (2, .int (iI ((b : Int))))]) B dX3_sizes_23 hl rfl (by decide) rfl (fun ls hl => ?_)
          refine mv_goto (tgt := 4) B dX3_sizes_26 (by decide) ?_
          refine ih (j - 1) _ f H locs ls (by omega) (by omega) (by omega) (fun i h1 h2 => ?_) hM hf hI (lv_sub hl [0, 1, 2, 3] rfl)
          by_cases q : i = j
          · rw [q]; exact hd1
          · exact he i (by omega) h2
  exact loop 140 139 _ f s.heap [] ls (by decide) rfl (by decide) (fun i h1 h2 => absurd h1 (by omega)) hM hf hI (lv_sub hl [0, 1, 2, 3] rfl)
abbrev rm_X3_addSizes : Room := { frames := 1, cells := 0, slots := 0, locals := 22 }
set_option maxHeartbeats 4000000 in
set_option maxRecDepth 100000 in
/-- addSizes -/
theorem t_X3_addSizes (l : Launch) (D : va_G) (kA : Nat → ClassId) (sz : Nat) (f0 : mw_M) {o li si su di : Nat} {L S G U : Nat → Int} {t a b : Nat} {xt : Int} {xa : Int} {xb : Int} (hM : MS kA f0 f0 o li si su di L S G U) (hL : lr L) (hxt : xt = (t : Int)) (hxa : xa = (a : Int)) (hxb : xb = (b : Int)) (ht : t < 25) (ha : a < 25) (hb : b < 25) (hs : mg L a + mg L b < 65536 ^ 140) : mw_Mv l yX3_addSizes (Cond.code yX3_addSizes cX3_addSizes 6 (none) :: gw) rm_X3_addSizes D vwCl (tyL kA) st_S [.ref o, .int (iI (xt)), .int (iI (xa)), .int (iI (xb))] f0 sz (fun f => ∃ L', MS kA f0 f o li si su di L' S G U ∧ lr L' ∧ (∀ r, r < 25 → r ≠ t → mg L' r = mg L r) ∧ mg L' t = mg L a + mg L b) 0 0 := by
  refine mw_ofv (cc := cX3_addSizes) (maxL := 6) (ret := none) (by decide) rfl (Nat.le_of_ble_eq_true rfl) ?_
  intro p e s m below meth c A ls Q hQ B hrt hnm hA hI hSt hl
  have hl : lv_has ls 6 [(0, .ref o), (1, .int (iI (xt))), (2, .int (iI (xa))), (3, .int (iI (xb)))] := hl
  subst hxt
  subst hxa
  subst hxb
  obtain ⟨f, hI, hM, hf⟩ : ∃ f, mw_I D vwCl A s s.heap [] f ∧ MS kA f0 f o li si su di L S G U ∧ f = f0 := ⟨f0, hI, hM, rfl⟩
  refine mv_iconst B dX3_addSizes_0 ?_
  refine mv_istore (lv' := [(4, .int (iI (0))), (0, .ref o), (1, .int (iI ((t : Int)))), (2, .int (iI ((a : Int)))), (3, .int (iI ((b : Int))))]) B dX3_addSizes_1 hl (by decide) rfl (fun ls hl => ?_)
  refine mv_iconst B dX3_addSizes_3 ?_
  refine mv_istore (lv' := [(5, .int (iI (0))), (4, .int (iI (0))), (0, .ref o), (1, .int (iI ((t : Int)))), (2, .int (iI ((a : Int)))), (3, .int (iI ((b : Int))))]) B dX3_addSizes_4 hl (by decide) rfl (fun ls hl => ?_)
  have loop : ∀ (μ : Nat) (j : Nat) (i cy : Int) (L' : Nat → Int) (f : mw_M) (H : Heap) (locs : List Loc) (ls : Array Slot), 140 - j < μ → i = (j : Int) → j ≤ 140 → (cy = 0 ∨ cy = 1) → lr L' → (∀ i, ¬ (140 * t ≤ i ∧ i < 140 * t + j) → L' i = L i) → ev (fun i => L' (140 * t + i)) j + cy * 65536 ^ j = ev (fun i => L (140 * a + i)) j + ev (fun i => L (140 * b + i)) j → MS kA f0 f o li si su di L' S G U → mw_I D vwCl A s H locs f → lv_has ls 6 [(5, .int (iI (i))), (4, .int (iI (cy))), (0, .ref o), (1, .int (iI ((t : Int)))), (2, .int (iI ((a : Int)))), (3, .int (iI ((b : Int))))] → W p l e rm_X3_addSizes s m ([.ref o, .int (iI ((t : Int))), .int (iI ((a : Int))), .int (iI ((b : Int)))] : List Value).toArray below meth c H locs 0 0 Q (F0 m 6 ls []) := by
    intro μ
    induction μ with
    | zero => intro j i cy L' f H locs ls hμ; exact absurd hμ (Nat.not_lt_zero _)
    | succ μ ih =>
      intro j i cy L' f H locs ls hμ hi hj hcy hL' ho hv hM hI hl
      refine mv_iload B dX3_addSizes_6 (lv_at hl 0 rfl) ?_
      refine mv_sipush B dX3_addSizes_8 (by decide) ?_
      refine mv_icmp_ge (tgt := 65) B dX3_addSizes_11 (by decide) (by omega) (fun hd0 => ?_) (fun hd0 => ?_)
      · obtain rfl : j = 140 := by omega
        rw [evz, evz, evz] at hv
        have p0 := ep_pos 140
        have m1 := mg_nn hL' ht
        have m2 := mg_nn hL ha
        have m3 := mg_nn hL hb
        have z1 : cy = 0 := mt_zero p0 (by omega) (by omega)
        rw [z1, Int.zero_mul, Int.add_zero] at hv
        exact mw_vret B hQ hrt hI ⟨L', hM, hL', fun r hr hrt => mg_same (fun i hi => ho _ (by omega)), hv⟩ dX3_addSizes_65
      · have la := hL (140 * a + j) (by omega)
        have lb := hL (140 * b + j) (by omega)
        have ea : L' (140 * a + j) = L (140 * a + j) := ho _ (by omega)
        have eb : L' (140 * b + j) = L (140 * b + j) := ho _ (by omega)
        refine mv_iload B dX3_addSizes_14 (lv_at hl 1 rfl) ?_
        refine mv_aload_n B dX3_addSizes_16 rfl (lv_at hl 2 rfl) ?_
        refine mv_iload_n B dX3_addSizes_17 rfl (lv_at hl 4 rfl) ?_
        refine mv_iload B dX3_addSizes_18 (lv_at hl 0 rfl) ?_
        refine mw_calli hI hA (va_runV (As := [.int (iI ((a : Int))), .int (iI (i))]) (rest := [.int (iI (cy))]) B.fix (t_X3_at l D kA H.size f (r := a) (k := j) hM.self hL' (by omega) (by omega) (by omega) (by omega)) (cwV 2 B.2.2.2.2.1 (gV kw_371 kw_373 ks_18 kw_4 kw_374) rfl rfl rfl (by decide +kernel) ⟨Nat.le_of_ble_eq_true rfl, Nat.le_of_ble_eq_true rfl⟩) ⟨mw_blind st_S.blind, mw_recv B hI hM.1 rfl, mw_pre B hI (hSt.call hI hA)⟩ rfl rfl hl.1 rfl (lv_room (Nat.le_of_ble_eq_true rfl)) dX3_addSizes_20 ⟨Nat.le_of_ble_eq_true rfl, Nat.le_of_ble_eq_true rfl⟩) (fun r f H locs hp hI2 => ?_)
        clear hI
        have hI := hI2
        clear hI2
        obtain ⟨rfl, rfl⟩ := hp
        refine mv_aload_n B dX3_addSizes_23 rfl (lv_at hl 2 rfl) ?_
        refine mv_iload_n B dX3_addSizes_24 rfl (lv_at hl 5 rfl) ?_
        refine mv_iload B dX3_addSizes_25 (lv_at hl 0 rfl) ?_
        refine mw_calli hI hA (va_runV (As := [.int (iI ((b : Int))), .int (iI (i))]) (rest := [.int (iI (L' (140 * a + j))), .int (iI (cy))]) B.fix (t_X3_at l D kA H.size f (r := b) (k := j) hM.self hL' (by omega) (by omega) (by omega) (by omega)) (cwV 2 B.2.2.2.2.1 (gV kw_371 kw_373 ks_18 kw_4 kw_374) rfl rfl rfl (by decide +kernel) ⟨Nat.le_of_ble_eq_true rfl, Nat.le_of_ble_eq_true rfl⟩) ⟨mw_blind st_S.blind, mw_recv B hI hM.1 rfl, mw_pre B hI (hSt.call hI hA)⟩ rfl rfl hl.1 rfl (lv_room (Nat.le_of_ble_eq_true rfl)) dX3_addSizes_27 ⟨Nat.le_of_ble_eq_true rfl, Nat.le_of_ble_eq_true rfl⟩) (fun r f H locs hp hI2 => ?_)
        clear hI
        have hI := hI2
        clear hI2
        obtain ⟨rfl, rfl⟩ := hp
        refine mv_iadd B dX3_addSizes_30 ?_
        refine mv_iadd B dX3_addSizes_31 ?_
        refine mv_nmi (fun tt htt => ?_)
        rw [ea, eb] at htt
        refine mv_istore (lv' := [(4, .int (iI (tt))), (5, .int (iI (i))), (0, .ref o), (1, .int (iI ((t : Int)))), (2, .int (iI ((a : Int)))), (3, .int (iI ((b : Int))))]) B dX3_addSizes_32 hl (by decide) rfl (fun ls hl => ?_)
        refine mv_aload_n B dX3_addSizes_34 rfl (lv_at hl 2 rfl) ?_
        refine mw_get (C := RX3) (T := TX3) (N := 4) B hI hM.1 uin_X3 rfl 0 (by decide) kw_381 rfl dX3_addSizes_35 ?_
        refine mv_sipush B dX3_addSizes_38 (by decide) ?_
        refine mv_iload_n B dX3_addSizes_41 rfl (lv_at hl 3 rfl) ?_
        refine mv_imul B dX3_addSizes_42 ?_
        refine mv_iload B dX3_addSizes_43 (lv_at hl 1 rfl) ?_
        refine mv_iadd B dX3_addSizes_45 ?_
        refine mv_iload B dX3_addSizes_46 (lv_at hl 0 rfl) ?_
        refine mv_ldc (z := 65535) B dX3_addSizes_48 kw_366 (by decide) ?_
        refine mv_mask B dX3_addSizes_50 ?_
        refine md_L B hI hM (140 * t + j) (by omega) (by omega) dX3_addSizes_51 (fun f H locs hM hI => ?_)
        refine mv_iload B dX3_addSizes_52 (lv_at hl 0 rfl) ?_
        refine mv_bipush B dX3_addSizes_54 (by decide) ?_
        refine mv_shr16 B dX3_addSizes_56 (by omega) ?_
        refine mv_istore (lv' := [(4, .int (iI ((tt) / 65536))), (5, .int (iI (i))), (0, .ref o), (1, .int (iI ((t : Int)))), (2, .int (iI ((a : Int)))), (3, .int (iI ((b : Int))))]) B dX3_addSizes_57 hl (by decide) rfl (fun ls hl => ?_)
        refine mv_iinc (k := 1) (lv' := [(5, .int (iI (i + 1))), (4, .int (iI ((tt) / 65536))), (0, .ref o), (1, .int (iI ((t : Int)))), (2, .int (iI ((a : Int)))), (3, .int (iI ((b : Int))))]) B dX3_addSizes_59 hl rfl (by decide) rfl (fun ls hl => ?_)
        refine mv_goto (tgt := 6) B dX3_addSizes_62 (by decide) ?_
        refine ih (j + 1) _ _ _ f H locs ls (by omega) (by omega) (by omega) (by omega) (hL'.up (by omega)) (fun i hi => by rw [upI_ne _ _ (by omega)]; exact ho i (by omega)) ?_ hM hI (lv_sub hl [0, 1, 2, 3, 4, 5] rfl)
        rw [rowv (L' := L) (by omega), ep_s, ev_s, ev_s]
        have st := am_step (x := L (140 * a + j) + L (140 * b + j)) (pt := tt % 65536) (c2 := tt / 65536) hv (by omega)
        rw [st]
        grind
  exact loop 141 0 _ _ L f s.heap [] ls (by decide) rfl (by decide) (Or.inl rfl) hL (fun _ _ => rfl) (by simp [ev_0]) hM hI (lv_sub hl [0, 1, 2, 3, 4, 5] rfl)
abbrev rm_X3_takeSizes : Room := { frames := 1, cells := 0, slots := 0, locals := 22 }
set_option maxHeartbeats 4000000 in
set_option maxRecDepth 100000 in
/-- takeSizes -/
theorem t_X3_takeSizes (l : Launch) (D : va_G) (kA : Nat → ClassId) (sz : Nat) (f0 : mw_M) {o li si su di : Nat} {L S G U : Nat → Int} {t a b : Nat} {xt : Int} {xa : Int} {xb : Int} (hM : MS kA f0 f0 o li si su di L S G U) (hL : lr L) (hxt : xt = (t : Int)) (hxa : xa = (a : Int)) (hxb : xb = (b : Int)) (ht : t < 25) (ha : a < 25) (hb : b < 25) (hs : mg L b ≤ mg L a) : mw_Mv l yX3_takeSizes (Cond.code yX3_takeSizes cX3_takeSizes 6 (none) :: gw) rm_X3_takeSizes D vwCl (tyL kA) st_S [.ref o, .int (iI (xt)), .int (iI (xa)), .int (iI (xb))] f0 sz (fun f => ∃ L', MS kA f0 f o li si su di L' S G U ∧ lr L' ∧ (∀ r, r < 25 → r ≠ t → mg L' r = mg L r) ∧ mg L' t = mg L a - mg L b) 0 0 := by
  refine mw_ofv (cc := cX3_takeSizes) (maxL := 6) (ret := none) (by decide) rfl (Nat.le_of_ble_eq_true rfl) ?_
  intro p e s m below meth c A ls Q hQ B hrt hnm hA hI hSt hl
  have hl : lv_has ls 6 [(0, .ref o), (1, .int (iI (xt))), (2, .int (iI (xa))), (3, .int (iI (xb)))] := hl
  subst hxt
  subst hxa
  subst hxb
  obtain ⟨f, hI, hM, hf⟩ : ∃ f, mw_I D vwCl A s s.heap [] f ∧ MS kA f0 f o li si su di L S G U ∧ f = f0 := ⟨f0, hI, hM, rfl⟩
  refine mv_iconst B dX3_takeSizes_0 ?_
  refine mv_istore (lv' := [(4, .int (iI (0))), (0, .ref o), (1, .int (iI ((t : Int)))), (2, .int (iI ((a : Int)))), (3, .int (iI ((b : Int))))]) B dX3_takeSizes_1 hl (by decide) rfl (fun ls hl => ?_)
  refine mv_iconst B dX3_takeSizes_3 ?_
  refine mv_istore (lv' := [(5, .int (iI (0))), (4, .int (iI (0))), (0, .ref o), (1, .int (iI ((t : Int)))), (2, .int (iI ((a : Int)))), (3, .int (iI ((b : Int))))]) B dX3_takeSizes_4 hl (by decide) rfl (fun ls hl => ?_)
  have loop : ∀ (μ : Nat) (j : Nat) (i cy : Int) (L' : Nat → Int) (f : mw_M) (H : Heap) (locs : List Loc) (ls : Array Slot), 140 - j < μ → i = (j : Int) → j ≤ 140 → (cy = 0 ∨ cy = -1) → lr L' → (∀ i, ¬ (140 * t ≤ i ∧ i < 140 * t + j) → L' i = L i) → ev (fun i => L' (140 * t + i)) j + cy * 65536 ^ j = ev (fun i => L (140 * a + i)) j - ev (fun i => L (140 * b + i)) j → MS kA f0 f o li si su di L' S G U → mw_I D vwCl A s H locs f → lv_has ls 6 [(5, .int (iI (i))), (4, .int (iI (cy))), (0, .ref o), (1, .int (iI ((t : Int)))), (2, .int (iI ((a : Int)))), (3, .int (iI ((b : Int))))] → W p l e rm_X3_takeSizes s m ([.ref o, .int (iI ((t : Int))), .int (iI ((a : Int))), .int (iI ((b : Int)))] : List Value).toArray below meth c H locs 0 0 Q (F0 m 6 ls []) := by
    intro μ
    induction μ with
    | zero => intro j i cy L' f H locs ls hμ; exact absurd hμ (Nat.not_lt_zero _)
    | succ μ ih =>
      intro j i cy L' f H locs ls hμ hi hj hcy hL' ho hv hM hI hl
      refine mv_iload B dX3_takeSizes_6 (lv_at hl 0 rfl) ?_
      refine mv_sipush B dX3_takeSizes_8 (by decide) ?_
      refine mv_icmp_ge (tgt := 65) B dX3_takeSizes_11 (by decide) (by omega) (fun hd0 => ?_) (fun hd0 => ?_)
      · obtain rfl : j = 140 := by omega
        rw [evz, evz, evz] at hv
        have p0 := ep_pos 140
        have m1 := mg_nn hL' ht
        have m2 := mg_nn hL ha
        have m3 := mg_nn hL hb
        have z1 : cy = 0 := mt_zero p0 (by omega) (by omega)
        rw [z1, Int.zero_mul, Int.add_zero] at hv
        exact mw_vret B hQ hrt hI ⟨L', hM, hL', fun r hr hrt => mg_same (fun i hi => ho _ (by omega)), hv⟩ dX3_takeSizes_65
      · have la := hL (140 * a + j) (by omega)
        have lb := hL (140 * b + j) (by omega)
        have ea : L' (140 * a + j) = L (140 * a + j) := ho _ (by omega)
        have eb : L' (140 * b + j) = L (140 * b + j) := ho _ (by omega)
        refine mv_iload B dX3_takeSizes_14 (lv_at hl 1 rfl) ?_
        refine mv_aload_n B dX3_takeSizes_16 rfl (lv_at hl 2 rfl) ?_
        refine mv_iload_n B dX3_takeSizes_17 rfl (lv_at hl 4 rfl) ?_
        refine mv_iload B dX3_takeSizes_18 (lv_at hl 0 rfl) ?_
        refine mw_calli hI hA (va_runV (As := [.int (iI ((a : Int))), .int (iI (i))]) (rest := [.int (iI (cy))]) B.fix (t_X3_at l D kA H.size f (r := a) (k := j) hM.self hL' (by omega) (by omega) (by omega) (by omega)) (cwV 2 B.2.2.2.2.1 (gV kw_371 kw_373 ks_18 kw_4 kw_374) rfl rfl rfl (by decide +kernel) ⟨Nat.le_of_ble_eq_true rfl, Nat.le_of_ble_eq_true rfl⟩) ⟨mw_blind st_S.blind, mw_recv B hI hM.1 rfl, mw_pre B hI (hSt.call hI hA)⟩ rfl rfl hl.1 rfl (lv_room (Nat.le_of_ble_eq_true rfl)) dX3_takeSizes_20 ⟨Nat.le_of_ble_eq_true rfl, Nat.le_of_ble_eq_true rfl⟩) (fun r f H locs hp hI2 => ?_)
        clear hI
        have hI := hI2
        clear hI2
        obtain ⟨rfl, rfl⟩ := hp
        refine mv_aload_n B dX3_takeSizes_23 rfl (lv_at hl 2 rfl) ?_
        refine mv_iload_n B dX3_takeSizes_24 rfl (lv_at hl 5 rfl) ?_
        refine mv_iload B dX3_takeSizes_25 (lv_at hl 0 rfl) ?_
        refine mw_calli hI hA (va_runV (As := [.int (iI ((b : Int))), .int (iI (i))]) (rest := [.int (iI (L' (140 * a + j))), .int (iI (cy))]) B.fix (t_X3_at l D kA H.size f (r := b) (k := j) hM.self hL' (by omega) (by omega) (by omega) (by omega)) (cwV 2 B.2.2.2.2.1 (gV kw_371 kw_373 ks_18 kw_4 kw_374) rfl rfl rfl (by decide +kernel) ⟨Nat.le_of_ble_eq_true rfl, Nat.le_of_ble_eq_true rfl⟩) ⟨mw_blind st_S.blind, mw_recv B hI hM.1 rfl, mw_pre B hI (hSt.call hI hA)⟩ rfl rfl hl.1 rfl (lv_room (Nat.le_of_ble_eq_true rfl)) dX3_takeSizes_27 ⟨Nat.le_of_ble_eq_true rfl, Nat.le_of_ble_eq_true rfl⟩) (fun r f H locs hp hI2 => ?_)
        clear hI
        have hI := hI2
        clear hI2
        obtain ⟨rfl, rfl⟩ := hp
        refine mv_isub B dX3_takeSizes_30 ?_
        refine mv_iadd B dX3_takeSizes_31 ?_
        refine mv_nmi (fun tt htt => ?_)
        rw [ea, eb] at htt
        refine mv_istore (lv' := [(4, .int (iI (tt))), (5, .int (iI (i))), (0, .ref o), (1, .int (iI ((t : Int)))), (2, .int (iI ((a : Int)))), (3, .int (iI ((b : Int))))]) B dX3_takeSizes_32 hl (by decide) rfl (fun ls hl => ?_)
        refine mv_aload_n B dX3_takeSizes_34 rfl (lv_at hl 2 rfl) ?_
        refine mw_get (C := RX3) (T := TX3) (N := 4) B hI hM.1 uin_X3 rfl 0 (by decide) kw_381 rfl dX3_takeSizes_35 ?_
        refine mv_sipush B dX3_takeSizes_38 (by decide) ?_
        refine mv_iload_n B dX3_takeSizes_41 rfl (lv_at hl 3 rfl) ?_
        refine mv_imul B dX3_takeSizes_42 ?_
        refine mv_iload B dX3_takeSizes_43 (lv_at hl 1 rfl) ?_
        refine mv_iadd B dX3_takeSizes_45 ?_
        refine mv_iload B dX3_takeSizes_46 (lv_at hl 0 rfl) ?_
        refine mv_ldc (z := 65535) B dX3_takeSizes_48 kw_366 (by decide) ?_
        refine mv_mask B dX3_takeSizes_50 ?_
        refine md_L B hI hM (140 * t + j) (by omega) (by omega) dX3_takeSizes_51 (fun f H locs hM hI => ?_)
        refine mv_iload B dX3_takeSizes_52 (lv_at hl 0 rfl) ?_
        refine mv_bipush B dX3_takeSizes_54 (by decide) ?_
        refine mv_shr16 B dX3_takeSizes_56 (by omega) ?_
        refine mv_istore (lv' := [(4, .int (iI ((tt) / 65536))), (5, .int (iI (i))), (0, .ref o), (1, .int (iI ((t : Int)))), (2, .int (iI ((a : Int)))), (3, .int (iI ((b : Int))))]) B dX3_takeSizes_57 hl (by decide) rfl (fun ls hl => ?_)
        refine mv_iinc (k := 1) (lv' := [(5, .int (iI (i + 1))), (4, .int (iI ((tt) / 65536))), (0, .ref o), (1, .int (iI ((t : Int)))), (2, .int (iI ((a : Int)))), (3, .int (iI ((b : Int))))]) B dX3_takeSizes_59 hl rfl (by decide) rfl (fun ls hl => ?_)
        refine mv_goto (tgt := 6) B dX3_takeSizes_62 (by decide) ?_
        refine ih (j + 1) _ _ _ f H locs ls (by omega) (by omega) (by omega) (by omega) (hL'.up (by omega)) (fun i hi => by rw [upI_ne _ _ (by omega)]; exact ho i (by omega)) ?_ hM hI (lv_sub hl [0, 1, 2, 3, 4, 5] rfl)
        rw [rowv (L' := L) (by omega), ep_s, ev_s, ev_s]
        have st := am_step (x := L (140 * a + j) - L (140 * b + j)) (pt := tt % 65536) (c2 := tt / 65536) hv (by omega)
        rw [st]
        grind
  exact loop 141 0 _ _ L f s.heap [] ls (by decide) rfl (by decide) (Or.inl rfl) hL (fun _ _ => rfl) (by simp [ev_0]) hM hI (lv_sub hl [0, 1, 2, 3, 4, 5] rfl)
