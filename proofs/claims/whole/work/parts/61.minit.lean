abbrev rm_X3_init : Room := { frames := 3, cells := 4, slots := 4505, locals := 73 }
set_option maxHeartbeats 4000000 in
set_option maxRecDepth 100000 in
/-- BigDeskModel() -/
theorem t_X3_init (l : Launch) (D : va_G) (kA : Nat → ClassId) (sz : Nat) (f0 : mw_M) {o : Nat} (ho : f0 o = some (.inr (3, [.null, .null, .null, .null]))) : mw_Mv l yX3_init (Cond.code yX3_init cX3_init 2 (none) :: gw) rm_X3_init D vwCl (tyL kA) st_S [.ref o] f0 sz (fun f => ∃ (li si su di : Nat) (Z : Nat → Int), MM kA f0 f o li si su di Z ∧ Z 24 = 1000000 ^ 50 ∧ (∀ i, i < 16 → Z i = 0) ∧ f0 li = none ∧ f0 si = none ∧ f0 su = none ∧ f0 di = none) 4 4505 := by
  refine mw_ofv (cc := cX3_init) (maxL := 2) (ret := none) (by decide) rfl (Nat.le_of_ble_eq_true rfl) ?_
  intro p e s m below meth c A ls Q hQ B hrt hnm hA hI hSt hl
  have hl : lv_has ls 2 [(0, .ref o)] := hl
  obtain ⟨f, hI, hf⟩ : ∃ f, mw_I D vwCl A s s.heap [] f ∧ f = f0 := ⟨f0, hI, rfl⟩
  have ho0 : f o = some (.inr (3, [.null, .null, .null, .null])) := by rw [hf]; exact ho
  refine mv_aload_n B dX3_init_0 rfl (lv_at hl 0 rfl) ?_
  refine mw_obj B hl.1 kw_361 kw_13 kw_14 (Nat.le_of_ble_eq_true rfl) (Nat.le_of_ble_eq_true rfl) dX3_init_1 ?_
  refine mv_aload_n B dX3_init_4 rfl (lv_at hl 0 rfl) ?_
  refine mv_sipush B dX3_init_5 (by decide) ?_
  refine mw_newi (N := 3500) B hI hA kw_36 0 rfl (by decide) (Nat.le_of_ble_eq_true rfl) (Nat.le_of_ble_eq_true rfl) dX3_init_8 (fun li H n_li hI => ?_)
  obtain ⟨f1, hf1⟩ : ∃ f1, f1 = mw_set f li (mw_ar (kA 0) 3500 (fun _ => 0)) := ⟨_, rfl⟩
  have hI : mw_I D vwCl A s H [] f1 := by rw [hf1]; exact hI
  have d_li : li ≠ o := fun q => by rw [q, ho0] at n_li; cases n_li
  have a_li : f1 li = some (mw_ar (kA 0) 3500 (fun _ => 0)) := by rw [hf1]; exact mw_set_self _ _ _
  have g_li : ∀ k, k ≠ li → f1 k = f k := fun k hk => by rw [hf1]; exact mw_set_ne _ _ hk
  have hx : f1 o = some (.inr (3, [.null, .null, .null, .null])) := (g_li o (Ne.symm d_li)).trans ho0
  refine mw_putF2 (C := RX3) (T := TX3) (N := 4) B hI hx uin_X3 tyX3 tyX3_ok nmX3 rfl 0 (by decide) kw_381 rfl hnm rfl rfl rfl (Nat.le_of_ble_eq_true rfl) dX3_init_10 (fun f H locs ho1 p_li hI => ?_)
  have a_li := (p_li li d_li).trans a_li
  have h0_li : f0 li = none := by rw [← hf]; exact n_li
  have off : ∀ k, (k ≠ o ∧ k ≠ li) → f k = f0 k := fun k h => ((p_li k h.1).trans (g_li k h.2)).trans (by rw [← hf])
  refine mv_aload_n B dX3_init_13 rfl (lv_at hl 0 rfl) ?_
  refine mv_bipush B dX3_init_14 (by decide) ?_
  refine mw_newi (N := 25) B hI hA kw_36 0 rfl (by decide) (Nat.le_of_ble_eq_true rfl) (Nat.le_of_ble_eq_true rfl) dX3_init_16 (fun si H n_si hI => ?_)
  obtain ⟨f1, hf1⟩ : ∃ f1, f1 = mw_set f si (mw_ar (kA 0) 25 (fun _ => 0)) := ⟨_, rfl⟩
  have hI : mw_I D vwCl A s H locs f1 := by rw [hf1]; exact hI
  have d_si : si ≠ o := fun q => by rw [q, ho1] at n_si; cases n_si
  have a_si : f1 si = some (mw_ar (kA 0) 25 (fun _ => 0)) := by rw [hf1]; exact mw_set_self _ _ _
  have g_si : ∀ k, k ≠ si → f1 k = f k := fun k hk => by rw [hf1]; exact mw_set_ne _ _ hk
  have hx : f1 o = some (.inr (3, [.ref li, .null, .null, .null])) := (g_si o (Ne.symm d_si)).trans ho1
  refine mw_putF2 (C := RX3) (T := TX3) (N := 4) B hI hx uin_X3 tyX3 tyX3_ok nmX3 rfl 1 (by decide) kw_382 rfl hnm rfl rfl rfl (Nat.le_of_ble_eq_true rfl) dX3_init_18 (fun f H locs ho2 p_si hI => ?_)
  have e_li : li ≠ si := fun q => by rw [← q, a_li] at n_si; cases n_si
  have a_li := ((p_si li d_li).trans (g_si li e_li)).trans a_li
  have a_si := (p_si si d_si).trans a_si
  have h0_si : f0 si = none := by rw [← off si (by exact ⟨d_si, Ne.symm e_li⟩)]; exact n_si
  have off : ∀ k, (k ≠ o ∧ k ≠ li ∧ k ≠ si) → f k = f0 k := fun k h => ((p_si k h.1).trans (g_si k h.2.2)).trans (off k ⟨h.1, h.2.1⟩)
  refine mv_aload_n B dX3_init_21 rfl (lv_at hl 0 rfl) ?_
  refine mv_sipush B dX3_init_22 (by decide) ?_
  refine mw_newl (N := 280) B hI hA kw_394 2 rfl (by decide) (Nat.le_of_ble_eq_true rfl) (Nat.le_of_ble_eq_true rfl) dX3_init_25 (fun su H n_su hI => ?_)
  obtain ⟨f1, hf1⟩ : ∃ f1, f1 = mw_set f su (mw_la (kA 2) 280 (fun _ => 0)) := ⟨_, rfl⟩
  have hI : mw_I D vwCl A s H locs f1 := by rw [hf1]; exact hI
  have d_su : su ≠ o := fun q => by rw [q, ho2] at n_su; cases n_su
  have a_su : f1 su = some (mw_la (kA 2) 280 (fun _ => 0)) := by rw [hf1]; exact mw_set_self _ _ _
  have g_su : ∀ k, k ≠ su → f1 k = f k := fun k hk => by rw [hf1]; exact mw_set_ne _ _ hk
  have hx : f1 o = some (.inr (3, [.ref li, .ref si, .null, .null])) := (g_su o (Ne.symm d_su)).trans ho2
  refine mw_putF2 (C := RX3) (T := TX3) (N := 4) B hI hx uin_X3 tyX3 tyX3_ok nmX3 rfl 2 (by decide) kw_383 rfl hnm rfl rfl rfl (Nat.le_of_ble_eq_true rfl) dX3_init_27 (fun f H locs ho3 p_su hI => ?_)
  have e_li : li ≠ su := fun q => by rw [← q, a_li] at n_su; cases n_su
  have a_li := ((p_su li d_li).trans (g_su li e_li)).trans a_li
  have e_si : si ≠ su := fun q => by rw [← q, a_si] at n_su; cases n_su
  have a_si := ((p_su si d_si).trans (g_su si e_si)).trans a_si
  have a_su := (p_su su d_su).trans a_su
  have h0_su : f0 su = none := by rw [← off su (by exact ⟨d_su, Ne.symm e_li, Ne.symm e_si⟩)]; exact n_su
  have off : ∀ k, (k ≠ o ∧ k ≠ li ∧ k ≠ si ∧ k ≠ su) → f k = f0 k := fun k h => ((p_su k h.1).trans (g_su k h.2.2.2)).trans (off k ⟨h.1, h.2.1, h.2.2.1⟩)
  refine mv_aload_n B dX3_init_30 rfl (lv_at hl 0 rfl) ?_
  refine mv_sipush B dX3_init_31 (by decide) ?_
  refine mw_newi (N := 700) B hI hA kw_36 0 rfl (by decide) (Nat.le_of_ble_eq_true rfl) (Nat.le_of_ble_eq_true rfl) dX3_init_34 (fun di H n_di hI => ?_)
  obtain ⟨f1, hf1⟩ : ∃ f1, f1 = mw_set f di (mw_ar (kA 0) 700 (fun _ => 0)) := ⟨_, rfl⟩
  have hI : mw_I D vwCl A s H locs f1 := by rw [hf1]; exact hI
  have d_di : di ≠ o := fun q => by rw [q, ho3] at n_di; cases n_di
  have a_di : f1 di = some (mw_ar (kA 0) 700 (fun _ => 0)) := by rw [hf1]; exact mw_set_self _ _ _
  have g_di : ∀ k, k ≠ di → f1 k = f k := fun k hk => by rw [hf1]; exact mw_set_ne _ _ hk
  have hx : f1 o = some (.inr (3, [.ref li, .ref si, .ref su, .null])) := (g_di o (Ne.symm d_di)).trans ho3
  refine mw_putF2 (C := RX3) (T := TX3) (N := 4) B hI hx uin_X3 tyX3 tyX3_ok nmX3 rfl 3 (by decide) kw_384 rfl hnm rfl rfl rfl (Nat.le_of_ble_eq_true rfl) dX3_init_36 (fun f H locs ho4 p_di hI => ?_)
  have e_li : li ≠ di := fun q => by rw [← q, a_li] at n_di; cases n_di
  have a_li := ((p_di li d_li).trans (g_di li e_li)).trans a_li
  have e_si : si ≠ di := fun q => by rw [← q, a_si] at n_di; cases n_di
  have a_si := ((p_di si d_si).trans (g_di si e_si)).trans a_si
  have e_su : su ≠ di := fun q => by rw [← q, a_su] at n_di; cases n_di
  have a_su := ((p_di su d_su).trans (g_di su e_su)).trans a_su
  have a_di := (p_di di d_di).trans a_di
  have h0_di : f0 di = none := by rw [← off di (by exact ⟨d_di, Ne.symm e_li, Ne.symm e_si, Ne.symm e_su⟩)]; exact n_di
  have off : ∀ k, (k ≠ o ∧ k ≠ li ∧ k ≠ si ∧ k ≠ su ∧ k ≠ di) → f k = f0 k := fun k h => ((p_di k h.1).trans (g_di k h.2.2.2.2)).trans (off k ⟨h.1, h.2.1, h.2.2.1, h.2.2.2.1⟩)
  have hM : MS kA f0 f o li si su di (fun _ => 0) (fun _ => 0) (fun _ => 0) (fun _ => 0) := ⟨ho4, a_li, a_si, a_di, a_su, fun k hk => off k ⟨fun q => hk (Or.inl q), fun q => hk (Or.inr (Or.inl q)), fun q => hk (Or.inr (Or.inr (Or.inl q))), fun q => hk (Or.inr (Or.inr (Or.inr (Or.inl q)))), fun q => hk (Or.inr (Or.inr (Or.inr (Or.inr q))))⟩⟩
  have hL : lr (fun _ => 0) := fun _ _ => ⟨Int.le_refl 0, (by decide : (0 : Int) < 65536)⟩
  obtain ⟨Z, hZ0, hm⟩ : ∃ Z, Z = (fun _ => (0 : Int)) ∧ MM kA f0 f o li si su di Z := ⟨_, rfl, _, _, _, _, hM, hL, fun r hr => ⟨(mg_zero hL hr).mpr (fun _ _ => rfl), (c3_eq rfl).symm⟩⟩
  clear hM hL
  refine mv_aload_n B dX3_init_39 rfl (lv_at hl 0 rfl) ?_
  refine mv_bipush B dX3_init_40 (by decide) ?_
  refine mv_lconst1 B dX3_init_42 ?_
  obtain ⟨L, S, G, U, hM, hL, hZ⟩ := id hm
  refine mw_callv hI hA (va_runV (As := [.int (iI (24)), .long (lI (1))]) (rest := []) B.fix (t_X3_put l D kA H.size f (t := 24) hM.self hL (by omega) (by omega) (by omega)) (cwV 2 B.2.2.2.2.1 (gV kw_362 kw_364 ks_16 kw_4 kw_365) rfl rfl rfl (by decide +kernel) ⟨Nat.le_of_ble_eq_true rfl, Nat.le_of_ble_eq_true rfl⟩) ⟨mw_blind st_S.blind, mw_recv B hI hM.1 rfl, mw_pre B hI (hSt.call hI hA)⟩ rfl rfl hl.1 rfl (lv_room (Nat.le_of_ble_eq_true rfl)) dX3_init_43 ⟨Nat.le_of_ble_eq_true rfl, Nat.le_of_ble_eq_true rfl⟩) (fun f H locs hp hI2 => ?_)
  clear hI
  have hI := hI2
  clear hI2
  obtain ⟨L1, hM1, hL1, ro1, hv1⟩ := hp
  obtain ⟨Z1, hZ1, hm⟩ : ∃ Z', Z' = upI Z (24) (1) ∧ MM kA f0 f o li si su di Z' := ⟨_, rfl, MM.u hZ (hM.tr hM1) hL1 ro1 hv1 rfl⟩
  have v1 : Z1 (24) = 1 := by rw [hZ1, upI_self]
  have r1 : ∀ i, i ≠ 24 → Z1 i = Z i := fun i hi => by rw [hZ1, upI_ne _ _ hi]
  refine mv_aload_n B dX3_init_46 rfl (lv_at hl 0 rfl) ?_
  refine mv_bipush B dX3_init_47 (by decide) ?_
  refine mv_ldc2 (z := 10) B dX3_init_49 kw_375 (by decide) ?_
  obtain ⟨L, S, G, U, hM, hL, hZ⟩ := id hm
  refine mw_callv hI hA (va_runV (As := [.int (iI (17)), .long (lI (10))]) (rest := []) B.fix (t_X3_put l D kA H.size f (t := 17) hM.self hL (by omega) (by omega) (by omega)) (cwV 2 B.2.2.2.2.1 (gV kw_362 kw_364 ks_16 kw_4 kw_365) rfl rfl rfl (by decide +kernel) ⟨Nat.le_of_ble_eq_true rfl, Nat.le_of_ble_eq_true rfl⟩) ⟨mw_blind st_S.blind, mw_recv B hI hM.1 rfl, mw_pre B hI (hSt.call hI hA)⟩ rfl rfl hl.1 rfl (lv_room (Nat.le_of_ble_eq_true rfl)) dX3_init_52 ⟨Nat.le_of_ble_eq_true rfl, Nat.le_of_ble_eq_true rfl⟩) (fun f H locs hp hI2 => ?_)
  clear hI
  have hI := hI2
  clear hI2
  obtain ⟨L1, hM1, hL1, ro1, hv1⟩ := hp
  obtain ⟨Z2, hZ2, hm⟩ : ∃ Z', Z' = upI Z1 (17) (10) ∧ MM kA f0 f o li si su di Z' := ⟨_, rfl, MM.u hZ (hM.tr hM1) hL1 ro1 hv1 rfl⟩
  have v2 : Z2 (17) = 10 := by rw [hZ2, upI_self]
  have r2 : ∀ i, i ≠ 17 → Z2 i = Z1 i := fun i hi => by rw [hZ2, upI_ne _ _ hi]
  refine mv_iconst B dX3_init_55 ?_
  refine mv_istore_n (lv' := [(1, .int (iI (0))), (0, .ref o)]) B dX3_init_56 rfl hl (by decide) rfl (fun ls hl => ?_)
  refine W.widen (k := 4) (n := 4505) (by omega) (by omega) ?_
  have loop : ∀ (μ : Nat) (k : Nat) (i : Int) (Zc : Nat → Int) (f : mw_M) (H : Heap) (locs : List Loc) (ls : Array Slot), 300 - k < μ → i = (k : Int) → k ≤ 300 → Zc 24 = 10 ^ k → Zc 17 = 10 → (∀ r, r < 16 → Zc r = 0) → MM kA f0 f o li si su di Zc → mw_I D vwCl A s H locs f → lv_has ls 2 [(1, .int (iI (i))), (0, .ref o)] → W p l e rm_X3_init s m ([.ref o] : List Value).toArray below meth c H locs 4 4505 Q (F0 m 57 ls []) := by
    intro μ
    induction μ with
    | zero => intro k i Zc f H locs ls hμ; exact absurd hμ (Nat.not_lt_zero _)
    | succ μ ih =>
      intro k i Zc f H locs ls hμ hi hk h1 h2 h3 hm hI hl
      refine mv_iload_n B dX3_init_57 rfl (lv_at hl 0 rfl) ?_
      refine mv_sipush B dX3_init_58 (by decide) ?_
      refine mv_icmp_ge (tgt := 80) B dX3_init_61 (by decide) (by omega) (fun hd0 => ?_) (fun hd0 => ?_)
      · obtain rfl : k = 300 := by omega
        rw [show (10 : Int) ^ 300 = 1000000 ^ 50 from (bp_tp 50).symm] at h1
        exact mw_vret B hQ hrt hI ⟨li, si, su, di, Zc, hm, h1, h3, h0_li, h0_si, h0_su, h0_di⟩ dX3_init_80
      · have hb9 : ((Zc 24 * Zc 17).natAbs : Int) < 65536 ^ 140 := by
          rw [h1, h2, ← tp_s]
          have p1 := tp_pos (k + 1)
          have p2 := tp_le (show k + 1 ≤ 300 by omega)
          have e300 : (10 : Int) ^ 300 < 65536 ^ 140 := by decide
          have e9 : (((10 : Int) ^ (k + 1)).natAbs : Int) = 10 ^ (k + 1) := by omega
          rw [e9]
          exact Int.lt_of_le_of_lt p2 e300
        refine mv_aload_n B dX3_init_64 rfl (lv_at hl 1 rfl) ?_
        refine mv_bipush B dX3_init_65 (by decide) ?_
        refine mv_bipush B dX3_init_67 (by decide) ?_
        refine mv_bipush B dX3_init_69 (by decide) ?_
        obtain ⟨L, S, G, U, hM, hL, hZ⟩ := id hm
        have em : mg L (24) * mg L (17) = ((Zc (24) * Zc (17)).natAbs : Int) := by rw [(hZ (24) (by omega)).1, (hZ (17) (by omega)).1, abs_mul2]
        have hbd : mg L (24) * mg L (17) < 65536 ^ 140 := by rw [em]; exact hb9
        refine mw_callv hI hA (va_runV (As := [.int (iI (24)), .int (iI (24)), .int (iI (17))]) (rest := []) B.fix (t_X3_multiply l D kA H.size f (t := 24) (a := 24) (b := 17) hM.self hL (by omega) (by omega) (by omega) (by omega) (by omega) (by omega) hbd) (cwV 3 B.2.2.2.2.1 (gV kw_376 kw_378 ks_19 kw_4 kw_379) rfl rfl rfl (by decide +kernel) ⟨Nat.le_of_ble_eq_true rfl, Nat.le_of_ble_eq_true rfl⟩) ⟨mw_blind st_S.blind, mw_recv B hI hM.1 rfl, mw_pre B hI (hSt.call hI hA)⟩ rfl rfl hl.1 rfl (lv_room (Nat.le_of_ble_eq_true rfl)) dX3_init_71 ⟨Nat.le_of_ble_eq_true rfl, Nat.le_of_ble_eq_true rfl⟩) (fun f H locs hp hI2 => ?_)
        clear hI
        have hI := hI2
        clear hI2
        obtain ⟨L1, U1, hM1, hL1, ro1, hv1⟩ := hp
        obtain ⟨Z11, hZ11, hm⟩ : ∃ Z', Z' = upI Zc (24) (Zc (24) * Zc (17)) ∧ MM kA f0 f o li si su di Z' := ⟨_, rfl, MM.u hZ (hM.tr hM1) hL1 ro1 (hv1.trans em) (by rw [(hZ (24) (by omega)).1, (hZ (17) (by omega)).1, (hZ (24) (by omega)).2, (hZ (17) (by omega)).2]; exact c3_mul _ _)⟩
        have v11 : Z11 (24) = Zc (24) * Zc (17) := by rw [hZ11, upI_self]
        have r11 : ∀ i, i ≠ 24 → Z11 i = Zc i := fun i hi => by rw [hZ11, upI_ne _ _ hi]
        refine mv_iinc (k := 0) (lv' := [(1, .int (iI (i + 1))), (0, .ref o)]) B dX3_init_74 hl rfl (by decide) rfl (fun ls hl => ?_)
        refine mv_goto (tgt := 57) B dX3_init_77 (by decide) ?_
        exact ih (k + 1) _ Z11 f H locs ls (by omega) (by omega) (by omega) (by rw [v11, h1, h2, tp_s]) ((r11 17 (by decide)).trans h2) (fun r hr => (r11 r (by omega)).trans (h3 r hr)) hm hI (lv_sub hl [0, 1] rfl)
  exact loop 301 0 _ Z2 f H locs ls (by decide) rfl (by decide) (by rw [r2 24 (by decide), v1, Int.pow_zero]) v2 (fun r hr => by rw [r2 r (by omega), r1 r (by omega), hZ0]) hm hI (lv_sub hl [0, 1] rfl)
