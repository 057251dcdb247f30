abbrev rm_X2_init : Room := { frames := 3, cells := 50, slots := 2591, locals := 64 }
set_option maxHeartbeats 4000000 in
set_option maxRecDepth 100000 in
/-- BigDesk() -/
theorem t_X2_init (l : Launch) (D : va_G) (kA : Nat → ClassId) (sz : Nat) (f0 : mw_M) {d : Nat} (hd : f0 d = some (.inr (2, [.null, .null, .null, .null, .null, .null, .null]))) : mw_Mv l yX2_init (Cond.code yX2_init cX2_init 2 (none) :: gw) rm_X2_init D vwCl (tyL kA) st_S [.ref d] f0 sz (fun f => ∃ (sl pa : Nat) (w ra : Nat → Nat), DK kA f d sl pa w ra (fun _ => 0) ∧ (∀ k, dks d sl pa w ra k → k = d ∨ f0 k = none) ∧ ∀ k, ¬ dks d sl pa w ra k → f k = f0 k) 50 2591 := by
  refine mw_ofv (cc := cX2_init) (maxL := 2) (ret := none) (by decide) rfl (Nat.le_of_ble_eq_true rfl) ?_
  intro p e s m below meth c A ls Q hQ B hrt hnm hA hI hSt hl
  have hl : lv_has ls 2 [(0, .ref d)] := hl
  refine mv_aload_n B dX2_init_0 rfl (lv_at hl 0 rfl) ?_
  refine mw_obj B hl.1 kw_12 kw_13 kw_14 (Nat.le_of_ble_eq_true rfl) (Nat.le_of_ble_eq_true rfl) dX2_init_1 ?_
  refine mv_aload_n B dX2_init_4 rfl (lv_at hl 0 rfl) ?_
  refine mv_bipush B dX2_init_5 (by decide) ?_
  refine mw_newq (N := 16) B hI hA kw_15 hSt.2.2.1 1 rfl (by decide) (Nat.le_of_ble_eq_true rfl) (Nat.le_of_ble_eq_true rfl) dX2_init_7 (fun sl H hsl0 hI => ?_)
  have hsd : sl ≠ d := fun z => by rw [z, hd] at hsl0; cases hsl0
  have hd1 : mw_set f0 sl (mw_qr (kA 1) 16 (fun _ => none)) d = some (.inr (2, [.null, .null, .null, .null, .null, .null, .null])) := by rw [mw_set_ne _ _ (Ne.symm hsd)]; exact hd
  refine mw_putF2 (C := RX2) (T := TX2) (N := 7) B hI hd1 uin_X2 tyX2 tyX2_ok nmX2 rfl 0 (by decide) kw_67 rfl hnm rfl rfl rfl (Nat.le_of_ble_eq_true rfl) dX2_init_10 (fun f H locs hd2 o1 hI => ?_)
  have hs2 : f sl = some (mw_qr (kA 1) 16 (fun _ => none)) := by rw [o1 sl hsd]; exact mw_set_self _ _ _
  have N0 : nwx kA f0 f (fun k => k = d ∨ k = sl) (fun _ => 0) (fun _ => 0) 0 := ⟨fun i hi => absurd hi (by omega), fun i j hi => absurd hi (by omega), fun k hk _ => by rw [o1 k (fun z => hk (Or.inl z))]; exact mw_set_ne _ _ (fun z => hk (Or.inr z))⟩
  refine mv_iconst B dX2_init_13 ?_
  refine mv_istore_n (lv' := [(1, .int (iI (0))), (0, .ref d)]) B dX2_init_14 rfl hl (by decide) rfl (fun ls hl => ?_)
  refine W.widen (k := 1 + 2 * 0) (n := 16 + 107 * 0) (by omega) (by omega) ?_
  have loop : ∀ (μ : Nat) (j : Nat) (i : Int) (w ra : Nat → Nat) (gs : Nat → Option Nat) (f : mw_M) (H : Heap) (locs : List Loc) (ls : Array Slot), 16 - j < μ → i = (j : Int) → j ≤ 16 → f d = some (.inr (2, [.ref sl, .null, .null, .null, .null, .null, .null])) → f sl = some (mw_qr (kA 1) 16 gs) → (∀ i, i < j → gs i = some (w i)) → nwx kA f0 f (fun k => k = d ∨ k = sl) w ra j → mw_I D vwCl A s H locs f → lv_has ls 2 [(1, .int (iI (i))), (0, .ref d)] → W p l e rm_X2_init s m ([.ref d] : List Value).toArray below meth c H locs (1 + 2 * j) (16 + 107 * j) Q (F0 m 15 ls []) := by
    intro μ
    induction μ with
    | zero => intro j i w ra gs f H locs ls hμ; exact absurd hμ (Nat.not_lt_zero _)
    | succ μ ih =>
      intro j i w ra gs f H locs ls hμ hi hj hd2 hs2 hgs N hI hl
      refine mv_iload_n B dX2_init_15 rfl (lv_at hl 0 rfl) ?_
      refine mv_bipush B dX2_init_16 (by decide) ?_
      refine mv_icmp_ge (tgt := 40) B dX2_init_18 (by decide) (by omega) (fun hd0 => ?_) (fun hd0 => ?_)
      · obtain rfl : j = 16 := by omega
        refine mv_aload_n B dX2_init_40 rfl (lv_at hl 1 rfl) ?_
        refine mk_whole B hI hA hSt hl.1 kw_15 kw_18 (Nat.le_of_ble_eq_true rfl) (Nat.le_of_ble_eq_true rfl) (Nat.le_of_ble_eq_true rfl) (Nat.le_of_ble_eq_true rfl) (Nat.le_of_ble_eq_true rfl) dX2_init_41 dX2_init_44 dX2_init_45 (fun h0 r0 f H locs m1 m2 m3 m4 m5 m6 hI => ?_)
        have N := N.one (fun k hk => nx2 hd2 hs2 k hk) (Or.inl rfl) m1 m2 m4 m5 m6
        have nd : d ≠ h0 ∧ d ≠ r0 := ⟨fun z => (by rw [← z, hd2] at m1; cases m1), fun z => (by rw [← z, hd2] at m2; cases m2)⟩
        have ns : sl ≠ h0 ∧ sl ≠ r0 := ⟨fun z => (by rw [← z, hs2] at m1; cases m1), fun z => (by rw [← z, hs2] at m2; cases m2)⟩
        have hd2n := (m6 d nd.1 nd.2).trans hd2
        have hs2 := (m6 sl ns.1 ns.2).trans hs2
        refine mw_putF2 (C := RX2) (T := TX2) (N := 7) B hI hd2n uin_X2 tyX2 tyX2_ok nmX2 rfl 1 (by decide) kw_68 rfl hnm rfl rfl rfl (Nat.le_of_ble_eq_true rfl) dX2_init_48 (fun f H locs hd3 o1 hI => ?_)
        have hs2 := (o1 sl hsd).trans hs2
        have N := N.put (Or.inl rfl) o1
        refine mv_aload_n B dX2_init_51 rfl (lv_at hl 1 rfl) ?_
        refine mk_whole B hI hA hSt hl.1 kw_15 kw_18 (Nat.le_of_ble_eq_true rfl) (Nat.le_of_ble_eq_true rfl) (Nat.le_of_ble_eq_true rfl) (Nat.le_of_ble_eq_true rfl) (Nat.le_of_ble_eq_true rfl) dX2_init_52 dX2_init_55 dX2_init_56 (fun h1 r1 f H locs m1 m2 m3 m4 m5 m6 hI => ?_)
        have N := N.one (fun k hk => nx2 hd3 hs2 k hk) (Or.inl rfl) m1 m2 m4 m5 m6
        have nd : d ≠ h1 ∧ d ≠ r1 := ⟨fun z => (by rw [← z, hd3] at m1; cases m1), fun z => (by rw [← z, hd3] at m2; cases m2)⟩
        have ns : sl ≠ h1 ∧ sl ≠ r1 := ⟨fun z => (by rw [← z, hs2] at m1; cases m1), fun z => (by rw [← z, hs2] at m2; cases m2)⟩
        have hd3n := (m6 d nd.1 nd.2).trans hd3
        have hs2 := (m6 sl ns.1 ns.2).trans hs2
        refine mw_putF2 (C := RX2) (T := TX2) (N := 7) B hI hd3n uin_X2 tyX2 tyX2_ok nmX2 rfl 2 (by decide) kw_69 rfl hnm rfl rfl rfl (Nat.le_of_ble_eq_true rfl) dX2_init_59 (fun f H locs hd4 o1 hI => ?_)
        have hs2 := (o1 sl hsd).trans hs2
        have N := N.put (Or.inl rfl) o1
        refine mv_aload_n B dX2_init_62 rfl (lv_at hl 1 rfl) ?_
        refine mk_whole B hI hA hSt hl.1 kw_15 kw_18 (Nat.le_of_ble_eq_true rfl) (Nat.le_of_ble_eq_true rfl) (Nat.le_of_ble_eq_true rfl) (Nat.le_of_ble_eq_true rfl) (Nat.le_of_ble_eq_true rfl) dX2_init_63 dX2_init_66 dX2_init_67 (fun h2 r2 f H locs m1 m2 m3 m4 m5 m6 hI => ?_)
        have N := N.one (fun k hk => nx2 hd4 hs2 k hk) (Or.inl rfl) m1 m2 m4 m5 m6
        have nd : d ≠ h2 ∧ d ≠ r2 := ⟨fun z => (by rw [← z, hd4] at m1; cases m1), fun z => (by rw [← z, hd4] at m2; cases m2)⟩
        have ns : sl ≠ h2 ∧ sl ≠ r2 := ⟨fun z => (by rw [← z, hs2] at m1; cases m1), fun z => (by rw [← z, hs2] at m2; cases m2)⟩
        have hd4n := (m6 d nd.1 nd.2).trans hd4
        have hs2 := (m6 sl ns.1 ns.2).trans hs2
        refine mw_putF2 (C := RX2) (T := TX2) (N := 7) B hI hd4n uin_X2 tyX2 tyX2_ok nmX2 rfl 3 (by decide) kw_70 rfl hnm rfl rfl rfl (Nat.le_of_ble_eq_true rfl) dX2_init_70 (fun f H locs hd5 o1 hI => ?_)
        have hs2 := (o1 sl hsd).trans hs2
        have N := N.put (Or.inl rfl) o1
        refine mv_aload_n B dX2_init_73 rfl (lv_at hl 1 rfl) ?_
        refine mk_whole B hI hA hSt hl.1 kw_15 kw_18 (Nat.le_of_ble_eq_true rfl) (Nat.le_of_ble_eq_true rfl) (Nat.le_of_ble_eq_true rfl) (Nat.le_of_ble_eq_true rfl) (Nat.le_of_ble_eq_true rfl) dX2_init_74 dX2_init_77 dX2_init_78 (fun h3 r3 f H locs m1 m2 m3 m4 m5 m6 hI => ?_)
        have N := N.one (fun k hk => nx2 hd5 hs2 k hk) (Or.inl rfl) m1 m2 m4 m5 m6
        have nd : d ≠ h3 ∧ d ≠ r3 := ⟨fun z => (by rw [← z, hd5] at m1; cases m1), fun z => (by rw [← z, hd5] at m2; cases m2)⟩
        have ns : sl ≠ h3 ∧ sl ≠ r3 := ⟨fun z => (by rw [← z, hs2] at m1; cases m1), fun z => (by rw [← z, hs2] at m2; cases m2)⟩
        have hd5n := (m6 d nd.1 nd.2).trans hd5
        have hs2 := (m6 sl ns.1 ns.2).trans hs2
        refine mw_putF2 (C := RX2) (T := TX2) (N := 7) B hI hd5n uin_X2 tyX2 tyX2_ok nmX2 rfl 4 (by decide) kw_71 rfl hnm rfl rfl rfl (Nat.le_of_ble_eq_true rfl) dX2_init_81 (fun f H locs hd6 o1 hI => ?_)
        have hs2 := (o1 sl hsd).trans hs2
        have N := N.put (Or.inl rfl) o1
        refine mv_aload_n B dX2_init_84 rfl (lv_at hl 1 rfl) ?_
        refine mk_whole B hI hA hSt hl.1 kw_15 kw_18 (Nat.le_of_ble_eq_true rfl) (Nat.le_of_ble_eq_true rfl) (Nat.le_of_ble_eq_true rfl) (Nat.le_of_ble_eq_true rfl) (Nat.le_of_ble_eq_true rfl) dX2_init_85 dX2_init_88 dX2_init_89 (fun h4 r4 f H locs m1 m2 m3 m4 m5 m6 hI => ?_)
        have N := N.one (fun k hk => nx2 hd6 hs2 k hk) (Or.inl rfl) m1 m2 m4 m5 m6
        have nd : d ≠ h4 ∧ d ≠ r4 := ⟨fun z => (by rw [← z, hd6] at m1; cases m1), fun z => (by rw [← z, hd6] at m2; cases m2)⟩
        have ns : sl ≠ h4 ∧ sl ≠ r4 := ⟨fun z => (by rw [← z, hs2] at m1; cases m1), fun z => (by rw [← z, hs2] at m2; cases m2)⟩
        have hd6n := (m6 d nd.1 nd.2).trans hd6
        have hs2 := (m6 sl ns.1 ns.2).trans hs2
        refine mw_putF2 (C := RX2) (T := TX2) (N := 7) B hI hd6n uin_X2 tyX2 tyX2_ok nmX2 rfl 5 (by decide) kw_72 rfl hnm rfl rfl rfl (Nat.le_of_ble_eq_true rfl) dX2_init_92 (fun f H locs hd7 o1 hI => ?_)
        have hs2 := (o1 sl hsd).trans hs2
        have N := N.put (Or.inl rfl) o1
        refine mv_aload_n B dX2_init_95 rfl (lv_at hl 1 rfl) ?_
        refine mw_new (C := RX0) (T := TX0) (N := 7) (ci := 0) B hI hA uin_X0 tyX0 tyX0_ok kw_37 kw_38 kw_3 rfl [.null, .null, .null, .long (lI 0), .long (lI 0), .long (lI 0), .long (lI 0)] (fun j hj => by rcases (show j = 0 ∨ j = 1 ∨ j = 2 ∨ j = 3 ∨ j = 4 ∨ j = 5 ∨ j = 6 by omega) with rfl | rfl | rfl | rfl | rfl | rfl | rfl <;> rfl) (Nat.le_of_ble_eq_true rfl) (Nat.le_of_ble_eq_true rfl) dX2_init_96 (fun pa H hpa hI => ?_)
        have npd : pa ≠ d := fun z => by rw [z, hd7] at hpa; cases hpa
        have nps : pa ≠ sl := fun z => by rw [z, hs2] at hpa; cases hpa
        obtain ⟨fp, hfp, hI⟩ : ∃ fp, fp = mw_set f pa (.inr (0, [.null, .null, .null, .long (lI 0), .long (lI 0), .long (lI 0), .long (lI 0)])) ∧ mw_I D vwCl A s H locs fp := ⟨_, rfl, hI⟩
        have hpa0 : f0 pa = none := by rw [← N.2.2 pa (fun z => z.elim npd nps) (fun i hi => ⟨fun z => (by have := (N.1 i hi).1; rw [← z, hpa] at this; cases this), fun z => (by have := (N.1 i hi).2.1; rw [← z, hpa] at this; cases this)⟩)]; exact hpa
        have N := N.ext (f1 := fp) hpa (fun k hk => by rw [hfp]; exact mw_set_ne _ _ hk)
        have hd9 := (show fp d = f d by rw [hfp]; exact mw_set_ne _ _ (Ne.symm npd)).trans hd7
        have hs9 := (show fp sl = f sl by rw [hfp]; exact mw_set_ne _ _ (Ne.symm nps)).trans hs2
        have hp9 : fp pa = some (.inr (0, [.null, .null, .null, .long (lI 0), .long (lI 0), .long (lI 0), .long (lI 0)])) := by rw [hfp]; exact mw_set_self _ _ _
        refine mv_dup B dX2_init_99 rfl ?_
        refine mw_callv hI hA (va_runI (As := []) (rest := [.ref pa, .ref d]) B.fix (t_X0_init l D kA H.size fp hp9) (cwI 0 B.2.2.2.2.1 (gC kw_41) rfl rfl rfl (B.2.2.2.2.1 _ kw_3) (B.2.2.2.2.1 _ kw_39) (B.2.2.2.2.1 _ kw_40) rfl (by decide +kernel) ⟨Nat.le_of_ble_eq_true rfl, Nat.le_of_ble_eq_true rfl⟩) ⟨mw_blind st_S.blind, mw_pre B hI (hSt.call hI hA)⟩ rfl rfl hl.1 rfl (lv_room (Nat.le_of_ble_eq_true rfl)) dX2_init_100 ⟨Nat.le_of_ble_eq_true rfl, Nat.le_of_ble_eq_true rfl⟩) (fun f H locs hp hI2 => ?_)
        clear hI
        have hI := hI2
        clear hI2
        obtain ⟨wp, rr, hq1, q2, q3, q4⟩ := hp
        have N := N.app (m := 3) (pa := pa) (fun k hk => nx3 hd9 hs9 hp9 k hk) (Or.inr rfl) q2 q3 q4
        have nd : ∀ i, i < 3 → d ≠ wp i ∧ d ≠ rr i := fun i hi => ⟨fun z => (by have := (q2 i hi).2.2.1; rw [← z, hd9] at this; cases this), fun z => (by have := (q2 i hi).2.2.2; rw [← z, hd9] at this; cases this)⟩
        have ns : ∀ i, i < 3 → sl ≠ wp i ∧ sl ≠ rr i := fun i hi => ⟨fun z => (by have := (q2 i hi).2.2.1; rw [← z, hs9] at this; cases this), fun z => (by have := (q2 i hi).2.2.2; rw [← z, hs9] at this; cases this)⟩
        have hd9 := (q4 d (Ne.symm npd) nd).trans hd9
        have hs9 := (q4 sl (Ne.symm nps) ns).trans hs9
        refine mw_putF2 (C := RX2) (T := TX2) (N := 7) B hI hd9 uin_X2 tyX2 tyX2_ok nmX2 rfl 6 (by decide) kw_73 rfl hnm rfl rfl rfl (Nat.le_of_ble_eq_true rfl) dX2_init_103 (fun f H locs hd10 o1 hI => ?_)
        have hs9 := (o1 sl hsd).trans hs9
        have hq1 := (o1 pa npd).trans hq1
        have N := N.put (Or.inl (Or.inl rfl)) o1
        refine W.widen (k := 50) (n := 2591) (Nat.le_of_ble_eq_true rfl) (Nat.le_of_ble_eq_true rfl) ?_
        generalize hW : wap (wap (wap (wap (wap (wap w (fun _ => h0) 16) (fun _ => h1) (16 + 1)) (fun _ => h2) (16 + 1 + 1)) (fun _ => h3) (16 + 1 + 1 + 1)) (fun _ => h4) (16 + 1 + 1 + 1 + 1)) wp (16 + 1 + 1 + 1 + 1 + 1) = W1 at N
        generalize hR : wap (wap (wap (wap (wap (wap ra (fun _ => r0) 16) (fun _ => r1) (16 + 1)) (fun _ => r2) (16 + 1 + 1)) (fun _ => r3) (16 + 1 + 1 + 1)) (fun _ => r4) (16 + 1 + 1 + 1 + 1)) rr (16 + 1 + 1 + 1 + 1 + 1) = R1 at N
        have eW : W1 16 = h0 ∧ W1 17 = h1 ∧ W1 18 = h2 ∧ W1 19 = h3 ∧ W1 20 = h4 ∧ W1 21 = wp 0 ∧ W1 22 = wp 1 ∧ W1 23 = wp 2 := by rw [← hW]; exact ⟨rfl, rfl, rfl, rfl, rfl, rfl, rfl, rfl⟩
        have eL : ∀ i, i < 16 → W1 i = w i := fun i hi => by rw [← hW, wap_lt (by omega), wap_lt (by omega), wap_lt (by omega), wap_lt (by omega), wap_lt (by omega), wap_lt hi]
        obtain ⟨e16, e17, e18, e19, e20, e21, e22, e23⟩ := eW
        have hDK : DK kA f d sl pa W1 R1 (fun _ => 0) := ⟨by rw [e16, e17, e18, e19, e20]; exact hd10, ⟨gs, hs9, fun i hi => by rw [eL i hi]; exact hgs i hi⟩, ⟨_, _, _, _, 0, 0, 0, 0, Or.inl ⟨rfl, rfl, rfl, rfl⟩, by rw [e21, e22, e23]; exact hq1⟩, fun i hi => Rp_zero (N.1 i hi).1 (N.1 i hi).2.1, N.2.1⟩
        have hfr : ∀ k, dks d sl pa W1 R1 k → k = d ∨ f0 k = none := fun k hk => by
          rcases hk with rfl | rfl | rfl | ⟨i, hi, hk⟩
          · exact Or.inl rfl
          · exact Or.inr hsl0
          · exact Or.inr hpa0
          · rcases hk with rfl | rfl
            · exact Or.inr (N.1 i hi).2.2.1
            · exact Or.inr (N.1 i hi).2.2.2.1
        exact mw_vret B hQ hrt hI ⟨sl, pa, W1, R1, hDK, hfr, fun k hk => N.2.2 k (fun z => z.elim (fun y => y.elim (fun x => hk (Or.inl x)) (fun x => hk (Or.inr (Or.inl x)))) (fun x => hk (Or.inr (Or.inr (Or.inl x))))) (fun i hi => dks_w hk hi)⟩ dX2_init_106
      · refine mv_aload_n B dX2_init_21 rfl (lv_at hl 1 rfl) ?_
        refine mw_get (C := RX2) (T := TX2) (N := 7) B hI hd2 uin_X2 rfl 0 (by decide) kw_67 rfl dX2_init_22 ?_
        refine mv_iload_n B dX2_init_25 rfl (lv_at hl 0 rfl) ?_
        refine mk_whole B hI hA hSt hl.1 kw_15 kw_18 (Nat.le_of_ble_eq_true rfl) (Nat.le_of_ble_eq_true rfl) (show _ ≤ (50 : Nat) by omega) (show _ ≤ (2591 : Nat) by omega) (Nat.le_of_ble_eq_true rfl) dX2_init_26 dX2_init_29 dX2_init_30 (fun h r f H locs m1 m2 m3 m4 m5 m6 hI => ?_)
        have N := N.one (fun k hk => nx2 hd2 hs2 k hk) (Or.inl rfl) m1 m2 m4 m5 m6
        have nd : d ≠ h ∧ d ≠ r := ⟨fun z => (by rw [← z, hd2] at m1; cases m1), fun z => (by rw [← z, hd2] at m2; cases m2)⟩
        have ns : sl ≠ h ∧ sl ≠ r := ⟨fun z => (by rw [← z, hs2] at m1; cases m1), fun z => (by rw [← z, hs2] at m2; cases m2)⟩
        have hd2 := (m6 d nd.1 nd.2).trans hd2
        have hs2 := (m6 sl ns.1 ns.2).trans hs2
        refine mw_aast (r := (RX1, TX1, 3)) B hI 1 1 hs2 rfl m4 rfl j (by omega) (by omega) (by decide) dX2_init_33 (fun H locs hI => ?_)
        have N := N.put (f1 := mw_set f sl (mw_qr (kA 1) 16 (va_up gs j (some h)))) (Or.inr rfl) (fun k hk => mw_set_ne _ _ hk)
        have hd2 := (mw_set_ne f (mw_qr (kA 1) 16 (va_up gs j (some h))) (Ne.symm hsd)).trans hd2
        refine mv_iinc (k := 0) (lv' := [(1, .int (iI (i + 1))), (0, .ref d)]) B dX2_init_34 hl rfl (by decide) rfl (fun ls hl => ?_)
        refine mv_goto (tgt := 15) B dX2_init_37 (by decide) ?_
        refine W.widen (k := 1 + 2 * (j + 1)) (n := 16 + 107 * (j + 1)) (by omega) (by omega) ?_
        refine ih (j + 1) _ _ _ _ _ H locs ls (by omega) (by omega) (by omega) hd2 (mw_set_self _ _ _) (fun i hi => ?_) N hI (lv_sub hl [0, 1] rfl)
        by_cases q : i = j
        · rw [q, va_up_self, wap_ge (Nat.le_refl j)]
        · rw [va_up_ne _ _ q, wap_lt (by omega)]; exact hgs i (by omega)
  exact loop 17 0 _ _ _ _ f H locs ls (by decide) rfl (by decide) hd2 hs2 (fun i hi => absurd hi (by omega)) N0 hI (lv_sub hl [0, 1] rfl)
