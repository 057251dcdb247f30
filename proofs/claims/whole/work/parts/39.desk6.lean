abbrev rm_X2_areFractions : Room := { frames := 2, cells := 0, slots := 0, locals := 41 }
set_option maxHeartbeats 4000000 in
set_option maxRecDepth 100000 in
/-- areFractions -/
theorem t_X2_areFractions (l : Launch) (D : va_G) (kA : Nat → ClassId) (sz : Nat) (f0 : mw_M) {d sl pa : Nat} {w ra : Nat → Nat} {Y : Nat → Int} {a b c_ e_ : Int} (hD : DK kA f0 d sl pa w ra Y) (hB : ∀ i, i < 16 → ((Y i).natAbs : Int) < 1000000 ^ 50) (ha : -2147483648 ≤ a ∧ a ≤ 2147483647) (hb : -2147483648 ≤ b ∧ b ≤ 2147483647) (hc_ : -2147483648 ≤ c_ ∧ c_ ≤ 2147483647) (he_ : -2147483648 ≤ e_ ∧ e_ ≤ 2147483647) : mw_Mi l yX2_areFractions (Cond.code yX2_areFractions cX2_areFractions 5 ((some .boolean)) :: gw) rm_X2_areFractions D vwCl (tyL kA) st_S [.ref d, .int (iI (a)), .int (iI (b)), .int (iI (c_)), .int (iI (e_))] f0 sz (fun v f => v = iI (if sOk a ∧ sOk b ∧ sOk c_ ∧ sOk e_ ∧ Y b.toNat ≠ 0 ∧ Y e_.toNat ≠ 0 then 1 else 0) ∧ f = f0) 0 0 := by
  refine mw_ofi (cc := cX2_areFractions) (maxL := 5) (ret := (some .boolean)) (by decide) rfl (Nat.le_of_ble_eq_true rfl) ?_
  intro p e s m below meth c A ls Q hQ B hrt hnm hA hI hSt hl
  have hl : lv_has ls 5 [(0, .ref d), (1, .int (iI (a))), (2, .int (iI (b))), (3, .int (iI (c_))), (4, .int (iI (e_)))] := hl
  obtain ⟨f, hI, hf⟩ : ∃ f, mw_I D vwCl A s s.heap [] f ∧ f = f0 := ⟨f0, hI, rfl⟩
  rw [← hf] at hD
  have ho : ∀ k, ¬ dks d sl pa w ra k → f k = f0 k := fun k _ => by rw [hf]
  refine mv_iload_n B dX2_areFractions_0 rfl (lv_at hl 1 rfl) ?_
  refine mv_iload_n B dX2_areFractions_1 rfl (lv_at hl 2 rfl) ?_
  refine mw_calli hI hA (va_runS (As := [.int (iI (a)), .int (iI (b))]) (rest := []) B.fix (t_X2_areSlots l D kA s.heap.size f ha hb) (cwS 2 B.2.2.2.2.1 (gS kw_163 kw_164 kw_1 kw_165) rfl rfl rfl (by decide +kernel) ⟨Nat.le_of_ble_eq_true rfl, Nat.le_of_ble_eq_true rfl⟩) ⟨mw_blind st_S.blind, mw_pre B hI (hSt.call hI hA)⟩ rfl rfl hl.1 rfl (lv_room (Nat.le_of_ble_eq_true rfl)) dX2_areFractions_2 ⟨Nat.le_of_ble_eq_true rfl, Nat.le_of_ble_eq_true rfl⟩) (fun r f H locs hp hI2 => ?_)
  clear hI
  have hI := hI2
  clear hI2
  obtain ⟨rfl, rfl⟩ := hp
  refine mv_if_eq (tgt := 46) B dX2_areFractions_5 (by decide) (by split <;> omega) (fun hc => ?_) (fun hc => ?_)
  · have h1 : ¬ (sOk a ∧ sOk b) := fun q => by rw [if_pos q] at hc; exact absurd hc (by decide)
    refine mv_iconst B dX2_areFractions_46 ?_
    exact mw_zret B hQ hrt (by decide) hI ⟨by rw [if_neg (fun q => h1 ⟨q.1, q.2.1⟩)], hf⟩ dX2_areFractions_47
  · have h1 : sOk a ∧ sOk b := by
      by_cases q : sOk a ∧ sOk b
      · exact q
      · rw [if_neg q] at hc; exact absurd rfl hc
    refine mv_iload_n B dX2_areFractions_8 rfl (lv_at hl 3 rfl) ?_
    refine mv_iload B dX2_areFractions_9 (lv_at hl 4 rfl) ?_
    refine mw_calli hI hA (va_runS (As := [.int (iI (c_)), .int (iI (e_))]) (rest := []) B.fix (t_X2_areSlots l D kA H.size f hc_ he_) (cwS 2 B.2.2.2.2.1 (gS kw_163 kw_164 kw_1 kw_165) rfl rfl rfl (by decide +kernel) ⟨Nat.le_of_ble_eq_true rfl, Nat.le_of_ble_eq_true rfl⟩) ⟨mw_blind st_S.blind, mw_pre B hI (hSt.call hI hA)⟩ rfl rfl hl.1 rfl (lv_room (Nat.le_of_ble_eq_true rfl)) dX2_areFractions_11 ⟨Nat.le_of_ble_eq_true rfl, Nat.le_of_ble_eq_true rfl⟩) (fun r f H locs hp hI2 => ?_)
    clear hI
    have hI := hI2
    clear hI2
    obtain ⟨rfl, rfl⟩ := hp
    refine mv_if_eq (tgt := 46) B dX2_areFractions_14 (by decide) (by split <;> omega) (fun hc2 => ?_) (fun hc2 => ?_)
    · have h2 : ¬ (sOk c_ ∧ sOk e_) := fun q => by rw [if_pos q] at hc2; exact absurd hc2 (by decide)
      refine mv_iconst B dX2_areFractions_46 ?_
      exact mw_zret B hQ hrt (by decide) hI ⟨by rw [if_neg (fun q => h2 ⟨q.2.2.1, q.2.2.2.1⟩)], hf⟩ dX2_areFractions_47
    · have h2 : sOk c_ ∧ sOk e_ := by
        by_cases q : sOk c_ ∧ sOk e_
        · exact q
        · rw [if_neg q] at hc2; exact absurd rfl hc2
      refine mv_aload_n B dX2_areFractions_17 rfl (lv_at hl 0 rfl) ?_
      refine mw_get (C := RX2) (T := TX2) (N := 7) B hI hD.1 uin_X2 rfl 0 (by decide) kw_67 rfl dX2_areFractions_18 ?_
      refine mv_iload_n B dX2_areFractions_21 rfl (lv_at hl 2 rfl) ?_
      obtain ⟨gs, hs1, hs2⟩ := hD.2.1
      refine mw_aald B hI 1 hs1 rfl (b.toNat) (by omega) (by omega) (by decide) (hs2 _ (by omega)) dX2_areFractions_22 ?_
      obtain ⟨g, n, b_, c1, c2, c3_⟩ := id (hD.rp (i := b.toNat) (by omega))
      have m1 := c3_.1
      have hz0 := c3_.zero
      refine mw_calli hI hA (va_runV (As := []) (rest := []) B.fix (t_X1_isZero l D kA H.size f c1 (by omega)) (cwV 0 B.2.2.2.2.1 (gV kw_190 kw_191 kw_192 kw_2 kw_193) rfl rfl rfl (by decide +kernel) ⟨Nat.le_of_ble_eq_true rfl, Nat.le_of_ble_eq_true rfl⟩) ⟨mw_blind st_S.blind, mw_recv B hI c1 rfl, mw_pre B hI (hSt.call hI hA)⟩ rfl rfl hl.1 rfl (lv_room (Nat.le_of_ble_eq_true rfl)) dX2_areFractions_23 ⟨Nat.le_of_ble_eq_true rfl, Nat.le_of_ble_eq_true rfl⟩) (fun r f H locs hp hI2 => ?_)
      clear hI
      have hI := hI2
      clear hI2
      obtain ⟨rfl, rfl⟩ := hp
      refine mv_if_ne (tgt := 46) B dX2_areFractions_26 (by decide) (by split <;> omega) (fun hc3 => ?_) (fun hc3 => ?_)
      · have hzz : Y b.toNat = 0 := by
          by_cases q : (n : Int) = 0
          · exact hz0.mpr (by omega)
          · rw [if_neg q] at hc3; exact absurd rfl hc3
        refine mv_iconst B dX2_areFractions_46 ?_
        exact mw_zret B hQ hrt (by decide) hI ⟨by rw [if_neg (fun q => q.2.2.2.2.1 hzz)], hf⟩ dX2_areFractions_47
      · have hnb : Y b.toNat ≠ 0 := fun q => by rw [if_pos (by have := hz0.mp q; omega)] at hc3; exact absurd hc3 (by decide)
        refine mv_aload_n B dX2_areFractions_29 rfl (lv_at hl 0 rfl) ?_
        refine mw_get (C := RX2) (T := TX2) (N := 7) B hI hD.1 uin_X2 rfl 0 (by decide) kw_67 rfl dX2_areFractions_30 ?_
        refine mv_iload B dX2_areFractions_33 (lv_at hl 4 rfl) ?_
        obtain ⟨gs, hs1, hs2⟩ := hD.2.1
        refine mw_aald B hI 1 hs1 rfl (e_.toNat) (by omega) (by omega) (by decide) (hs2 _ (by omega)) dX2_areFractions_35 ?_
        obtain ⟨g, n, b_, c1, c2, c3_⟩ := id (hD.rp (i := e_.toNat) (by omega))
        have m1 := c3_.1
        have hz1 := c3_.zero
        refine mw_calli hI hA (va_runV (As := []) (rest := []) B.fix (t_X1_isZero l D kA H.size f c1 (by omega)) (cwV 0 B.2.2.2.2.1 (gV kw_190 kw_191 kw_192 kw_2 kw_193) rfl rfl rfl (by decide +kernel) ⟨Nat.le_of_ble_eq_true rfl, Nat.le_of_ble_eq_true rfl⟩) ⟨mw_blind st_S.blind, mw_recv B hI c1 rfl, mw_pre B hI (hSt.call hI hA)⟩ rfl rfl hl.1 rfl (lv_room (Nat.le_of_ble_eq_true rfl)) dX2_areFractions_36 ⟨Nat.le_of_ble_eq_true rfl, Nat.le_of_ble_eq_true rfl⟩) (fun r f H locs hp hI2 => ?_)
        clear hI
        have hI := hI2
        clear hI2
        obtain ⟨rfl, rfl⟩ := hp
        refine mv_if_ne (tgt := 46) B dX2_areFractions_39 (by decide) (by split <;> omega) (fun hc4 => ?_) (fun hc4 => ?_)
        · have hzz : Y e_.toNat = 0 := by
            by_cases q : (n : Int) = 0
            · exact hz1.mpr (by omega)
            · rw [if_neg q] at hc4; exact absurd rfl hc4
          refine mv_iconst B dX2_areFractions_46 ?_
          exact mw_zret B hQ hrt (by decide) hI ⟨by rw [if_neg (fun q => q.2.2.2.2.2 hzz)], hf⟩ dX2_areFractions_47
        · have hne : Y e_.toNat ≠ 0 := fun q => by rw [if_pos (by have := hz1.mp q; omega)] at hc4; exact absurd hc4 (by decide)
          refine mv_iconst B dX2_areFractions_42 ?_
          refine mv_goto (tgt := 47) B dX2_areFractions_43 (by decide) ?_
          exact mw_zret B hQ hrt (by decide) hI ⟨by rw [if_pos ⟨h1.1, h1.2, h2.1, h2.2, hnb, hne⟩], hf⟩ dX2_areFractions_47
abbrev rm_X2_ratio : Room := { frames := 3, cells := 0, slots := 0, locals := 65 }
set_option maxHeartbeats 4000000 in
set_option maxRecDepth 100000 in
/-- ratio -/
theorem t_X2_ratio (l : Launch) (D : va_G) (kA : Nat → ClassId) (sz : Nat) (f0 : mw_M) {d sl pa : Nat} {w ra : Nat → Nat} {Y : Nat → Int} {a b c_ e_ : Int} (hD : DK kA f0 d sl pa w ra Y) (hB : ∀ i, i < 16 → ((Y i).natAbs : Int) < 1000000 ^ 50) (ha : -2147483648 ≤ a ∧ a ≤ 2147483647) (hb : -2147483648 ≤ b ∧ b ≤ 2147483647) (hc_ : -2147483648 ≤ c_ ∧ c_ ≤ 2147483647) (he_ : -2147483648 ≤ e_ ∧ e_ ≤ 2147483647) : mw_Mi l yX2_ratio (Cond.code yX2_ratio cX2_ratio 6 ((some .int)) :: gw) rm_X2_ratio D vwCl (tyL kA) st_S [.ref d, .int (iI (a)), .int (iI (b)), .int (iI (c_)), .int (iI (e_))] f0 sz (fun v f => v = iI (sp_ratio Y a b c_ e_) ∧ (∃ Y', DK kA f d sl pa w ra Y' ∧ ∀ i, i < 16 → Y' i = Y i) ∧ ∀ k, ¬ dks d sl pa w ra k → f k = f0 k) 0 0 := by
  refine mw_ofi (cc := cX2_ratio) (maxL := 6) (ret := (some .int)) (by decide) rfl (Nat.le_of_ble_eq_true rfl) ?_
  intro p e s m below meth c A ls Q hQ B hrt hnm hA hI hSt hl
  have hl : lv_has ls 6 [(0, .ref d), (1, .int (iI (a))), (2, .int (iI (b))), (3, .int (iI (c_))), (4, .int (iI (e_)))] := hl
  obtain ⟨f, hI, hf⟩ : ∃ f, mw_I D vwCl A s s.heap [] f ∧ f = f0 := ⟨f0, hI, rfl⟩
  rw [← hf] at hD
  have ho : ∀ k, ¬ dks d sl pa w ra k → f k = f0 k := fun k _ => by rw [hf]
  have hsl : ∀ i, i < 16 → Y i = Y i := fun _ _ => rfl
  refine mv_aload_n B dX2_ratio_0 rfl (lv_at hl 0 rfl) ?_
  refine mv_iload_n B dX2_ratio_1 rfl (lv_at hl 1 rfl) ?_
  refine mv_iload_n B dX2_ratio_2 rfl (lv_at hl 2 rfl) ?_
  refine mv_iload_n B dX2_ratio_3 rfl (lv_at hl 3 rfl) ?_
  refine mv_iload B dX2_ratio_4 (lv_at hl 4 rfl) ?_
  refine mw_calli hI hA (va_runV (As := [.int (iI (a)), .int (iI (b)), .int (iI (c_)), .int (iI (e_))]) (rest := []) B.fix (t_X2_areFractions l D kA s.heap.size f hD hB ha hb hc_ he_) (cwV 4 B.2.2.2.2.1 (gV kw_298 kw_300 ks_15 kw_1 kw_301) rfl rfl rfl (by decide +kernel) ⟨Nat.le_of_ble_eq_true rfl, Nat.le_of_ble_eq_true rfl⟩) ⟨mw_blind st_S.blind, mw_recv B hI hD.1 rfl, mw_pre B hI (hSt.call hI hA)⟩ rfl rfl hl.1 rfl (lv_room (Nat.le_of_ble_eq_true rfl)) dX2_ratio_6 ⟨Nat.le_of_ble_eq_true rfl, Nat.le_of_ble_eq_true rfl⟩) (fun r f H locs hp hI2 => ?_)
  clear hI
  have hI := hI2
  clear hI2
  obtain ⟨rfl, rfl⟩ := hp
  refine mv_if_ne (tgt := 14) B dX2_ratio_9 (by decide) (by split <;> omega) (fun hc => ?_) (fun hc => ?_)
  · have h1 : sOk a ∧ sOk b ∧ sOk c_ ∧ sOk e_ ∧ Y b.toNat ≠ 0 ∧ Y e_.toNat ≠ 0 := by
      by_cases q : sOk a ∧ sOk b ∧ sOk c_ ∧ sOk e_ ∧ Y b.toNat ≠ 0 ∧ Y e_.toNat ≠ 0
      · exact q
      · rw [if_neg q] at hc; exact absurd rfl hc
    have e9 : sp_ratio Y a b c_ e_ = (if (Y b.toNat < 0) = (Y e_.toNat < 0) then 1 + c3 (Y a.toNat * Y e_.toNat) (Y c_.toNat * Y b.toNat) else 1 + c3 (Y c_.toNat * Y b.toNat) (Y a.toNat * Y e_.toNat)) := by unfold sp_ratio; rw [if_pos h1]
    refine mv_aload_n B dX2_ratio_14 rfl (lv_at hl 0 rfl) ?_
    refine mw_get (C := RX2) (T := TX2) (N := 7) B hI hD.1 uin_X2 rfl 3 (by decide) kw_70 rfl dX2_ratio_15 ?_
    refine mv_aload_n B dX2_ratio_18 rfl (lv_at hl 0 rfl) ?_
    refine mw_get (C := RX2) (T := TX2) (N := 7) B hI hD.1 uin_X2 rfl 0 (by decide) kw_67 rfl dX2_ratio_19 ?_
    refine mv_iload_n B dX2_ratio_22 rfl (lv_at hl 1 rfl) ?_
    obtain ⟨gs, hs1, hs2⟩ := hD.2.1
    refine mw_aald B hI 1 hs1 rfl (a.toNat) (by omega) (by omega) (by decide) (hs2 _ (by omega)) dX2_ratio_23 ?_
    refine mv_aload_n B dX2_ratio_24 rfl (lv_at hl 0 rfl) ?_
    refine mw_get (C := RX2) (T := TX2) (N := 7) B hI hD.1 uin_X2 rfl 0 (by decide) kw_67 rfl dX2_ratio_25 ?_
    refine mv_iload B dX2_ratio_28 (lv_at hl 4 rfl) ?_
    obtain ⟨gs, hs1, hs2⟩ := hD.2.1
    refine mw_aald B hI 1 hs1 rfl (e_.toNat) (by omega) (by omega) (by decide) (hs2 _ (by omega)) dX2_ratio_30 ?_
    obtain ⟨_, _, _, cc, -, -⟩ := id (hD.rp (i := 18) (by omega))
    refine mw_callv hI hA (va_runV (As := [.ref ((w (a.toNat))), .ref ((w (e_.toNat)))]) (rest := []) B.fix (t_X1_takeProduct l D kA H.size f (hD.rp (i := 18) (by omega)).w (hD.rp (i := a.toNat) (by omega)) (hD.rp (i := e_.toNat) (by omega)) (hD.ne (i := a.toNat) (j := 18) (by omega) (by omega) (by omega)).1 (hD.ne (i := a.toNat) (j := 18) (by omega) (by omega) (by omega)).2 (hD.ne (i := e_.toNat) (j := 18) (by omega) (by omega) (by omega)).1 (hD.ne (i := e_.toNat) (j := 18) (by omega) (by omega) (by omega)).2 (by rw [hsl _ (by omega)]; exact hB _ (by omega)) (by rw [hsl _ (by omega)]; exact hB _ (by omega))) (cwV 2 B.2.2.2.2.1 (gV kw_113 kw_114 kw_115 kw_2 kw_116) rfl rfl rfl (by decide +kernel) ⟨Nat.le_of_ble_eq_true rfl, Nat.le_of_ble_eq_true rfl⟩) ⟨mw_blind st_S.blind, mw_recv B hI cc rfl, mw_pre B hI (hSt.call hI hA)⟩ rfl rfl hl.1 rfl (lv_room (Nat.le_of_ble_eq_true rfl)) dX2_ratio_31 ⟨Nat.le_of_ble_eq_true rfl, Nat.le_of_ble_eq_true rfl⟩) (fun f H locs hp hI2 => ?_)
    clear hI
    have hI := hI2
    clear hI2
    obtain ⟨hR, o1⟩ := hp
    have ho : ∀ k, ¬ dks d sl pa w ra k → f k = f0 k := fun k h => (o1 k (dks_w h (show 18 < 24 by omega)).1 (dks_w h (show 18 < 24 by omega)).2).trans (ho k h)
    obtain ⟨Y1, hY1, hD⟩ : ∃ Z, Z = upI Y (18) (Y (a.toNat) * Y (e_.toNat)) ∧ DK kA f d sl pa w ra Z := ⟨_, rfl, hD.upd (t := 18) (by omega) hR o1⟩
    have v1 : Y1 (18) = Y (a.toNat) * Y (e_.toNat) := by rw [hY1, upI_self]
    have r1 : ∀ i, i ≠ 18 → Y1 i = Y i := fun i hi => by rw [hY1, upI_ne _ _ hi]
    have hsl : ∀ i, i < 16 → Y1 i = Y i := fun i hi => (r1 i (by omega)).trans (hsl i hi)
    refine mv_aload_n B dX2_ratio_34 rfl (lv_at hl 0 rfl) ?_
    refine mw_get (C := RX2) (T := TX2) (N := 7) B hI hD.1 uin_X2 rfl 4 (by decide) kw_71 rfl dX2_ratio_35 ?_
    refine mv_aload_n B dX2_ratio_38 rfl (lv_at hl 0 rfl) ?_
    refine mw_get (C := RX2) (T := TX2) (N := 7) B hI hD.1 uin_X2 rfl 0 (by decide) kw_67 rfl dX2_ratio_39 ?_
    refine mv_iload_n B dX2_ratio_42 rfl (lv_at hl 3 rfl) ?_
    obtain ⟨gs, hs1, hs2⟩ := hD.2.1
    refine mw_aald B hI 1 hs1 rfl (c_.toNat) (by omega) (by omega) (by decide) (hs2 _ (by omega)) dX2_ratio_43 ?_
    refine mv_aload_n B dX2_ratio_44 rfl (lv_at hl 0 rfl) ?_
    refine mw_get (C := RX2) (T := TX2) (N := 7) B hI hD.1 uin_X2 rfl 0 (by decide) kw_67 rfl dX2_ratio_45 ?_
    refine mv_iload_n B dX2_ratio_48 rfl (lv_at hl 2 rfl) ?_
    obtain ⟨gs, hs1, hs2⟩ := hD.2.1
    refine mw_aald B hI 1 hs1 rfl (b.toNat) (by omega) (by omega) (by decide) (hs2 _ (by omega)) dX2_ratio_49 ?_
    obtain ⟨_, _, _, cc, -, -⟩ := id (hD.rp (i := 19) (by omega))
    refine mw_callv hI hA (va_runV (As := [.ref ((w (c_.toNat))), .ref ((w (b.toNat)))]) (rest := []) B.fix (t_X1_takeProduct l D kA H.size f (hD.rp (i := 19) (by omega)).w (hD.rp (i := c_.toNat) (by omega)) (hD.rp (i := b.toNat) (by omega)) (hD.ne (i := c_.toNat) (j := 19) (by omega) (by omega) (by omega)).1 (hD.ne (i := c_.toNat) (j := 19) (by omega) (by omega) (by omega)).2 (hD.ne (i := b.toNat) (j := 19) (by omega) (by omega) (by omega)).1 (hD.ne (i := b.toNat) (j := 19) (by omega) (by omega) (by omega)).2 (by rw [hsl _ (by omega)]; exact hB _ (by omega)) (by rw [hsl _ (by omega)]; exact hB _ (by omega))) (cwV 2 B.2.2.2.2.1 (gV kw_113 kw_114 kw_115 kw_2 kw_116) rfl rfl rfl (by decide +kernel) ⟨Nat.le_of_ble_eq_true rfl, Nat.le_of_ble_eq_true rfl⟩) ⟨mw_blind st_S.blind, mw_recv B hI cc rfl, mw_pre B hI (hSt.call hI hA)⟩ rfl rfl hl.1 rfl (lv_room (Nat.le_of_ble_eq_true rfl)) dX2_ratio_50 ⟨Nat.le_of_ble_eq_true rfl, Nat.le_of_ble_eq_true rfl⟩) (fun f H locs hp hI2 => ?_)
    clear hI
    have hI := hI2
    clear hI2
    obtain ⟨hR, o1⟩ := hp
    have ho : ∀ k, ¬ dks d sl pa w ra k → f k = f0 k := fun k h => (o1 k (dks_w h (show 19 < 24 by omega)).1 (dks_w h (show 19 < 24 by omega)).2).trans (ho k h)
    obtain ⟨Y2, hY2, hD⟩ : ∃ Z, Z = upI Y1 (19) (Y1 (c_.toNat) * Y1 (b.toNat)) ∧ DK kA f d sl pa w ra Z := ⟨_, rfl, hD.upd (t := 19) (by omega) hR o1⟩
    have v2 : Y2 (19) = Y1 (c_.toNat) * Y1 (b.toNat) := by rw [hY2, upI_self]
    have r2 : ∀ i, i ≠ 19 → Y2 i = Y1 i := fun i hi => by rw [hY2, upI_ne _ _ hi]
    have hsl : ∀ i, i < 16 → Y2 i = Y i := fun i hi => (r2 i (by omega)).trans (hsl i hi)
    have w1 : Y2 18 = Y a.toNat * Y e_.toNat := by rw [r2 18 (by decide), v1]
    have w2 : Y2 19 = Y c_.toNat * Y b.toNat := by rw [v2, r1 _ (by omega), r1 _ (by omega)]
    refine mv_aload_n B dX2_ratio_53 rfl (lv_at hl 0 rfl) ?_
    refine mw_get (C := RX2) (T := TX2) (N := 7) B hI hD.1 uin_X2 rfl 0 (by decide) kw_67 rfl dX2_ratio_54 ?_
    refine mv_iload_n B dX2_ratio_57 rfl (lv_at hl 2 rfl) ?_
    obtain ⟨gs, hs1, hs2⟩ := hD.2.1
    refine mw_aald B hI 1 hs1 rfl (b.toNat) (by omega) (by omega) (by decide) (hs2 _ (by omega)) dX2_ratio_58 ?_
    obtain ⟨gB, nB, bB, cB, -, zB⟩ := id (hD.rp (i := b.toNat) (by omega))
    have qB := zB.b0
    refine ww_below B hI cB uin_X1 kw_28 dX2_ratio_59 ?_
    refine mv_aload_n B dX2_ratio_62 rfl (lv_at hl 0 rfl) ?_
    refine mw_get (C := RX2) (T := TX2) (N := 7) B hI hD.1 uin_X2 rfl 0 (by decide) kw_67 rfl dX2_ratio_63 ?_
    refine mv_iload B dX2_ratio_66 (lv_at hl 4 rfl) ?_
    obtain ⟨gs, hs1, hs2⟩ := hD.2.1
    refine mw_aald B hI 1 hs1 rfl (e_.toNat) (by omega) (by omega) (by decide) (hs2 _ (by omega)) dX2_ratio_68 ?_
    obtain ⟨gE, nE, bE, cE, -, zE⟩ := id (hD.rp (i := e_.toNat) (by omega))
    have qE := zE.b0
    refine ww_below B hI cE uin_X1 kw_28 dX2_ratio_69 ?_
    rw [hsl _ (by omega)] at qB qE
    have j80 : ∀ (tu : Int), tu = (if bB = bE then 0 else 1) → W p l e rm_X2_ratio s m ([.ref d, .int (iI (a)), .int (iI (b)), .int (iI (c_)), .int (iI (e_))] : List Value).toArray below meth c H locs 0 0 Q (F0 m 80 ls [.int (iI (tu))]) := by
      intro tu htu
      refine mv_istore (lv' := [(5, .int (iI (tu))), (0, .ref d), (1, .int (iI (a))), (2, .int (iI (b))), (3, .int (iI (c_))), (4, .int (iI (e_)))]) B dX2_ratio_80 hl (by decide) rfl (fun ls hl => ?_)
      refine mv_iconst B dX2_ratio_82 ?_
      refine mv_iload B dX2_ratio_83 (lv_at hl 0 rfl) ?_
      refine mv_if_eq (tgt := 102) B dX2_ratio_85 (by decide) (by omega) (fun hd5 => ?_) (fun hd5 => ?_)
      · refine mv_aload_n B dX2_ratio_102 rfl (lv_at hl 1 rfl) ?_
        refine mw_get (C := RX2) (T := TX2) (N := 7) B hI hD.1 uin_X2 rfl 3 (by decide) kw_70 rfl dX2_ratio_103 ?_
        refine mv_aload_n B dX2_ratio_106 rfl (lv_at hl 1 rfl) ?_
        refine mw_get (C := RX2) (T := TX2) (N := 7) B hI hD.1 uin_X2 rfl 4 (by decide) kw_71 rfl dX2_ratio_107 ?_
        obtain ⟨_, _, _, cc, -, -⟩ := id (hD.rp (i := 18) (by omega))
        refine mw_calli hI hA (va_runV (As := [.ref ((w 19))]) (rest := [.int (iI (1))]) B.fix (t_X1_compareWhole l D kA H.size f (hD.rp (i := 18) (by omega)) (hD.rp (i := 19) (by omega))) (cwV 1 B.2.2.2.2.1 (gV kw_306 kw_307 kw_308 kw_2 kw_309) rfl rfl rfl (by decide +kernel) ⟨Nat.le_of_ble_eq_true rfl, Nat.le_of_ble_eq_true rfl⟩) ⟨mw_blind st_S.blind, mw_recv B hI cc rfl, mw_pre B hI (hSt.call hI hA)⟩ rfl rfl hl.1 rfl (lv_room (Nat.le_of_ble_eq_true rfl)) dX2_ratio_110 ⟨Nat.le_of_ble_eq_true rfl, Nat.le_of_ble_eq_true rfl⟩) (fun r f H locs hp hI2 => ?_)
        clear hI
        have hI := hI2
        clear hI2
        obtain ⟨rfl, rfl⟩ := hp
        refine mv_iadd B dX2_ratio_113 ?_
        have hee : (Y b.toNat < 0) = (Y e_.toNat < 0) := propext (by split at htu <;> omega)
        exact mw_iret B hQ hrt hI ⟨by rw [e9, if_pos hee, w1, w2], ⟨_, hD, hsl⟩, ho⟩ dX2_ratio_114
      · refine mv_aload_n B dX2_ratio_88 rfl (lv_at hl 1 rfl) ?_
        refine mw_get (C := RX2) (T := TX2) (N := 7) B hI hD.1 uin_X2 rfl 4 (by decide) kw_71 rfl dX2_ratio_89 ?_
        refine mv_aload_n B dX2_ratio_92 rfl (lv_at hl 1 rfl) ?_
        refine mw_get (C := RX2) (T := TX2) (N := 7) B hI hD.1 uin_X2 rfl 3 (by decide) kw_70 rfl dX2_ratio_93 ?_
        obtain ⟨_, _, _, cc, -, -⟩ := id (hD.rp (i := 19) (by omega))
        refine mw_calli hI hA (va_runV (As := [.ref ((w 18))]) (rest := [.int (iI (1))]) B.fix (t_X1_compareWhole l D kA H.size f (hD.rp (i := 19) (by omega)) (hD.rp (i := 18) (by omega))) (cwV 1 B.2.2.2.2.1 (gV kw_306 kw_307 kw_308 kw_2 kw_309) rfl rfl rfl (by decide +kernel) ⟨Nat.le_of_ble_eq_true rfl, Nat.le_of_ble_eq_true rfl⟩) ⟨mw_blind st_S.blind, mw_recv B hI cc rfl, mw_pre B hI (hSt.call hI hA)⟩ rfl rfl hl.1 rfl (lv_room (Nat.le_of_ble_eq_true rfl)) dX2_ratio_96 ⟨Nat.le_of_ble_eq_true rfl, Nat.le_of_ble_eq_true rfl⟩) (fun r f H locs hp hI2 => ?_)
        clear hI
        have hI := hI2
        clear hI2
        obtain ⟨rfl, rfl⟩ := hp
        refine mv_goto (tgt := 113) B dX2_ratio_99 (by decide) ?_
        refine mv_iadd B dX2_ratio_113 ?_
        have hee : ¬ (Y b.toNat < 0) = (Y e_.toNat < 0) := fun q => by
          have q2 : Y b.toNat < 0 ↔ Y e_.toNat < 0 := by rw [q]
          split at htu <;> omega
        exact mw_iret B hQ hrt hI ⟨by rw [e9, if_neg hee, w1, w2], ⟨_, hD, hsl⟩, ho⟩ dX2_ratio_114
    refine mv_icmp_eq (tgt := 79) B dX2_ratio_72 (by decide) (by omega) (fun hd4 => ?_) (fun hd4 => ?_)
    · refine mv_iconst B dX2_ratio_79 ?_
      exact j80 _ (by rw [if_pos hd4])
    · refine mv_iconst B dX2_ratio_75 ?_
      refine mv_goto (tgt := 80) B dX2_ratio_76 (by decide) ?_
      exact j80 _ (by rw [if_neg hd4])
  · have h1 : ¬ (sOk a ∧ sOk b ∧ sOk c_ ∧ sOk e_ ∧ Y b.toNat ≠ 0 ∧ Y e_.toNat ≠ 0) := fun q => by rw [if_pos q] at hc; exact absurd hc (by decide)
    refine mv_iconst B dX2_ratio_12 ?_
    have e9 : sp_ratio Y a b c_ e_ = -1 := by unfold sp_ratio; rw [if_neg h1]
    exact mw_iret B hQ hrt hI ⟨by rw [e9], ⟨_, hD, hsl⟩, ho⟩ dX2_ratio_13
abbrev rm_X2_keepLowest : Room := { frames := 4, cells := 0, slots := 0, locals := 108 }
set_option maxHeartbeats 4000000 in
set_option maxRecDepth 100000 in
/-- keepLowest -/
theorem t_X2_keepLowest (l : Launch) (D : va_G) (kA : Nat → ClassId) (sz : Nat) (f0 : mw_M) {d sl pa : Nat} {w ra : Nat → Nat} {Y : Nat → Int} {a b : Int} (hD : DK kA f0 d sl pa w ra Y) (hB : ∀ i, i < 16 → ((Y i).natAbs : Int) < 1000000 ^ 50) (h1 : sOk a ∧ sOk b) (hab : a ≠ b) (hq0 : Y 17 ≠ 0) (k1 : ((Y 16).natAbs : Int) < 1000000 ^ 103) (k2 : ((Y 17).natAbs : Int) < 1000000 ^ 103) : mw_Mi l yX2_keepLowest (Cond.code yX2_keepLowest cX2_keepLowest 4 ((some .int)) :: gw) rm_X2_keepLowest D vwCl (tyL kA) st_S [.ref d, .int (iI (a)), .int (iI (b))] f0 sz (fun v f => v = iI (kp2 Y a b (Y 16) (Y 17)).1 ∧ (∃ Y', DK kA f d sl pa w ra Y' ∧ ∀ i, i < 16 → Y' i = (kp2 Y a b (Y 16) (Y 17)).2 i) ∧ ∀ k, ¬ dks d sl pa w ra k → f k = f0 k) 0 0 := by
  refine mw_ofi (cc := cX2_keepLowest) (maxL := 4) (ret := (some .int)) (by decide) rfl (Nat.le_of_ble_eq_true rfl) ?_
  intro p e s m below meth c A ls Q hQ B hrt hnm hA hI hSt hl
  have hl : lv_has ls 4 [(0, .ref d), (1, .int (iI (a))), (2, .int (iI (b)))] := hl
  obtain ⟨f, hI, hf⟩ : ∃ f, mw_I D vwCl A s s.heap [] f ∧ f = f0 := ⟨f0, hI, rfl⟩
  rw [← hf] at hD
  have ho : ∀ k, ¬ dks d sl pa w ra k → f k = f0 k := fun k _ => by rw [hf]
  have hsl : ∀ i, i < 16 → Y i = Y i := fun _ _ => rfl
  have G0 := gcd_pos_ (p := Y 16) hq0
  obtain ⟨G, hG⟩ : ∃ G, G = (Int.gcd (Y 16) (Y 17) : Int) := ⟨_, rfl⟩
  rw [← hG] at G0
  refine mv_aload_n B dX2_keepLowest_0 rfl (lv_at hl 0 rfl) ?_
  refine mw_get (C := RX2) (T := TX2) (N := 7) B hI hD.1 uin_X2 rfl 6 (by decide) kw_73 rfl dX2_keepLowest_1 ?_
  refine mv_aload_n B dX2_keepLowest_4 rfl (lv_at hl 0 rfl) ?_
  refine mw_get (C := RX2) (T := TX2) (N := 7) B hI hD.1 uin_X2 rfl 1 (by decide) kw_68 rfl dX2_keepLowest_5 ?_
  refine mv_aload_n B dX2_keepLowest_8 rfl (lv_at hl 0 rfl) ?_
  refine mw_get (C := RX2) (T := TX2) (N := 7) B hI hD.1 uin_X2 rfl 2 (by decide) kw_69 rfl dX2_keepLowest_9 ?_
  obtain ⟨mo, rmo, fe, rfe, pa1, pa2, pa3, pa4, hsw, hpq⟩ := id hD.2.2.1
  obtain ⟨hpm, hpf, hpn⟩ := swp_rp hsw (hD.rp (i := 22) (by omega)) (hD.rp (i := 23) (by omega)) (hD.ne (i := 22) (j := 23) (by omega) (by omega) (by omega)).1 (hD.ne (i := 22) (j := 23) (by omega) (by omega) (by omega)).2 (hD.ne (i := 21) (j := 22) (by omega) (by omega) (by omega)).1 (hD.ne (i := 21) (j := 23) (by omega) (by omega) (by omega)).1 (hD.ne (i := 21) (j := 22) (by omega) (by omega) (by omega)).2 (hD.ne (i := 21) (j := 23) (by omega) (by omega) (by omega)).2
  have nxa := swp_ne hsw (hD.ne (i := 16) (j := 22) (by omega) (by omega) (by omega)).1 (hD.ne (i := 16) (j := 23) (by omega) (by omega) (by omega)).1 (hD.ne (i := 16) (j := 22) (by omega) (by omega) (by omega)).2 (hD.ne (i := 16) (j := 23) (by omega) (by omega) (by omega)).2
  have nxb := swp_ne hsw (hD.ne (i := 17) (j := 22) (by omega) (by omega) (by omega)).1 (hD.ne (i := 17) (j := 23) (by omega) (by omega) (by omega)).1 (hD.ne (i := 17) (j := 22) (by omega) (by omega) (by omega)).2 (hD.ne (i := 17) (j := 23) (by omega) (by omega) (by omega)).2
  refine mw_callr hI hA (va_runV (As := [.ref ((w 16)), .ref ((w 17))]) (rest := []) B.fix (t_X0_commonDivisor l D kA s.heap.size f hpq (hD.rp (i := 21) (by omega)) hpm.choose_spec hpf.choose_spec (hD.rp (i := 16) (by omega)) (hD.rp (i := 17) (by omega)) hpn.1 hpn.2.1 hpn.2.2.1 hpn.2.2.2.1 hpn.2.2.2.2.1 hpn.2.2.2.2.2 nxa.1 nxa.2.1 nxa.2.2.1 nxa.2.2.2 nxb.1 nxb.2.1 nxb.2.2.1 nxb.2.2.2 (by omega) (by omega)) (cwV 2 B.2.2.2.2.1 (gV kw_223 kw_224 kw_225 kw_3 kw_226) rfl rfl rfl (by decide +kernel) ⟨Nat.le_of_ble_eq_true rfl, Nat.le_of_ble_eq_true rfl⟩) ⟨mw_blind st_S.blind, mw_recv B hI hpq rfl, mw_pre B hI (hSt.call hI hA)⟩ rfl rfl hl.1 rfl (lv_room (Nat.le_of_ble_eq_true rfl)) dX2_keepLowest_12 ⟨Nat.le_of_ble_eq_true rfl, Nat.le_of_ble_eq_true rfl⟩) (fun r f H locs hp hI2 => ?_)
  clear hI
  have hI := hI2
  clear hI2
  obtain ⟨u1, Y1, hu1, hu2, hD, hg1, r1, o1⟩ := hD.cd hsw hp
  subst hu2
  have ho : ∀ k, ¬ dks d sl pa w ra k → f k = f0 k := fun k h => (o1 k h).trans (ho k h)
  have hsl : ∀ i, i < 16 → Y1 i = Y i := fun i hi => (r1 i (by omega)).trans (hsl i hi)
  rw [← hG] at hg1
  have p16 : Y1 16 = Y 16 := r1 _ (by omega)
  have p17 : Y1 17 = Y 17 := r1 _ (by omega)
  refine mv_astore_n (lv' := [(3, .ref ((w u1))), (0, .ref d), (1, .int (iI (a))), (2, .int (iI (b)))]) B dX2_keepLowest_15 rfl hl (by decide) rfl (fun ls hl => ?_)
  refine mv_aload_n B dX2_keepLowest_16 rfl (lv_at hl 1 rfl) ?_
  refine mw_get (C := RX2) (T := TX2) (N := 7) B hI hD.1 uin_X2 rfl 1 (by decide) kw_68 rfl dX2_keepLowest_17 ?_
  refine mv_aload_n B dX2_keepLowest_20 rfl (lv_at hl 0 rfl) ?_
  refine mv_aload_n B dX2_keepLowest_21 rfl (lv_at hl 1 rfl) ?_
  refine mw_get (C := RX2) (T := TX2) (N := 7) B hI hD.1 uin_X2 rfl 3 (by decide) kw_70 rfl dX2_keepLowest_22 ?_
  obtain ⟨_, _, _, cc, -, -⟩ := id (hD.rp (i := 16) (by omega))
  refine mw_callv hI hA (va_runV (As := [.ref ((w u1)), .ref ((w 18))]) (rest := []) B.fix (t_X1_divideBy l D kA H.size f (hD.rp (i := 16) (by omega)) (hD.rp (i := u1) (by omega)) (hD.rp (i := 18) (by omega)).w (hD.ne (i := u1) (j := 16) (by omega) (by omega) (by omega)).1 (hD.ne (i := u1) (j := 16) (by omega) (by omega) (by omega)).2 (hD.ne (i := 18) (j := 16) (by omega) (by omega) (by omega)).1 (hD.ne (i := 18) (j := 16) (by omega) (by omega) (by omega)).2 (hD.ne (i := 18) (j := u1) (by omega) (by omega) (by omega)).1 (hD.ne (i := 18) (j := u1) (by omega) (by omega) (by omega)).2 (by rw [hg1]; omega) (by rw [p16]; omega)) (cwV 2 B.2.2.2.2.1 (gV kw_194 kw_195 kw_196 kw_2 kw_197) rfl rfl rfl (by decide +kernel) ⟨Nat.le_of_ble_eq_true rfl, Nat.le_of_ble_eq_true rfl⟩) ⟨mw_blind st_S.blind, mw_recv B hI cc rfl, mw_pre B hI (hSt.call hI hA)⟩ rfl rfl hl.1 rfl (lv_room (Nat.le_of_ble_eq_true rfl)) dX2_keepLowest_25 ⟨Nat.le_of_ble_eq_true rfl, Nat.le_of_ble_eq_true rfl⟩) (fun f H locs hp hI2 => ?_)
  clear hI
  have hI := hI2
  clear hI2
  obtain ⟨hR, hR2, o1⟩ := hp
  have ho : ∀ k, ¬ dks d sl pa w ra k → f k = f0 k := fun k h => (o1 k (dks_w h (show 16 < 24 by omega)).1 (dks_w h (show 16 < 24 by omega)).2 (dks_w h (show 18 < 24 by omega)).1 (dks_w h (show 18 < 24 by omega)).2).trans (ho k h)
  obtain ⟨Y2, hY2, hD⟩ : ∃ Z, Z = upI (upI Y1 (16) ((Y1 (16)).tmod (Y1 (u1)))) (18) ((Y1 (16)).tdiv (Y1 (u1))) ∧ DK kA f d sl pa w ra Z := ⟨_, rfl, hD.upd2 (t := 16) (u := 18) (by omega) (by omega) (by omega) hR hR2 o1⟩
  have v2 : Y2 (16) = (Y1 (16)).tmod (Y1 (u1)) := by rw [hY2, upI_ne _ _ (by omega), upI_self]
  have u2 : Y2 (18) = (Y1 (16)).tdiv (Y1 (u1)) := by rw [hY2, upI_self]
  have r2 : ∀ i, i ≠ 16 → i ≠ 18 → Y2 i = Y1 i := fun i hi hj => by rw [hY2, upI_ne _ _ hj, upI_ne _ _ hi]
  have hsl : ∀ i, i < 16 → Y2 i = Y i := fun i hi => (r2 i (by omega) (by omega)).trans (hsl i hi)
  rw [p16, hg1] at u2
  have gg : Y2 u1 = G := by rw [r2 _ (by omega) (by omega)]; exact hg1
  have q17 : Y2 17 = Y 17 := by rw [r2 _ (by omega) (by omega)]; exact p17
  refine mv_aload_n B dX2_keepLowest_28 rfl (lv_at hl 1 rfl) ?_
  refine mw_get (C := RX2) (T := TX2) (N := 7) B hI hD.1 uin_X2 rfl 2 (by decide) kw_69 rfl dX2_keepLowest_29 ?_
  refine mv_aload_n B dX2_keepLowest_32 rfl (lv_at hl 0 rfl) ?_
  refine mv_aload_n B dX2_keepLowest_33 rfl (lv_at hl 1 rfl) ?_
  refine mw_get (C := RX2) (T := TX2) (N := 7) B hI hD.1 uin_X2 rfl 4 (by decide) kw_71 rfl dX2_keepLowest_34 ?_
  obtain ⟨_, _, _, cc, -, -⟩ := id (hD.rp (i := 17) (by omega))
  refine mw_callv hI hA (va_runV (As := [.ref ((w u1)), .ref ((w 19))]) (rest := []) B.fix (t_X1_divideBy l D kA H.size f (hD.rp (i := 17) (by omega)) (hD.rp (i := u1) (by omega)) (hD.rp (i := 19) (by omega)).w (hD.ne (i := u1) (j := 17) (by omega) (by omega) (by omega)).1 (hD.ne (i := u1) (j := 17) (by omega) (by omega) (by omega)).2 (hD.ne (i := 19) (j := 17) (by omega) (by omega) (by omega)).1 (hD.ne (i := 19) (j := 17) (by omega) (by omega) (by omega)).2 (hD.ne (i := 19) (j := u1) (by omega) (by omega) (by omega)).1 (hD.ne (i := 19) (j := u1) (by omega) (by omega) (by omega)).2 (by rw [gg]; omega) (by rw [q17]; omega)) (cwV 2 B.2.2.2.2.1 (gV kw_194 kw_195 kw_196 kw_2 kw_197) rfl rfl rfl (by decide +kernel) ⟨Nat.le_of_ble_eq_true rfl, Nat.le_of_ble_eq_true rfl⟩) ⟨mw_blind st_S.blind, mw_recv B hI cc rfl, mw_pre B hI (hSt.call hI hA)⟩ rfl rfl hl.1 rfl (lv_room (Nat.le_of_ble_eq_true rfl)) dX2_keepLowest_37 ⟨Nat.le_of_ble_eq_true rfl, Nat.le_of_ble_eq_true rfl⟩) (fun f H locs hp hI2 => ?_)
  clear hI
  have hI := hI2
  clear hI2
  obtain ⟨hR, hR2, o1⟩ := hp
  have ho : ∀ k, ¬ dks d sl pa w ra k → f k = f0 k := fun k h => (o1 k (dks_w h (show 17 < 24 by omega)).1 (dks_w h (show 17 < 24 by omega)).2 (dks_w h (show 19 < 24 by omega)).1 (dks_w h (show 19 < 24 by omega)).2).trans (ho k h)
  obtain ⟨Y3, hY3, hD⟩ : ∃ Z, Z = upI (upI Y2 (17) ((Y2 (17)).tmod (Y2 (u1)))) (19) ((Y2 (17)).tdiv (Y2 (u1))) ∧ DK kA f d sl pa w ra Z := ⟨_, rfl, hD.upd2 (t := 17) (u := 19) (by omega) (by omega) (by omega) hR hR2 o1⟩
  have v3 : Y3 (17) = (Y2 (17)).tmod (Y2 (u1)) := by rw [hY3, upI_ne _ _ (by omega), upI_self]
  have u3 : Y3 (19) = (Y2 (17)).tdiv (Y2 (u1)) := by rw [hY3, upI_self]
  have r3 : ∀ i, i ≠ 17 → i ≠ 19 → Y3 i = Y2 i := fun i hi hj => by rw [hY3, upI_ne _ _ hj, upI_ne _ _ hi]
  have hsl : ∀ i, i < 16 → Y3 i = Y i := fun i hi => (r3 i (by omega) (by omega)).trans (hsl i hi)
  rw [q17, gg] at u3
  have w18 : Y3 18 = (Y 16).tdiv G := by rw [r3 _ (by omega) (by omega)]; exact u2
  have lw := lw_neg G0 (show G ∣ Y 17 by rw [hG]; exact Int.gcd_dvd_right ..)
  refine mv_aload_n B dX2_keepLowest_40 rfl (lv_at hl 1 rfl) ?_
  refine mw_get (C := RX2) (T := TX2) (N := 7) B hI hD.1 uin_X2 rfl 4 (by decide) kw_71 rfl dX2_keepLowest_41 ?_
  obtain ⟨gS, nS, bS, cS, -, zS⟩ := id (hD.rp (i := 19) (by omega))
  have qS := zS.b0
  refine ww_below B hI cS uin_X1 kw_28 dX2_keepLowest_44 ?_
  rw [u3] at qS
  have j64 : ∀ (Yc : Nat → Int) (f : mw_M) (H : Heap) (locs : List Loc), DK kA f d sl pa w ra Yc → (∀ i, i < 16 → Yc i = Y i) → Yc 18 = lwN (Y 16) (Y 17) → Yc 19 = lwD (Y 16) (Y 17) → (∀ k, ¬ dks d sl pa w ra k → f k = f0 k) → mw_I D vwCl A s H locs f → W p l e rm_X2_keepLowest s m ([.ref d, .int (iI (a)), .int (iI (b))] : List Value).toArray below meth c H locs 0 0 Q (F0 m 64 ls []) := by
    intro Yc f H locs hD hsl w1 w2 ho hI
    refine mv_aload_n B dX2_keepLowest_64 rfl (lv_at hl 1 rfl) ?_
    refine mw_get (C := RX2) (T := TX2) (N := 7) B hI hD.1 uin_X2 rfl 3 (by decide) kw_70 rfl dX2_keepLowest_65 ?_
    obtain ⟨g, n, b_, c1, c2, c3_⟩ := id (hD.rp (i := 18) (by omega))
    have m1 := c3_.1
    have m2 := c3_.size 50
    refine mw_calli hI hA (va_runV (As := []) (rest := []) B.fix (t_X1_isTooLong l D kA H.size f c1 (by omega)) (cwV 0 B.2.2.2.2.1 (gV kw_148 kw_149 kw_150 kw_2 kw_151) rfl rfl rfl (by decide +kernel) ⟨Nat.le_of_ble_eq_true rfl, Nat.le_of_ble_eq_true rfl⟩) ⟨mw_blind st_S.blind, mw_recv B hI c1 rfl, mw_pre B hI (hSt.call hI hA)⟩ rfl rfl hl.1 rfl (lv_room (Nat.le_of_ble_eq_true rfl)) dX2_keepLowest_68 ⟨Nat.le_of_ble_eq_true rfl, Nat.le_of_ble_eq_true rfl⟩) (fun r f H locs hp hI2 => ?_)
    clear hI
    have hI := hI2
    clear hI2
    obtain ⟨rfl, rfl⟩ := hp
    rw [w1] at m2
    refine mv_if_ne (tgt := 84) B dX2_keepLowest_71 (by decide) (by split <;> omega) (fun hd1 => ?_) (fun hd1 => ?_)
    · have hx : ¬ ((lwN (Y 16) (Y 17)).natAbs : Int) < 1000000 ^ 50 := fun q => hd1 (by rw [if_pos (by have := m2.mpr q; omega)])
      have e9 := kp2_n (Y := Y) (a := a) (b := b) (fun q => hx q.1)
      refine mv_iconst B dX2_keepLowest_84 ?_
      exact mw_iret B hQ hrt hI ⟨by rw [e9], ⟨_, hD, fun i hi => (hsl i hi).trans (by rw [e9])⟩, ho⟩ dX2_keepLowest_85
    · have f1 : ((lwN (Y 16) (Y 17)).natAbs : Int) < 1000000 ^ 50 := m2.mp (by
        by_cases q : (n : Int) ≤ 50
        · omega
        · rw [if_neg q] at hd1; exact absurd hd1 (by decide))
      refine mv_aload_n B dX2_keepLowest_74 rfl (lv_at hl 1 rfl) ?_
      refine mw_get (C := RX2) (T := TX2) (N := 7) B hI hD.1 uin_X2 rfl 4 (by decide) kw_71 rfl dX2_keepLowest_75 ?_
      obtain ⟨g, n, b_, c1, c2, c3_⟩ := id (hD.rp (i := 19) (by omega))
      have m1 := c3_.1
      have m2 := c3_.size 50
      refine mw_calli hI hA (va_runV (As := []) (rest := []) B.fix (t_X1_isTooLong l D kA H.size f c1 (by omega)) (cwV 0 B.2.2.2.2.1 (gV kw_148 kw_149 kw_150 kw_2 kw_151) rfl rfl rfl (by decide +kernel) ⟨Nat.le_of_ble_eq_true rfl, Nat.le_of_ble_eq_true rfl⟩) ⟨mw_blind st_S.blind, mw_recv B hI c1 rfl, mw_pre B hI (hSt.call hI hA)⟩ rfl rfl hl.1 rfl (lv_room (Nat.le_of_ble_eq_true rfl)) dX2_keepLowest_78 ⟨Nat.le_of_ble_eq_true rfl, Nat.le_of_ble_eq_true rfl⟩) (fun r f H locs hp hI2 => ?_)
      clear hI
      have hI := hI2
      clear hI2
      obtain ⟨rfl, rfl⟩ := hp
      rw [w2] at m2
      refine mv_if_eq (tgt := 86) B dX2_keepLowest_81 (by decide) (by split <;> omega) (fun hd2 => ?_) (fun hd2 => ?_)
      · have f2 : ((lwD (Y 16) (Y 17)).natAbs : Int) < 1000000 ^ 50 := m2.mp (by
          by_cases q : (n : Int) ≤ 50
          · omega
          · rw [if_neg q] at hd2; exact absurd hd2 (by decide))
        have e9 := kp2_y (Y := Y) (a := a) (b := b) f1 f2
        refine mv_aload_n B dX2_keepLowest_86 rfl (lv_at hl 1 rfl) ?_
        refine mw_get (C := RX2) (T := TX2) (N := 7) B hI hD.1 uin_X2 rfl 0 (by decide) kw_67 rfl dX2_keepLowest_87 ?_
        refine mv_iload_n B dX2_keepLowest_90 rfl (lv_at hl 2 rfl) ?_
        obtain ⟨gs, hs1, hs2⟩ := hD.2.1
        refine mw_aald B hI 1 hs1 rfl (a.toNat) (by omega) (by omega) (by decide) (hs2 _ (by omega)) dX2_keepLowest_91 ?_
        refine mv_aload_n B dX2_keepLowest_92 rfl (lv_at hl 1 rfl) ?_
        refine mw_get (C := RX2) (T := TX2) (N := 7) B hI hD.1 uin_X2 rfl 3 (by decide) kw_70 rfl dX2_keepLowest_93 ?_
        obtain ⟨_, _, _, cc, -, -⟩ := id (hD.rp (i := a.toNat) (by omega))
        refine mw_callv hI hA (va_runV (As := [.ref ((w 18))]) (rest := []) B.fix (t_X1_take l D kA H.size f (hD.rp (i := a.toNat) (by omega)).w (hD.rp (i := 18) (by omega)) (Or.inr (hD.ne (i := 18) (j := a.toNat) (by omega) (by omega) (by omega)))) (cwV 1 B.2.2.2.2.1 (gV kw_152 kw_153 kw_154 kw_2 kw_155) rfl rfl rfl (by decide +kernel) ⟨Nat.le_of_ble_eq_true rfl, Nat.le_of_ble_eq_true rfl⟩) ⟨mw_blind st_S.blind, mw_recv B hI cc rfl, mw_pre B hI (hSt.call hI hA)⟩ rfl rfl hl.1 rfl (lv_room (Nat.le_of_ble_eq_true rfl)) dX2_keepLowest_96 ⟨Nat.le_of_ble_eq_true rfl, Nat.le_of_ble_eq_true rfl⟩) (fun f H locs hp hI2 => ?_)
        clear hI
        have hI := hI2
        clear hI2
        obtain ⟨hR, o1⟩ := hp
        have ho : ∀ k, ¬ dks d sl pa w ra k → f k = f0 k := fun k h => (o1 k (dks_w h (show a.toNat < 24 by omega)).1 (dks_w h (show a.toNat < 24 by omega)).2).trans (ho k h)
        have hD := hD.upd (t := a.toNat) (by omega) hR o1
        refine mv_aload_n B dX2_keepLowest_99 rfl (lv_at hl 1 rfl) ?_
        refine mw_get (C := RX2) (T := TX2) (N := 7) B hI hD.1 uin_X2 rfl 0 (by decide) kw_67 rfl dX2_keepLowest_100 ?_
        refine mv_iload_n B dX2_keepLowest_103 rfl (lv_at hl 3 rfl) ?_
        obtain ⟨gs, hs1, hs2⟩ := hD.2.1
        refine mw_aald B hI 1 hs1 rfl (b.toNat) (by omega) (by omega) (by decide) (hs2 _ (by omega)) dX2_keepLowest_104 ?_
        refine mv_aload_n B dX2_keepLowest_105 rfl (lv_at hl 1 rfl) ?_
        refine mw_get (C := RX2) (T := TX2) (N := 7) B hI hD.1 uin_X2 rfl 4 (by decide) kw_71 rfl dX2_keepLowest_106 ?_
        obtain ⟨_, _, _, cc, -, -⟩ := id (hD.rp (i := b.toNat) (by omega))
        refine mw_callv hI hA (va_runV (As := [.ref ((w 19))]) (rest := []) B.fix (t_X1_take l D kA H.size f (hD.rp (i := b.toNat) (by omega)).w (hD.rp (i := 19) (by omega)) (Or.inr (hD.ne (i := 19) (j := b.toNat) (by omega) (by omega) (by omega)))) (cwV 1 B.2.2.2.2.1 (gV kw_152 kw_153 kw_154 kw_2 kw_155) rfl rfl rfl (by decide +kernel) ⟨Nat.le_of_ble_eq_true rfl, Nat.le_of_ble_eq_true rfl⟩) ⟨mw_blind st_S.blind, mw_recv B hI cc rfl, mw_pre B hI (hSt.call hI hA)⟩ rfl rfl hl.1 rfl (lv_room (Nat.le_of_ble_eq_true rfl)) dX2_keepLowest_109 ⟨Nat.le_of_ble_eq_true rfl, Nat.le_of_ble_eq_true rfl⟩) (fun f H locs hp hI2 => ?_)
        clear hI
        have hI := hI2
        clear hI2
        obtain ⟨hR, o1⟩ := hp
        have ho : ∀ k, ¬ dks d sl pa w ra k → f k = f0 k := fun k h => (o1 k (dks_w h (show b.toNat < 24 by omega)).1 (dks_w h (show b.toNat < 24 by omega)).2).trans (ho k h)
        have hD := hD.upd (t := b.toNat) (by omega) hR o1
        have hfin : ∀ i, i < 16 → upI (upI Yc a.toNat (Yc 18)) b.toNat (upI Yc a.toNat (Yc 18) 19) i = upI (upI Y a.toNat (lwN (Y 16) (Y 17))) b.toNat (lwD (Y 16) (Y 17)) i := fun i hi => by
          rw [upI_ne _ _ (show 19 ≠ a.toNat by omega), w1, w2]
          exact upI2_same hsl i hi
        refine mv_iconst B dX2_keepLowest_112 ?_
        exact mw_iret B hQ hrt hI ⟨by rw [e9], ⟨_, hD, fun i hi => (hfin i hi).trans (by rw [e9])⟩, ho⟩ dX2_keepLowest_113
      · have hx : ¬ ((lwD (Y 16) (Y 17)).natAbs : Int) < 1000000 ^ 50 := fun q => hd2 (by rw [if_pos (by have := m2.mpr q; omega)])
        have e9 := kp2_n (Y := Y) (a := a) (b := b) (fun q => hx q.2)
        refine mv_iconst B dX2_keepLowest_84 ?_
        exact mw_iret B hQ hrt hI ⟨by rw [e9], ⟨_, hD, fun i hi => (hsl i hi).trans (by rw [e9])⟩, ho⟩ dX2_keepLowest_85
  refine mv_if_eq (tgt := 64) B dX2_keepLowest_47 (by decide) (by omega) (fun hd0 => ?_) (fun hd0 => ?_)
  · exact j64 Y3 f H locs hD hsl (by rw [w18]; unfold lwN; rw [if_neg (by omega), ← hG]) (by rw [u3]; unfold lwD; rw [lw.2.2 (by omega), ← hG]) ho hI
  · refine mv_aload_n B dX2_keepLowest_50 rfl (lv_at hl 1 rfl) ?_
    refine mw_get (C := RX2) (T := TX2) (N := 7) B hI hD.1 uin_X2 rfl 3 (by decide) kw_70 rfl dX2_keepLowest_51 ?_
    obtain ⟨g, n, b_, c1, c2, c3_⟩ := id (hD.rp (i := 18) (by omega))
    have m1 := c3_.1
    have qq := c3_.b0
    refine mw_callv hI hA (va_runV (As := []) (rest := []) B.fix (t_X1_turnSign l D kA H.size f c1 c2 (by omega) (by omega)) (cwV 0 B.2.2.2.2.1 (gV kw_290 kw_291 kw_292 kw_2 kw_293) rfl rfl rfl (by decide +kernel) ⟨Nat.le_of_ble_eq_true rfl, Nat.le_of_ble_eq_true rfl⟩) ⟨mw_blind st_S.blind, mw_recv B hI c1 rfl, mw_pre B hI (hSt.call hI hA)⟩ rfl rfl hl.1 rfl (lv_room (Nat.le_of_ble_eq_true rfl)) dX2_keepLowest_54 ⟨Nat.le_of_ble_eq_true rfl, Nat.le_of_ble_eq_true rfl⟩) (fun f H locs hp hI2 => ?_)
    clear hI
    have hI := hI2
    clear hI2
    have hp := Rp.turn c3_ hp
    obtain ⟨hR, o1⟩ := hp
    have ho : ∀ k, ¬ dks d sl pa w ra k → f k = f0 k := fun k h => (o1 k (dks_w h (show 18 < 24 by omega)).1 (dks_w h (show 18 < 24 by omega)).2).trans (ho k h)
    obtain ⟨Y4, hY4, hD⟩ : ∃ Z, Z = upI Y3 (18) (-(Y3 18)) ∧ DK kA f d sl pa w ra Z := ⟨_, rfl, hD.upd (t := 18) (by omega) hR o1⟩
    have v4 : Y4 (18) = -(Y3 18) := by rw [hY4, upI_self]
    have r4 : ∀ i, i ≠ 18 → Y4 i = Y3 i := fun i hi => by rw [hY4, upI_ne _ _ hi]
    have hsl : ∀ i, i < 16 → Y4 i = Y i := fun i hi => (r4 i (by omega)).trans (hsl i hi)
    refine mv_aload_n B dX2_keepLowest_57 rfl (lv_at hl 1 rfl) ?_
    refine mw_get (C := RX2) (T := TX2) (N := 7) B hI hD.1 uin_X2 rfl 4 (by decide) kw_71 rfl dX2_keepLowest_58 ?_
    obtain ⟨g, n, b_, c1, c2, c3_⟩ := id (hD.rp (i := 19) (by omega))
    have m1 := c3_.1
    have qq := c3_.b0
    refine mw_callv hI hA (va_runV (As := []) (rest := []) B.fix (t_X1_turnSign l D kA H.size f c1 c2 (by omega) (by omega)) (cwV 0 B.2.2.2.2.1 (gV kw_290 kw_291 kw_292 kw_2 kw_293) rfl rfl rfl (by decide +kernel) ⟨Nat.le_of_ble_eq_true rfl, Nat.le_of_ble_eq_true rfl⟩) ⟨mw_blind st_S.blind, mw_recv B hI c1 rfl, mw_pre B hI (hSt.call hI hA)⟩ rfl rfl hl.1 rfl (lv_room (Nat.le_of_ble_eq_true rfl)) dX2_keepLowest_61 ⟨Nat.le_of_ble_eq_true rfl, Nat.le_of_ble_eq_true rfl⟩) (fun f H locs hp hI2 => ?_)
    clear hI
    have hI := hI2
    clear hI2
    have hp := Rp.turn c3_ hp
    obtain ⟨hR, o1⟩ := hp
    have ho : ∀ k, ¬ dks d sl pa w ra k → f k = f0 k := fun k h => (o1 k (dks_w h (show 19 < 24 by omega)).1 (dks_w h (show 19 < 24 by omega)).2).trans (ho k h)
    obtain ⟨Y5, hY5, hD⟩ : ∃ Z, Z = upI Y4 (19) (-(Y4 19)) ∧ DK kA f d sl pa w ra Z := ⟨_, rfl, hD.upd (t := 19) (by omega) hR o1⟩
    have v5 : Y5 (19) = -(Y4 19) := by rw [hY5, upI_self]
    have r5 : ∀ i, i ≠ 19 → Y5 i = Y4 i := fun i hi => by rw [hY5, upI_ne _ _ hi]
    have hsl : ∀ i, i < 16 → Y5 i = Y i := fun i hi => (r5 i (by omega)).trans (hsl i hi)
    exact j64 Y5 f H locs hD hsl (by rw [r5 _ (by decide), v4, w18]; unfold lwN; rw [if_pos (by omega), ← hG]) (by rw [v5, r4 _ (by decide), u3]; unfold lwD; rw [lw.2.1 (by omega), ← hG]) ho hI
abbrev rm_X2_lowest : Room := { frames := 5, cells := 0, slots := 0, locals := 131 }
set_option maxHeartbeats 4000000 in
set_option maxRecDepth 100000 in
/-- lowest -/
theorem t_X2_lowest (l : Launch) (D : va_G) (kA : Nat → ClassId) (sz : Nat) (f0 : mw_M) {d sl pa : Nat} {w ra : Nat → Nat} {Y : Nat → Int} {a b : Int} (hD : DK kA f0 d sl pa w ra Y) (hB : ∀ i, i < 16 → ((Y i).natAbs : Int) < 1000000 ^ 50) (ha : -2147483648 ≤ a ∧ a ≤ 2147483647) (hb : -2147483648 ≤ b ∧ b ≤ 2147483647) : mw_Mi l yX2_lowest (Cond.code yX2_lowest cX2_lowest 3 ((some .int)) :: gw) rm_X2_lowest D vwCl (tyL kA) st_S [.ref d, .int (iI (a)), .int (iI (b))] f0 sz (fun v f => v = iI (sp_lowest Y a b).1 ∧ (∃ Y', DK kA f d sl pa w ra Y' ∧ ∀ i, i < 16 → Y' i = (sp_lowest Y a b).2 i) ∧ ∀ k, ¬ dks d sl pa w ra k → f k = f0 k) 0 0 := by
  refine mw_ofi (cc := cX2_lowest) (maxL := 3) (ret := (some .int)) (by decide) rfl (Nat.le_of_ble_eq_true rfl) ?_
  intro p e s m below meth c A ls Q hQ B hrt hnm hA hI hSt hl
  have hl : lv_has ls 3 [(0, .ref d), (1, .int (iI (a))), (2, .int (iI (b)))] := hl
  obtain ⟨f, hI, hf⟩ : ∃ f, mw_I D vwCl A s s.heap [] f ∧ f = f0 := ⟨f0, hI, rfl⟩
  rw [← hf] at hD
  have ho : ∀ k, ¬ dks d sl pa w ra k → f k = f0 k := fun k _ => by rw [hf]
  have hsl : ∀ i, i < 16 → Y i = Y i := fun _ _ => rfl
  refine mv_iload_n B dX2_lowest_0 rfl (lv_at hl 1 rfl) ?_
  refine mv_iload_n B dX2_lowest_1 rfl (lv_at hl 2 rfl) ?_
  refine mw_calli hI hA (va_runS (As := [.int (iI (a)), .int (iI (b))]) (rest := []) B.fix (t_X2_areSlots l D kA s.heap.size f ha hb) (cwS 2 B.2.2.2.2.1 (gS kw_163 kw_164 kw_1 kw_165) rfl rfl rfl (by decide +kernel) ⟨Nat.le_of_ble_eq_true rfl, Nat.le_of_ble_eq_true rfl⟩) ⟨mw_blind st_S.blind, mw_pre B hI (hSt.call hI hA)⟩ rfl rfl hl.1 rfl (lv_room (Nat.le_of_ble_eq_true rfl)) dX2_lowest_2 ⟨Nat.le_of_ble_eq_true rfl, Nat.le_of_ble_eq_true rfl⟩) (fun r f H locs hp hI2 => ?_)
  clear hI
  have hI := hI2
  clear hI2
  obtain ⟨rfl, rfl⟩ := hp
  refine mv_if_eq (tgt := 25) B dX2_lowest_5 (by decide) (by split <;> omega) (fun hc => ?_) (fun hc => ?_)
  · have h1 : ¬ (sOk a ∧ sOk b) := fun q => by rw [if_pos q] at hc; exact absurd hc (by decide)
    refine mv_iconst B dX2_lowest_25 ?_
    have e9 : sp_lowest Y a b = (-1, Y) := by unfold sp_lowest; rw [if_neg (fun q => h1 ⟨q.1, q.2.1⟩)]
    exact mw_iret B hQ hrt hI ⟨by rw [e9], ⟨_, hD, fun i hi => (hsl i hi).trans (by rw [e9])⟩, ho⟩ dX2_lowest_26
  · have h1 : sOk a ∧ sOk b := by
      by_cases q : sOk a ∧ sOk b
      · exact q
      · rw [if_neg q] at hc; exact absurd rfl hc
    refine mv_iload_n B dX2_lowest_8 rfl (lv_at hl 1 rfl) ?_
    refine mv_iload_n B dX2_lowest_9 rfl (lv_at hl 2 rfl) ?_
    refine mv_icmp_eq (tgt := 25) B dX2_lowest_10 (by decide) (by omega) (fun hc2 => ?_) (fun hc2 => ?_)
    · refine mv_iconst B dX2_lowest_25 ?_
      have e9 : sp_lowest Y a b = (-1, Y) := by unfold sp_lowest; rw [if_neg (fun q => q.2.2.1 hc2)]
      exact mw_iret B hQ hrt hI ⟨by rw [e9], ⟨_, hD, fun i hi => (hsl i hi).trans (by rw [e9])⟩, ho⟩ dX2_lowest_26
    · have hab : a ≠ b := hc2
      refine mv_aload_n B dX2_lowest_13 rfl (lv_at hl 0 rfl) ?_
      refine mw_get (C := RX2) (T := TX2) (N := 7) B hI hD.1 uin_X2 rfl 0 (by decide) kw_67 rfl dX2_lowest_14 ?_
      refine mv_iload_n B dX2_lowest_17 rfl (lv_at hl 2 rfl) ?_
      obtain ⟨gs, hs1, hs2⟩ := hD.2.1
      refine mw_aald B hI 1 hs1 rfl (b.toNat) (by omega) (by omega) (by decide) (hs2 _ (by omega)) dX2_lowest_18 ?_
      obtain ⟨g, n, b_, c1, c2, c3_⟩ := id (hD.rp (i := b.toNat) (by omega))
      have m1 := c3_.1
      have hz0 := c3_.zero
      refine mw_calli hI hA (va_runV (As := []) (rest := []) B.fix (t_X1_isZero l D kA H.size f c1 (by omega)) (cwV 0 B.2.2.2.2.1 (gV kw_190 kw_191 kw_192 kw_2 kw_193) rfl rfl rfl (by decide +kernel) ⟨Nat.le_of_ble_eq_true rfl, Nat.le_of_ble_eq_true rfl⟩) ⟨mw_blind st_S.blind, mw_recv B hI c1 rfl, mw_pre B hI (hSt.call hI hA)⟩ rfl rfl hl.1 rfl (lv_room (Nat.le_of_ble_eq_true rfl)) dX2_lowest_19 ⟨Nat.le_of_ble_eq_true rfl, Nat.le_of_ble_eq_true rfl⟩) (fun r f H locs hp hI2 => ?_)
      clear hI
      have hI := hI2
      clear hI2
      obtain ⟨rfl, rfl⟩ := hp
      refine mv_if_eq (tgt := 27) B dX2_lowest_22 (by decide) (by split <;> omega) (fun hc3 => ?_) (fun hc3 => ?_)
      · have hnz : Y b.toNat ≠ 0 := fun q => by rw [if_pos (by have := hz0.mp q; omega)] at hc3; exact absurd hc3 (by decide)
        have ba := hB a.toNat (by omega)
        have bb := hB b.toNat (by omega)
        have b5 := b50
        refine mv_aload_n B dX2_lowest_27 rfl (lv_at hl 0 rfl) ?_
        refine mw_get (C := RX2) (T := TX2) (N := 7) B hI hD.1 uin_X2 rfl 1 (by decide) kw_68 rfl dX2_lowest_28 ?_
        refine mv_aload_n B dX2_lowest_31 rfl (lv_at hl 0 rfl) ?_
        refine mw_get (C := RX2) (T := TX2) (N := 7) B hI hD.1 uin_X2 rfl 0 (by decide) kw_67 rfl dX2_lowest_32 ?_
        refine mv_iload_n B dX2_lowest_35 rfl (lv_at hl 1 rfl) ?_
        obtain ⟨gs, hs1, hs2⟩ := hD.2.1
        refine mw_aald B hI 1 hs1 rfl (a.toNat) (by omega) (by omega) (by decide) (hs2 _ (by omega)) dX2_lowest_36 ?_
        obtain ⟨_, _, _, cc, -, -⟩ := id (hD.rp (i := 16) (by omega))
        refine mw_callv hI hA (va_runV (As := [.ref ((w (a.toNat)))]) (rest := []) B.fix (t_X1_take l D kA H.size f (hD.rp (i := 16) (by omega)).w (hD.rp (i := a.toNat) (by omega)) (Or.inr (hD.ne (i := a.toNat) (j := 16) (by omega) (by omega) (by omega)))) (cwV 1 B.2.2.2.2.1 (gV kw_152 kw_153 kw_154 kw_2 kw_155) rfl rfl rfl (by decide +kernel) ⟨Nat.le_of_ble_eq_true rfl, Nat.le_of_ble_eq_true rfl⟩) ⟨mw_blind st_S.blind, mw_recv B hI cc rfl, mw_pre B hI (hSt.call hI hA)⟩ rfl rfl hl.1 rfl (lv_room (Nat.le_of_ble_eq_true rfl)) dX2_lowest_37 ⟨Nat.le_of_ble_eq_true rfl, Nat.le_of_ble_eq_true rfl⟩) (fun f H locs hp hI2 => ?_)
        clear hI
        have hI := hI2
        clear hI2
        obtain ⟨hR, o1⟩ := hp
        have ho : ∀ k, ¬ dks d sl pa w ra k → f k = f0 k := fun k h => (o1 k (dks_w h (show 16 < 24 by omega)).1 (dks_w h (show 16 < 24 by omega)).2).trans (ho k h)
        obtain ⟨Y1, hY1, hD⟩ : ∃ Z, Z = upI Y (16) (Y (a.toNat)) ∧ DK kA f d sl pa w ra Z := ⟨_, rfl, hD.upd (t := 16) (by omega) hR o1⟩
        have v1 : Y1 (16) = Y (a.toNat) := by rw [hY1, upI_self]
        have r1 : ∀ i, i ≠ 16 → Y1 i = Y i := fun i hi => by rw [hY1, upI_ne _ _ hi]
        have hsl : ∀ i, i < 16 → Y1 i = Y i := fun i hi => (r1 i (by omega)).trans (hsl i hi)
        refine mv_aload_n B dX2_lowest_40 rfl (lv_at hl 0 rfl) ?_
        refine mw_get (C := RX2) (T := TX2) (N := 7) B hI hD.1 uin_X2 rfl 2 (by decide) kw_69 rfl dX2_lowest_41 ?_
        refine mv_aload_n B dX2_lowest_44 rfl (lv_at hl 0 rfl) ?_
        refine mw_get (C := RX2) (T := TX2) (N := 7) B hI hD.1 uin_X2 rfl 0 (by decide) kw_67 rfl dX2_lowest_45 ?_
        refine mv_iload_n B dX2_lowest_48 rfl (lv_at hl 2 rfl) ?_
        obtain ⟨gs, hs1, hs2⟩ := hD.2.1
        refine mw_aald B hI 1 hs1 rfl (b.toNat) (by omega) (by omega) (by decide) (hs2 _ (by omega)) dX2_lowest_49 ?_
        obtain ⟨_, _, _, cc, -, -⟩ := id (hD.rp (i := 17) (by omega))
        refine mw_callv hI hA (va_runV (As := [.ref ((w (b.toNat)))]) (rest := []) B.fix (t_X1_take l D kA H.size f (hD.rp (i := 17) (by omega)).w (hD.rp (i := b.toNat) (by omega)) (Or.inr (hD.ne (i := b.toNat) (j := 17) (by omega) (by omega) (by omega)))) (cwV 1 B.2.2.2.2.1 (gV kw_152 kw_153 kw_154 kw_2 kw_155) rfl rfl rfl (by decide +kernel) ⟨Nat.le_of_ble_eq_true rfl, Nat.le_of_ble_eq_true rfl⟩) ⟨mw_blind st_S.blind, mw_recv B hI cc rfl, mw_pre B hI (hSt.call hI hA)⟩ rfl rfl hl.1 rfl (lv_room (Nat.le_of_ble_eq_true rfl)) dX2_lowest_50 ⟨Nat.le_of_ble_eq_true rfl, Nat.le_of_ble_eq_true rfl⟩) (fun f H locs hp hI2 => ?_)
        clear hI
        have hI := hI2
        clear hI2
        obtain ⟨hR, o1⟩ := hp
        have ho : ∀ k, ¬ dks d sl pa w ra k → f k = f0 k := fun k h => (o1 k (dks_w h (show 17 < 24 by omega)).1 (dks_w h (show 17 < 24 by omega)).2).trans (ho k h)
        obtain ⟨Y2, hY2, hD⟩ : ∃ Z, Z = upI Y1 (17) (Y1 (b.toNat)) ∧ DK kA f d sl pa w ra Z := ⟨_, rfl, hD.upd (t := 17) (by omega) hR o1⟩
        have v2 : Y2 (17) = Y1 (b.toNat) := by rw [hY2, upI_self]
        have r2 : ∀ i, i ≠ 17 → Y2 i = Y1 i := fun i hi => by rw [hY2, upI_ne _ _ hi]
        have hsl : ∀ i, i < 16 → Y2 i = Y i := fun i hi => (r2 i (by omega)).trans (hsl i hi)
        refine mv_aload_n B dX2_lowest_53 rfl (lv_at hl 0 rfl) ?_
        refine mv_iload_n B dX2_lowest_54 rfl (lv_at hl 1 rfl) ?_
        refine mv_iload_n B dX2_lowest_55 rfl (lv_at hl 2 rfl) ?_
        have w1 : Y2 16 = Y a.toNat := by rw [r2 _ (by decide)]; exact v1
        have w2 : Y2 17 = Y b.toNat := by rw [v2]; exact r1 _ (by omega)
        refine mw_calli hI hA (va_runV (As := [.int (iI (a)), .int (iI (b))]) (rest := []) B.fix (t_X2_keepLowest l D kA H.size f hD (fun i hi => by rw [hsl i hi]; exact hB i hi) h1 hab (by rw [w2]; exact hnz) (by rw [w1]; omega) (by rw [w2]; omega)) (cwV 2 B.2.2.2.2.1 (gV kw_286 kw_288 ks_14 kw_1 kw_289) rfl rfl rfl (by decide +kernel) ⟨Nat.le_of_ble_eq_true rfl, Nat.le_of_ble_eq_true rfl⟩) ⟨mw_blind st_S.blind, mw_recv B hI hD.1 rfl, mw_pre B hI (hSt.call hI hA)⟩ rfl rfl hl.1 rfl (lv_room (Nat.le_of_ble_eq_true rfl)) dX2_lowest_56 ⟨Nat.le_of_ble_eq_true rfl, Nat.le_of_ble_eq_true rfl⟩) (fun r f H locs hp hI2 => ?_)
        clear hI
        have hI := hI2
        clear hI2
        obtain ⟨rfl, ⟨Yf, hD, hy⟩, o1⟩ := hp
        have ho : ∀ k, ¬ dks d sl pa w ra k → f k = f0 k := fun k h => (o1 k h).trans (ho k h)
        have e9 : sp_lowest Y a b = kp2 Y a b (Y a.toNat) (Y b.toNat) := by unfold sp_lowest; rw [if_pos ⟨h1.1, h1.2, hab, hnz⟩]
        have e8 := kp2_same (a := a) (b := b) w1 w2 hsl
        exact mw_iret B hQ hrt hI ⟨(congrArg iI e8.1).trans (by rw [e9]), ⟨_, hD, fun i hi => ((hy i hi).trans (e8.2 i hi)).trans (by rw [e9])⟩, ho⟩ dX2_lowest_59
      · have hzz : Y b.toNat = 0 := by
          by_cases q : (n : Int) = 0
          · exact hz0.mpr (by omega)
          · rw [if_neg q] at hc3; exact absurd rfl hc3
        refine mv_iconst B dX2_lowest_25 ?_
        have e9 : sp_lowest Y a b = (-1, Y) := by unfold sp_lowest; rw [if_neg (fun q => q.2.2.2 hzz)]
        exact mw_iret B hQ hrt hI ⟨by rw [e9], ⟨_, hD, fun i hi => (hsl i hi).trans (by rw [e9])⟩, ho⟩ dX2_lowest_26
abbrev rm_X2_fraction : Room := { frames := 5, cells := 0, slots := 0, locals := 131 }
set_option maxHeartbeats 4000000 in
set_option maxRecDepth 100000 in
/-- fraction -/
theorem t_X2_fraction (l : Launch) (D : va_G) (kA : Nat → ClassId) (sz : Nat) (f0 : mw_M) {d sl pa : Nat} {w ra : Nat → Nat} {Y : Nat → Int} {a b c_ e_ : Int} (hD : DK kA f0 d sl pa w ra Y) (hB : ∀ i, i < 16 → ((Y i).natAbs : Int) < 1000000 ^ 50) (ha : -2147483648 ≤ a ∧ a ≤ 2147483647) (hb : -2147483648 ≤ b ∧ b ≤ 2147483647) (hc_ : -2147483648 ≤ c_ ∧ c_ ≤ 2147483647) (he_ : -2147483648 ≤ e_ ∧ e_ ≤ 2147483647) : mw_Mi l yX2_fraction (Cond.code yX2_fraction cX2_fraction 5 ((some .int)) :: gw) rm_X2_fraction D vwCl (tyL kA) st_S [.ref d, .int (iI (a)), .int (iI (b)), .int (iI (c_)), .int (iI (e_))] f0 sz (fun v f => v = iI (sp_fraction Y a b c_ e_).1 ∧ (∃ Y', DK kA f d sl pa w ra Y' ∧ ∀ i, i < 16 → Y' i = (sp_fraction Y a b c_ e_).2 i) ∧ ∀ k, ¬ dks d sl pa w ra k → f k = f0 k) 0 0 := by
  refine mw_ofi (cc := cX2_fraction) (maxL := 5) (ret := (some .int)) (by decide) rfl (Nat.le_of_ble_eq_true rfl) ?_
  intro p e s m below meth c A ls Q hQ B hrt hnm hA hI hSt hl
  have hl : lv_has ls 5 [(0, .ref d), (1, .int (iI (a))), (2, .int (iI (b))), (3, .int (iI (c_))), (4, .int (iI (e_)))] := hl
  obtain ⟨f, hI, hf⟩ : ∃ f, mw_I D vwCl A s s.heap [] f ∧ f = f0 := ⟨f0, hI, rfl⟩
  rw [← hf] at hD
  have ho : ∀ k, ¬ dks d sl pa w ra k → f k = f0 k := fun k _ => by rw [hf]
  have hsl : ∀ i, i < 16 → Y i = Y i := fun _ _ => rfl
  refine mv_aload_n B dX2_fraction_0 rfl (lv_at hl 0 rfl) ?_
  refine mv_iload_n B dX2_fraction_1 rfl (lv_at hl 1 rfl) ?_
  refine mv_iload_n B dX2_fraction_2 rfl (lv_at hl 2 rfl) ?_
  refine mv_iload_n B dX2_fraction_3 rfl (lv_at hl 3 rfl) ?_
  refine mv_iload B dX2_fraction_4 (lv_at hl 4 rfl) ?_
  refine mw_calli hI hA (va_runV (As := [.int (iI (a)), .int (iI (b)), .int (iI (c_)), .int (iI (e_))]) (rest := []) B.fix (t_X2_areFractions l D kA s.heap.size f hD hB ha hb hc_ he_) (cwV 4 B.2.2.2.2.1 (gV kw_298 kw_300 ks_15 kw_1 kw_301) rfl rfl rfl (by decide +kernel) ⟨Nat.le_of_ble_eq_true rfl, Nat.le_of_ble_eq_true rfl⟩) ⟨mw_blind st_S.blind, mw_recv B hI hD.1 rfl, mw_pre B hI (hSt.call hI hA)⟩ rfl rfl hl.1 rfl (lv_room (Nat.le_of_ble_eq_true rfl)) dX2_fraction_6 ⟨Nat.le_of_ble_eq_true rfl, Nat.le_of_ble_eq_true rfl⟩) (fun r f H locs hp hI2 => ?_)
  clear hI
  have hI := hI2
  clear hI2
  obtain ⟨rfl, rfl⟩ := hp
  refine mv_if_eq (tgt := 17) B dX2_fraction_9 (by decide) (by split <;> omega) (fun hc => ?_) (fun hc => ?_)
  · have h0 : ¬ (sOk a ∧ sOk b ∧ sOk c_ ∧ sOk e_ ∧ Y b.toNat ≠ 0 ∧ Y e_.toNat ≠ 0) := fun q => by rw [if_pos q] at hc; exact absurd hc (by decide)
    refine mv_iconst B dX2_fraction_17 ?_
    have e9 : sp_fraction Y a b c_ e_ = (-1, Y) := by unfold sp_fraction; rw [if_neg (fun q => h0 ⟨q.1, q.2.1, q.2.2.1, q.2.2.2.1, q.2.2.2.2.2.1, q.2.2.2.2.2.2⟩)]
    exact mw_iret B hQ hrt hI ⟨by rw [e9], ⟨_, hD, fun i hi => (hsl i hi).trans (by rw [e9])⟩, ho⟩ dX2_fraction_18
  · have h0 : sOk a ∧ sOk b ∧ sOk c_ ∧ sOk e_ ∧ Y b.toNat ≠ 0 ∧ Y e_.toNat ≠ 0 := by
      by_cases q : sOk a ∧ sOk b ∧ sOk c_ ∧ sOk e_ ∧ Y b.toNat ≠ 0 ∧ Y e_.toNat ≠ 0
      · exact q
      · rw [if_neg q] at hc; exact absurd rfl hc
    have h1 : sOk a ∧ sOk b := ⟨h0.1, h0.2.1⟩
    refine mv_iload_n B dX2_fraction_12 rfl (lv_at hl 1 rfl) ?_
    refine mv_iload_n B dX2_fraction_13 rfl (lv_at hl 2 rfl) ?_
    refine mv_icmp_ne (tgt := 19) B dX2_fraction_14 (by decide) (by omega) (fun hc2 => ?_) (fun hc2 => ?_)
    · have hab : a ≠ b := hc2
      have ba := hB a.toNat (by omega)
      have bb := hB b.toNat (by omega)
      have bc := hB c_.toNat (by omega)
      have be := hB e_.toNat (by omega)
      have bs := b100
      refine mv_aload_n B dX2_fraction_19 rfl (lv_at hl 0 rfl) ?_
      refine mw_get (C := RX2) (T := TX2) (N := 7) B hI hD.1 uin_X2 rfl 3 (by decide) kw_70 rfl dX2_fraction_20 ?_
      refine mv_aload_n B dX2_fraction_23 rfl (lv_at hl 0 rfl) ?_
      refine mw_get (C := RX2) (T := TX2) (N := 7) B hI hD.1 uin_X2 rfl 0 (by decide) kw_67 rfl dX2_fraction_24 ?_
      refine mv_iload_n B dX2_fraction_27 rfl (lv_at hl 1 rfl) ?_
      obtain ⟨gs, hs1, hs2⟩ := hD.2.1
      refine mw_aald B hI 1 hs1 rfl (a.toNat) (by omega) (by omega) (by decide) (hs2 _ (by omega)) dX2_fraction_28 ?_
      refine mv_aload_n B dX2_fraction_29 rfl (lv_at hl 0 rfl) ?_
      refine mw_get (C := RX2) (T := TX2) (N := 7) B hI hD.1 uin_X2 rfl 0 (by decide) kw_67 rfl dX2_fraction_30 ?_
      refine mv_iload B dX2_fraction_33 (lv_at hl 4 rfl) ?_
      obtain ⟨gs, hs1, hs2⟩ := hD.2.1
      refine mw_aald B hI 1 hs1 rfl (e_.toNat) (by omega) (by omega) (by decide) (hs2 _ (by omega)) dX2_fraction_35 ?_
      obtain ⟨_, _, _, cc, -, -⟩ := id (hD.rp (i := 18) (by omega))
      refine mw_callv hI hA (va_runV (As := [.ref ((w (a.toNat))), .ref ((w (e_.toNat)))]) (rest := []) B.fix (t_X1_takeProduct l D kA H.size f (hD.rp (i := 18) (by omega)).w (hD.rp (i := a.toNat) (by omega)) (hD.rp (i := e_.toNat) (by omega)) (hD.ne (i := a.toNat) (j := 18) (by omega) (by omega) (by omega)).1 (hD.ne (i := a.toNat) (j := 18) (by omega) (by omega) (by omega)).2 (hD.ne (i := e_.toNat) (j := 18) (by omega) (by omega) (by omega)).1 (hD.ne (i := e_.toNat) (j := 18) (by omega) (by omega) (by omega)).2 (by rw [hsl _ (by omega)]; exact hB _ (by omega)) (by rw [hsl _ (by omega)]; exact hB _ (by omega))) (cwV 2 B.2.2.2.2.1 (gV kw_113 kw_114 kw_115 kw_2 kw_116) rfl rfl rfl (by decide +kernel) ⟨Nat.le_of_ble_eq_true rfl, Nat.le_of_ble_eq_true rfl⟩) ⟨mw_blind st_S.blind, mw_recv B hI cc rfl, mw_pre B hI (hSt.call hI hA)⟩ rfl rfl hl.1 rfl (lv_room (Nat.le_of_ble_eq_true rfl)) dX2_fraction_36 ⟨Nat.le_of_ble_eq_true rfl, Nat.le_of_ble_eq_true rfl⟩) (fun f H locs hp hI2 => ?_)
      clear hI
      have hI := hI2
      clear hI2
      obtain ⟨hR, o1⟩ := hp
      have ho : ∀ k, ¬ dks d sl pa w ra k → f k = f0 k := fun k h => (o1 k (dks_w h (show 18 < 24 by omega)).1 (dks_w h (show 18 < 24 by omega)).2).trans (ho k h)
      obtain ⟨Y1, hY1, hD⟩ : ∃ Z, Z = upI Y (18) (Y (a.toNat) * Y (e_.toNat)) ∧ DK kA f d sl pa w ra Z := ⟨_, rfl, hD.upd (t := 18) (by omega) hR o1⟩
      have v1 : Y1 (18) = Y (a.toNat) * Y (e_.toNat) := by rw [hY1, upI_self]
      have r1 : ∀ i, i ≠ 18 → Y1 i = Y i := fun i hi => by rw [hY1, upI_ne _ _ hi]
      have hsl : ∀ i, i < 16 → Y1 i = Y i := fun i hi => (r1 i (by omega)).trans (hsl i hi)
      refine mv_aload_n B dX2_fraction_39 rfl (lv_at hl 0 rfl) ?_
      refine mw_get (C := RX2) (T := TX2) (N := 7) B hI hD.1 uin_X2 rfl 4 (by decide) kw_71 rfl dX2_fraction_40 ?_
      refine mv_aload_n B dX2_fraction_43 rfl (lv_at hl 0 rfl) ?_
      refine mw_get (C := RX2) (T := TX2) (N := 7) B hI hD.1 uin_X2 rfl 0 (by decide) kw_67 rfl dX2_fraction_44 ?_
      refine mv_iload_n B dX2_fraction_47 rfl (lv_at hl 3 rfl) ?_
      obtain ⟨gs, hs1, hs2⟩ := hD.2.1
      refine mw_aald B hI 1 hs1 rfl (c_.toNat) (by omega) (by omega) (by decide) (hs2 _ (by omega)) dX2_fraction_48 ?_
      refine mv_aload_n B dX2_fraction_49 rfl (lv_at hl 0 rfl) ?_
      refine mw_get (C := RX2) (T := TX2) (N := 7) B hI hD.1 uin_X2 rfl 0 (by decide) kw_67 rfl dX2_fraction_50 ?_
      refine mv_iload_n B dX2_fraction_53 rfl (lv_at hl 2 rfl) ?_
      obtain ⟨gs, hs1, hs2⟩ := hD.2.1
      refine mw_aald B hI 1 hs1 rfl (b.toNat) (by omega) (by omega) (by decide) (hs2 _ (by omega)) dX2_fraction_54 ?_
      obtain ⟨_, _, _, cc, -, -⟩ := id (hD.rp (i := 19) (by omega))
      refine mw_callv hI hA (va_runV (As := [.ref ((w (c_.toNat))), .ref ((w (b.toNat)))]) (rest := []) B.fix (t_X1_takeProduct l D kA H.size f (hD.rp (i := 19) (by omega)).w (hD.rp (i := c_.toNat) (by omega)) (hD.rp (i := b.toNat) (by omega)) (hD.ne (i := c_.toNat) (j := 19) (by omega) (by omega) (by omega)).1 (hD.ne (i := c_.toNat) (j := 19) (by omega) (by omega) (by omega)).2 (hD.ne (i := b.toNat) (j := 19) (by omega) (by omega) (by omega)).1 (hD.ne (i := b.toNat) (j := 19) (by omega) (by omega) (by omega)).2 (by rw [hsl _ (by omega)]; exact hB _ (by omega)) (by rw [hsl _ (by omega)]; exact hB _ (by omega))) (cwV 2 B.2.2.2.2.1 (gV kw_113 kw_114 kw_115 kw_2 kw_116) rfl rfl rfl (by decide +kernel) ⟨Nat.le_of_ble_eq_true rfl, Nat.le_of_ble_eq_true rfl⟩) ⟨mw_blind st_S.blind, mw_recv B hI cc rfl, mw_pre B hI (hSt.call hI hA)⟩ rfl rfl hl.1 rfl (lv_room (Nat.le_of_ble_eq_true rfl)) dX2_fraction_55 ⟨Nat.le_of_ble_eq_true rfl, Nat.le_of_ble_eq_true rfl⟩) (fun f H locs hp hI2 => ?_)
      clear hI
      have hI := hI2
      clear hI2
      obtain ⟨hR, o1⟩ := hp
      have ho : ∀ k, ¬ dks d sl pa w ra k → f k = f0 k := fun k h => (o1 k (dks_w h (show 19 < 24 by omega)).1 (dks_w h (show 19 < 24 by omega)).2).trans (ho k h)
      obtain ⟨Y2, hY2, hD⟩ : ∃ Z, Z = upI Y1 (19) (Y1 (c_.toNat) * Y1 (b.toNat)) ∧ DK kA f d sl pa w ra Z := ⟨_, rfl, hD.upd (t := 19) (by omega) hR o1⟩
      have v2 : Y2 (19) = Y1 (c_.toNat) * Y1 (b.toNat) := by rw [hY2, upI_self]
      have r2 : ∀ i, i ≠ 19 → Y2 i = Y1 i := fun i hi => by rw [hY2, upI_ne _ _ hi]
      have hsl : ∀ i, i < 16 → Y2 i = Y i := fun i hi => (r2 i (by omega)).trans (hsl i hi)
      have w18 : Y2 18 = Y a.toNat * Y e_.toNat := by rw [r2 18 (by decide), v1]
      have w19 : Y2 19 = Y c_.toNat * Y b.toNat := by rw [v2, r1 _ (by omega), r1 _ (by omega)]
      have m18 := mulbd ba be
      have m19 := mulbd bc bb
      rw [← w18] at m18
      rw [← w19] at m19
      refine mv_aload_n B dX2_fraction_58 rfl (lv_at hl 0 rfl) ?_
      refine mw_get (C := RX2) (T := TX2) (N := 7) B hI hD.1 uin_X2 rfl 1 (by decide) kw_68 rfl dX2_fraction_59 ?_
      refine mv_aload_n B dX2_fraction_62 rfl (lv_at hl 0 rfl) ?_
      refine mw_get (C := RX2) (T := TX2) (N := 7) B hI hD.1 uin_X2 rfl 3 (by decide) kw_70 rfl dX2_fraction_63 ?_
      refine mv_aload_n B dX2_fraction_66 rfl (lv_at hl 0 rfl) ?_
      refine mw_get (C := RX2) (T := TX2) (N := 7) B hI hD.1 uin_X2 rfl 4 (by decide) kw_71 rfl dX2_fraction_67 ?_
      refine mv_iconst B dX2_fraction_70 ?_
      obtain ⟨_, _, _, cc, -, -⟩ := id (hD.rp (i := 16) (by omega))
      refine mw_callv hI hA (va_runV (As := [.ref ((w 18)), .ref ((w 19)), .int (iI (0))]) (rest := []) B.fix (t_X1_takeSum l D kA H.size f (hD.rp (i := 16) (by omega)).w (hD.rp (i := 18) (by omega)) (hD.rp (i := 19) (by omega)) (hD.ne (i := 18) (j := 16) (by omega) (by omega) (by omega)).1 (hD.ne (i := 18) (j := 16) (by omega) (by omega) (by omega)).2 (hD.ne (i := 19) (j := 16) (by omega) (by omega) (by omega)).1 (hD.ne (i := 19) (j := 16) (by omega) (by omega) (by omega)).2 (by omega) (by omega) (by omega)) (cwV 3 B.2.2.2.2.1 (gV kw_123 kw_124 kw_125 kw_2 kw_126) rfl rfl rfl (by decide +kernel) ⟨Nat.le_of_ble_eq_true rfl, Nat.le_of_ble_eq_true rfl⟩) ⟨mw_blind st_S.blind, mw_recv B hI cc rfl, mw_pre B hI (hSt.call hI hA)⟩ rfl rfl hl.1 rfl (lv_room (Nat.le_of_ble_eq_true rfl)) dX2_fraction_71 ⟨Nat.le_of_ble_eq_true rfl, Nat.le_of_ble_eq_true rfl⟩) (fun f H locs hp hI2 => ?_)
      clear hI
      have hI := hI2
      clear hI2
      obtain ⟨hR, o1⟩ := hp
      have ho : ∀ k, ¬ dks d sl pa w ra k → f k = f0 k := fun k h => (o1 k (dks_w h (show 16 < 24 by omega)).1 (dks_w h (show 16 < 24 by omega)).2).trans (ho k h)
      obtain ⟨Y3, hY3, hD⟩ : ∃ Z, Z = upI Y2 (16) (if (0 : Int) = 0 then Y2 (18) + Y2 (19) else Y2 (18) - Y2 (19)) ∧ DK kA f d sl pa w ra Z := ⟨_, rfl, hD.upd (t := 16) (by omega) hR o1⟩
      have v3 : Y3 (16) = if (0 : Int) = 0 then Y2 (18) + Y2 (19) else Y2 (18) - Y2 (19) := by rw [hY3, upI_self]
      have r3 : ∀ i, i ≠ 16 → Y3 i = Y2 i := fun i hi => by rw [hY3, upI_ne _ _ hi]
      have hsl : ∀ i, i < 16 → Y3 i = Y i := fun i hi => (r3 i (by omega)).trans (hsl i hi)
      rw [if_pos rfl] at v3
      refine mv_aload_n B dX2_fraction_74 rfl (lv_at hl 0 rfl) ?_
      refine mw_get (C := RX2) (T := TX2) (N := 7) B hI hD.1 uin_X2 rfl 2 (by decide) kw_69 rfl dX2_fraction_75 ?_
      refine mv_aload_n B dX2_fraction_78 rfl (lv_at hl 0 rfl) ?_
      refine mw_get (C := RX2) (T := TX2) (N := 7) B hI hD.1 uin_X2 rfl 0 (by decide) kw_67 rfl dX2_fraction_79 ?_
      refine mv_iload_n B dX2_fraction_82 rfl (lv_at hl 2 rfl) ?_
      obtain ⟨gs, hs1, hs2⟩ := hD.2.1
      refine mw_aald B hI 1 hs1 rfl (b.toNat) (by omega) (by omega) (by decide) (hs2 _ (by omega)) dX2_fraction_83 ?_
      refine mv_aload_n B dX2_fraction_84 rfl (lv_at hl 0 rfl) ?_
      refine mw_get (C := RX2) (T := TX2) (N := 7) B hI hD.1 uin_X2 rfl 0 (by decide) kw_67 rfl dX2_fraction_85 ?_
      refine mv_iload B dX2_fraction_88 (lv_at hl 4 rfl) ?_
      obtain ⟨gs, hs1, hs2⟩ := hD.2.1
      refine mw_aald B hI 1 hs1 rfl (e_.toNat) (by omega) (by omega) (by decide) (hs2 _ (by omega)) dX2_fraction_90 ?_
      have s3b : Y3 b.toNat = Y b.toNat := hsl _ (by omega)
      have s3e : Y3 e_.toNat = Y e_.toNat := hsl _ (by omega)
      obtain ⟨_, _, _, cc, -, -⟩ := id (hD.rp (i := 17) (by omega))
      refine mw_callv hI hA (va_runV (As := [.ref ((w (b.toNat))), .ref ((w (e_.toNat)))]) (rest := []) B.fix (t_X1_takeProduct l D kA H.size f (hD.rp (i := 17) (by omega)).w (hD.rp (i := b.toNat) (by omega)) (hD.rp (i := e_.toNat) (by omega)) (hD.ne (i := b.toNat) (j := 17) (by omega) (by omega) (by omega)).1 (hD.ne (i := b.toNat) (j := 17) (by omega) (by omega) (by omega)).2 (hD.ne (i := e_.toNat) (j := 17) (by omega) (by omega) (by omega)).1 (hD.ne (i := e_.toNat) (j := 17) (by omega) (by omega) (by omega)).2 (by rw [hsl _ (by omega)]; exact hB _ (by omega)) (by rw [hsl _ (by omega)]; exact hB _ (by omega))) (cwV 2 B.2.2.2.2.1 (gV kw_113 kw_114 kw_115 kw_2 kw_116) rfl rfl rfl (by decide +kernel) ⟨Nat.le_of_ble_eq_true rfl, Nat.le_of_ble_eq_true rfl⟩) ⟨mw_blind st_S.blind, mw_recv B hI cc rfl, mw_pre B hI (hSt.call hI hA)⟩ rfl rfl hl.1 rfl (lv_room (Nat.le_of_ble_eq_true rfl)) dX2_fraction_91 ⟨Nat.le_of_ble_eq_true rfl, Nat.le_of_ble_eq_true rfl⟩) (fun f H locs hp hI2 => ?_)
      clear hI
      have hI := hI2
      clear hI2
      obtain ⟨hR, o1⟩ := hp
      have ho : ∀ k, ¬ dks d sl pa w ra k → f k = f0 k := fun k h => (o1 k (dks_w h (show 17 < 24 by omega)).1 (dks_w h (show 17 < 24 by omega)).2).trans (ho k h)
      obtain ⟨Y4, hY4, hD⟩ : ∃ Z, Z = upI Y3 (17) (Y3 (b.toNat) * Y3 (e_.toNat)) ∧ DK kA f d sl pa w ra Z := ⟨_, rfl, hD.upd (t := 17) (by omega) hR o1⟩
      have v4 : Y4 (17) = Y3 (b.toNat) * Y3 (e_.toNat) := by rw [hY4, upI_self]
      have r4 : ∀ i, i ≠ 17 → Y4 i = Y3 i := fun i hi => by rw [hY4, upI_ne _ _ hi]
      have hsl : ∀ i, i < 16 → Y4 i = Y i := fun i hi => (r4 i (by omega)).trans (hsl i hi)
      refine mv_aload_n B dX2_fraction_94 rfl (lv_at hl 0 rfl) ?_
      refine mv_iload_n B dX2_fraction_95 rfl (lv_at hl 1 rfl) ?_
      refine mv_iload_n B dX2_fraction_96 rfl (lv_at hl 2 rfl) ?_
      have w1 : Y4 16 = Y a.toNat * Y e_.toNat + Y c_.toNat * Y b.toNat := by rw [r4 _ (by decide), v3, w18, w19]
      have w2 : Y4 17 = Y b.toNat * Y e_.toNat := by rw [v4, s3b, s3e]
      have m17 := mulbd bb be
      have ab3 := (absadd (Y2 18) (Y2 19)).1
      have w1b : Y4 16 = Y2 18 + Y2 19 := by rw [r4 _ (by decide), v3]
      refine mw_calli hI hA (va_runV (As := [.int (iI (a)), .int (iI (b))]) (rest := []) B.fix (t_X2_keepLowest l D kA H.size f hD (fun i hi => by rw [hsl i hi]; exact hB i hi) h1 hab (by rw [w2]; exact Int.mul_ne_zero h0.2.2.2.2.1 h0.2.2.2.2.2) (by rw [w1b]; omega) (by rw [w2]; omega)) (cwV 2 B.2.2.2.2.1 (gV kw_286 kw_288 ks_14 kw_1 kw_289) rfl rfl rfl (by decide +kernel) ⟨Nat.le_of_ble_eq_true rfl, Nat.le_of_ble_eq_true rfl⟩) ⟨mw_blind st_S.blind, mw_recv B hI hD.1 rfl, mw_pre B hI (hSt.call hI hA)⟩ rfl rfl hl.1 rfl (lv_room (Nat.le_of_ble_eq_true rfl)) dX2_fraction_97 ⟨Nat.le_of_ble_eq_true rfl, Nat.le_of_ble_eq_true rfl⟩) (fun r f H locs hp hI2 => ?_)
      clear hI
      have hI := hI2
      clear hI2
      obtain ⟨rfl, ⟨Yf, hD, hy⟩, o1⟩ := hp
      have ho : ∀ k, ¬ dks d sl pa w ra k → f k = f0 k := fun k h => (o1 k h).trans (ho k h)
      have e9 : sp_fraction Y a b c_ e_ = kp2 Y a b (Y a.toNat * Y e_.toNat + Y c_.toNat * Y b.toNat) (Y b.toNat * Y e_.toNat) := by unfold sp_fraction; rw [if_pos ⟨h0.1, h0.2.1, h0.2.2.1, h0.2.2.2.1, hab, h0.2.2.2.2.1, h0.2.2.2.2.2⟩]
      have e8 := kp2_same (a := a) (b := b) w1 w2 hsl
      exact mw_iret B hQ hrt hI ⟨(congrArg iI e8.1).trans (by rw [e9]), ⟨_, hD, fun i hi => ((hy i hi).trans (e8.2 i hi)).trans (by rw [e9])⟩, ho⟩ dX2_fraction_100
    · refine mv_iconst B dX2_fraction_17 ?_
      have e9 : sp_fraction Y a b c_ e_ = (-1, Y) := by unfold sp_fraction; rw [if_neg (fun q => q.2.2.2.2.1 hc2)]
      exact mw_iret B hQ hrt hI ⟨by rw [e9], ⟨_, hD, fun i hi => (hsl i hi).trans (by rw [e9])⟩, ho⟩ dX2_fraction_18
