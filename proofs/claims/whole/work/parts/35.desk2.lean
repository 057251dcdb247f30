abbrev rm_X2_product : Room := { frames := 3, cells := 0, slots := 0, locals := 83 }
set_option maxHeartbeats 4000000 in
set_option maxRecDepth 100000 in
/-- product -/
theorem t_X2_product (l : Launch) (D : va_G) (kA : Nat → ClassId) (sz : Nat) (f0 : mw_M) {d sl pa : Nat} {w ra : Nat → Nat} {Y : Nat → Int} {a b t : Int} (hD : DK kA f0 d sl pa w ra Y) (hB : ∀ i, i < 16 → ((Y i).natAbs : Int) < 1000000 ^ 50) (ha : -2147483648 ≤ a ∧ a ≤ 2147483647) (hb : -2147483648 ≤ b ∧ b ≤ 2147483647) (ht : -2147483648 ≤ t ∧ t ≤ 2147483647) : mw_Mi l yX2_product (Cond.code yX2_product cX2_product 4 ((some .int)) :: gw) rm_X2_product D vwCl (tyL kA) st_S [.ref d, .int (iI (a)), .int (iI (b)), .int (iI (t))] f0 sz (fun v f => v = iI (sp_product Y a b t).1 ∧ (∃ Y', DK kA f d sl pa w ra Y' ∧ ∀ i, i < 16 → Y' i = (sp_product Y a b t).2 i) ∧ ∀ k, ¬ dks d sl pa w ra k → f k = f0 k) 0 0 := by
  refine mw_ofi (cc := cX2_product) (maxL := 4) (ret := (some .int)) (by decide) rfl (Nat.le_of_ble_eq_true rfl) ?_
  intro p e s m below meth c A ls Q hQ B hrt hnm hA hI hSt hl
  have hl : lv_has ls 4 [(0, .ref d), (1, .int (iI (a))), (2, .int (iI (b))), (3, .int (iI (t)))] := hl
  obtain ⟨f, hI, hf⟩ : ∃ f, mw_I D vwCl A s s.heap [] f ∧ f = f0 := ⟨f0, hI, rfl⟩
  rw [← hf] at hD
  have ho : ∀ k, ¬ dks d sl pa w ra k → f k = f0 k := fun k _ => by rw [hf]
  have hsl : ∀ i, i < 16 → Y i = Y i := fun _ _ => rfl
  refine mv_iload_n B dX2_product_0 rfl (lv_at hl 1 rfl) ?_
  refine mv_iload_n B dX2_product_1 rfl (lv_at hl 2 rfl) ?_
  refine mw_calli hI hA (va_runS (As := [.int (iI (a)), .int (iI (b))]) (rest := []) B.fix (t_X2_areSlots l D kA s.heap.size f ha hb) (cwS 2 B.2.2.2.2.1 (gS kw_163 kw_164 kw_1 kw_165) rfl rfl rfl (by decide +kernel) ⟨Nat.le_of_ble_eq_true rfl, Nat.le_of_ble_eq_true rfl⟩) ⟨mw_blind st_S.blind, mw_pre B hI (hSt.call hI hA)⟩ rfl rfl hl.1 rfl (lv_room (Nat.le_of_ble_eq_true rfl)) dX2_product_2 ⟨Nat.le_of_ble_eq_true rfl, Nat.le_of_ble_eq_true rfl⟩) (fun r f H locs hp hI2 => ?_)
  clear hI
  have hI := hI2
  clear hI2
  obtain ⟨rfl, rfl⟩ := hp
  refine mv_if_eq (tgt := 15) B dX2_product_5 (by decide) (by split <;> omega) (fun hc => ?_) (fun hc => ?_)
  · have h1 : ¬ (sOk a ∧ sOk b) := fun q => by rw [if_pos q] at hc; exact absurd hc (by decide)
    refine mv_iconst B dX2_product_15 ?_
    have e9 : sp_product Y a b t = (-1, Y) := by unfold sp_product; rw [if_neg (fun q => h1 ⟨q.1, q.2.1⟩)]
    exact mw_iret B hQ hrt hI ⟨by rw [e9], ⟨_, hD, fun i hi => (hsl i hi).trans (by rw [e9])⟩, ho⟩ dX2_product_16
  · have h1 : sOk a ∧ sOk b := by
      by_cases q : sOk a ∧ sOk b
      · exact q
      · rw [if_neg q] at hc; exact absurd rfl hc
    refine mv_iload_n B dX2_product_8 rfl (lv_at hl 3 rfl) ?_
    refine mw_calli hI hA (va_runS (As := [.int (iI (t))]) (rest := []) B.fix (t_X2_isSlot l D kA H.size f ht) (cwS 1 B.2.2.2.2.1 (gS kw_93 kw_94 kw_1 kw_95) rfl rfl rfl (by decide +kernel) ⟨Nat.le_of_ble_eq_true rfl, Nat.le_of_ble_eq_true rfl⟩) ⟨mw_blind st_S.blind, mw_pre B hI (hSt.call hI hA)⟩ rfl rfl hl.1 rfl (lv_room (Nat.le_of_ble_eq_true rfl)) dX2_product_9 ⟨Nat.le_of_ble_eq_true rfl, Nat.le_of_ble_eq_true rfl⟩) (fun r f H locs hp hI2 => ?_)
    clear hI
    have hI := hI2
    clear hI2
    obtain ⟨rfl, rfl⟩ := hp
    refine mv_if_ne (tgt := 17) B dX2_product_12 (by decide) (by split <;> omega) (fun hc2 => ?_) (fun hc2 => ?_)
    · have h2 : sOk t := by
        by_cases q : sOk t
        · exact q
        · rw [if_neg q] at hc2; exact absurd rfl hc2
      refine mv_aload_n B dX2_product_17 rfl (lv_at hl 0 rfl) ?_
      refine mw_get (C := RX2) (T := TX2) (N := 7) B hI hD.1 uin_X2 rfl 1 (by decide) kw_68 rfl dX2_product_18 ?_
      refine mv_aload_n B dX2_product_21 rfl (lv_at hl 0 rfl) ?_
      refine mw_get (C := RX2) (T := TX2) (N := 7) B hI hD.1 uin_X2 rfl 0 (by decide) kw_67 rfl dX2_product_22 ?_
      refine mv_iload_n B dX2_product_25 rfl (lv_at hl 1 rfl) ?_
      obtain ⟨gs, hs1, hs2⟩ := hD.2.1
      refine mw_aald B hI 1 hs1 rfl (a.toNat) (by omega) (by omega) (by decide) (hs2 _ (by omega)) dX2_product_26 ?_
      refine mv_aload_n B dX2_product_27 rfl (lv_at hl 0 rfl) ?_
      refine mw_get (C := RX2) (T := TX2) (N := 7) B hI hD.1 uin_X2 rfl 0 (by decide) kw_67 rfl dX2_product_28 ?_
      refine mv_iload_n B dX2_product_31 rfl (lv_at hl 2 rfl) ?_
      obtain ⟨gs, hs1, hs2⟩ := hD.2.1
      refine mw_aald B hI 1 hs1 rfl (b.toNat) (by omega) (by omega) (by decide) (hs2 _ (by omega)) dX2_product_32 ?_
      obtain ⟨_, _, _, cc, -, -⟩ := id (hD.rp (i := 16) (by omega))
      refine mw_callv hI hA (va_runV (As := [.ref ((w (a.toNat))), .ref ((w (b.toNat)))]) (rest := []) B.fix (t_X1_takeProduct l D kA H.size f (hD.rp (i := 16) (by omega)).w (hD.rp (i := a.toNat) (by omega)) (hD.rp (i := b.toNat) (by omega)) (hD.ne (i := a.toNat) (j := 16) (by omega) (by omega) (by omega)).1 (hD.ne (i := a.toNat) (j := 16) (by omega) (by omega) (by omega)).2 (hD.ne (i := b.toNat) (j := 16) (by omega) (by omega) (by omega)).1 (hD.ne (i := b.toNat) (j := 16) (by omega) (by omega) (by omega)).2 (by rw [hsl _ (by omega)]; exact hB _ (by omega)) (by rw [hsl _ (by omega)]; exact hB _ (by omega))) (cwV 2 B.2.2.2.2.1 (gV kw_113 kw_114 kw_115 kw_2 kw_116) rfl rfl rfl (by decide +kernel) ⟨Nat.le_of_ble_eq_true rfl, Nat.le_of_ble_eq_true rfl⟩) ⟨mw_blind st_S.blind, mw_recv B hI cc rfl, mw_pre B hI (hSt.call hI hA)⟩ rfl rfl hl.1 rfl (lv_room (Nat.le_of_ble_eq_true rfl)) dX2_product_33 ⟨Nat.le_of_ble_eq_true rfl, Nat.le_of_ble_eq_true rfl⟩) (fun f H locs hp hI2 => ?_)
      clear hI
      have hI := hI2
      clear hI2
      obtain ⟨hR, o1⟩ := hp
      have ho : ∀ k, ¬ dks d sl pa w ra k → f k = f0 k := fun k h => (o1 k (dks_w h (show 16 < 24 by omega)).1 (dks_w h (show 16 < 24 by omega)).2).trans (ho k h)
      obtain ⟨Y1, hY1, hD⟩ : ∃ Z, Z = upI Y (16) (Y (a.toNat) * Y (b.toNat)) ∧ DK kA f d sl pa w ra Z := ⟨_, rfl, hD.upd (t := 16) (by omega) hR o1⟩
      have v1 : Y1 (16) = Y (a.toNat) * Y (b.toNat) := by rw [hY1, upI_self]
      have r1 : ∀ i, i ≠ 16 → Y1 i = Y i := fun i hi => by rw [hY1, upI_ne _ _ hi]
      have hsl : ∀ i, i < 16 → Y1 i = Y i := fun i hi => (r1 i (by omega)).trans (hsl i hi)
      refine mv_aload_n B dX2_product_36 rfl (lv_at hl 0 rfl) ?_
      refine mv_aload_n B dX2_product_37 rfl (lv_at hl 0 rfl) ?_
      refine mw_get (C := RX2) (T := TX2) (N := 7) B hI hD.1 uin_X2 rfl 1 (by decide) kw_68 rfl dX2_product_38 ?_
      refine mv_iload_n B dX2_product_41 rfl (lv_at hl 3 rfl) ?_
      refine mw_calli hI hA (va_runV (As := [.ref ((w 16)), .int (iI (t))]) (rest := []) B.fix (t_X2_keep l D kA H.size f (t := 16) hD (fun i hi => by rw [hsl i hi]; exact hB i hi) (by omega) h2) (cwV 2 B.2.2.2.2.1 (gV kw_144 kw_146 ks_2 kw_1 kw_147) rfl rfl rfl (by decide +kernel) ⟨Nat.le_of_ble_eq_true rfl, Nat.le_of_ble_eq_true rfl⟩) ⟨mw_blind st_S.blind, mw_recv B hI hD.1 rfl, mw_pre B hI (hSt.call hI hA)⟩ rfl rfl hl.1 rfl (lv_room (Nat.le_of_ble_eq_true rfl)) dX2_product_42 ⟨Nat.le_of_ble_eq_true rfl, Nat.le_of_ble_eq_true rfl⟩) (fun r f H locs hp hI2 => ?_)
      clear hI
      have hI := hI2
      clear hI2
      obtain ⟨rfl, hD, o1⟩ := hp
      have ho : ∀ k, ¬ dks d sl pa w ra k → f k = f0 k := fun k h => (o1 k h).trans (ho k h)
      have e9 : sp_product Y a b t = kp Y (t) (Y a.toNat * Y b.toNat) := by unfold sp_product; rw [if_pos ⟨h1.1, h1.2, h2⟩]
      have e7 : Y1 (16) = Y a.toNat * Y b.toNat := by rw [v1]
      have e8 := kp_same (x := t) e7 hsl
      exact mw_iret B hQ hrt hI ⟨(congrArg iI e8.1).trans (by rw [e9]), ⟨_, hD, fun i hi => (e8.2 i hi).trans (by rw [e9])⟩, ho⟩ dX2_product_45
    · have h2 : ¬ (sOk t) := fun q => by rw [if_pos q] at hc2; exact absurd hc2 (by decide)
      refine mv_iconst B dX2_product_15 ?_
      have e9 : sp_product Y a b t = (-1, Y) := by unfold sp_product; rw [if_neg (fun q => h2 q.2.2)]
      exact mw_iret B hQ hrt hI ⟨by rw [e9], ⟨_, hD, fun i hi => (hsl i hi).trans (by rw [e9])⟩, ho⟩ dX2_product_16
abbrev rm_X2_addOrTakeAway : Room := { frames := 3, cells := 0, slots := 0, locals := 83 }
set_option maxHeartbeats 4000000 in
set_option maxRecDepth 100000 in
/-- addOrTakeAway -/
theorem t_X2_addOrTakeAway (l : Launch) (D : va_G) (kA : Nat → ClassId) (sz : Nat) (f0 : mw_M) {d sl pa : Nat} {w ra : Nat → Nat} {Y : Nat → Int} {a b t aw : Int} (hD : DK kA f0 d sl pa w ra Y) (hB : ∀ i, i < 16 → ((Y i).natAbs : Int) < 1000000 ^ 50) (ha : -2147483648 ≤ a ∧ a ≤ 2147483647) (hb : -2147483648 ≤ b ∧ b ≤ 2147483647) (ht : -2147483648 ≤ t ∧ t ≤ 2147483647) (haw : aw = 0 ∨ aw = 1) : mw_Mi l yX2_addOrTakeAway (Cond.code yX2_addOrTakeAway cX2_addOrTakeAway 5 ((some .int)) :: gw) rm_X2_addOrTakeAway D vwCl (tyL kA) st_S [.ref d, .int (iI (a)), .int (iI (b)), .int (iI (t)), .int (iI (aw))] f0 sz (fun v f => v = iI (if aw = 0 then sp_sum Y a b t else sp_less Y a b t).1 ∧ (∃ Y', DK kA f d sl pa w ra Y' ∧ ∀ i, i < 16 → Y' i = (if aw = 0 then sp_sum Y a b t else sp_less Y a b t).2 i) ∧ ∀ k, ¬ dks d sl pa w ra k → f k = f0 k) 0 0 := by
  refine mw_ofi (cc := cX2_addOrTakeAway) (maxL := 5) (ret := (some .int)) (by decide) rfl (Nat.le_of_ble_eq_true rfl) ?_
  intro p e s m below meth c A ls Q hQ B hrt hnm hA hI hSt hl
  have hl : lv_has ls 5 [(0, .ref d), (1, .int (iI (a))), (2, .int (iI (b))), (3, .int (iI (t))), (4, .int (iI (aw)))] := hl
  obtain ⟨f, hI, hf⟩ : ∃ f, mw_I D vwCl A s s.heap [] f ∧ f = f0 := ⟨f0, hI, rfl⟩
  rw [← hf] at hD
  have ho : ∀ k, ¬ dks d sl pa w ra k → f k = f0 k := fun k _ => by rw [hf]
  have hsl : ∀ i, i < 16 → Y i = Y i := fun _ _ => rfl
  obtain ⟨S, hS0⟩ : ∃ S, S = (if aw = 0 then sp_sum Y a b t else sp_less Y a b t) := ⟨_, rfl⟩
  rw [← hS0] at hQ
  have hSy : sOk a ∧ sOk b ∧ sOk t → S = kp Y t (if aw = 0 then Y a.toNat + Y b.toNat else Y a.toNat - Y b.toNat) := fun q => by
    rcases haw with e | e
    · rw [hS0, if_pos e, if_pos e]; unfold sp_sum; rw [if_pos q]
    · rw [hS0, if_neg (by omega), if_neg (by omega)]; unfold sp_less; rw [if_pos q]
  have hSn : ¬ (sOk a ∧ sOk b ∧ sOk t) → S = (-1, Y) := fun q => by
    rcases haw with e | e
    · rw [hS0, if_pos e]; unfold sp_sum; rw [if_neg q]
    · rw [hS0, if_neg (by omega)]; unfold sp_less; rw [if_neg q]
  refine mv_iload_n B dX2_addOrTakeAway_0 rfl (lv_at hl 1 rfl) ?_
  refine mv_iload_n B dX2_addOrTakeAway_1 rfl (lv_at hl 2 rfl) ?_
  refine mw_calli hI hA (va_runS (As := [.int (iI (a)), .int (iI (b))]) (rest := []) B.fix (t_X2_areSlots l D kA s.heap.size f ha hb) (cwS 2 B.2.2.2.2.1 (gS kw_163 kw_164 kw_1 kw_165) rfl rfl rfl (by decide +kernel) ⟨Nat.le_of_ble_eq_true rfl, Nat.le_of_ble_eq_true rfl⟩) ⟨mw_blind st_S.blind, mw_pre B hI (hSt.call hI hA)⟩ rfl rfl hl.1 rfl (lv_room (Nat.le_of_ble_eq_true rfl)) dX2_addOrTakeAway_2 ⟨Nat.le_of_ble_eq_true rfl, Nat.le_of_ble_eq_true rfl⟩) (fun r f H locs hp hI2 => ?_)
  clear hI
  have hI := hI2
  clear hI2
  obtain ⟨rfl, rfl⟩ := hp
  refine mv_if_eq (tgt := 15) B dX2_addOrTakeAway_5 (by decide) (by split <;> omega) (fun hc => ?_) (fun hc => ?_)
  · have h1 : ¬ (sOk a ∧ sOk b) := fun q => by rw [if_pos q] at hc; exact absurd hc (by decide)
    refine mv_iconst B dX2_addOrTakeAway_15 ?_
    have e9 := hSn (fun q => h1 ⟨q.1, q.2.1⟩)
    exact mw_iret B hQ hrt hI ⟨by rw [e9], ⟨_, hD, fun i hi => (hsl i hi).trans (by rw [e9])⟩, ho⟩ dX2_addOrTakeAway_16
  · have h1 : sOk a ∧ sOk b := by
      by_cases q : sOk a ∧ sOk b
      · exact q
      · rw [if_neg q] at hc; exact absurd rfl hc
    refine mv_iload_n B dX2_addOrTakeAway_8 rfl (lv_at hl 3 rfl) ?_
    refine mw_calli hI hA (va_runS (As := [.int (iI (t))]) (rest := []) B.fix (t_X2_isSlot l D kA H.size f ht) (cwS 1 B.2.2.2.2.1 (gS kw_93 kw_94 kw_1 kw_95) rfl rfl rfl (by decide +kernel) ⟨Nat.le_of_ble_eq_true rfl, Nat.le_of_ble_eq_true rfl⟩) ⟨mw_blind st_S.blind, mw_pre B hI (hSt.call hI hA)⟩ rfl rfl hl.1 rfl (lv_room (Nat.le_of_ble_eq_true rfl)) dX2_addOrTakeAway_9 ⟨Nat.le_of_ble_eq_true rfl, Nat.le_of_ble_eq_true rfl⟩) (fun r f H locs hp hI2 => ?_)
    clear hI
    have hI := hI2
    clear hI2
    obtain ⟨rfl, rfl⟩ := hp
    refine mv_if_ne (tgt := 17) B dX2_addOrTakeAway_12 (by decide) (by split <;> omega) (fun hc2 => ?_) (fun hc2 => ?_)
    · have h2 : sOk t := by
        by_cases q : sOk t
        · exact q
        · rw [if_neg q] at hc2; exact absurd rfl hc2
      refine mv_aload_n B dX2_addOrTakeAway_17 rfl (lv_at hl 0 rfl) ?_
      refine mw_get (C := RX2) (T := TX2) (N := 7) B hI hD.1 uin_X2 rfl 1 (by decide) kw_68 rfl dX2_addOrTakeAway_18 ?_
      refine mv_aload_n B dX2_addOrTakeAway_21 rfl (lv_at hl 0 rfl) ?_
      refine mw_get (C := RX2) (T := TX2) (N := 7) B hI hD.1 uin_X2 rfl 0 (by decide) kw_67 rfl dX2_addOrTakeAway_22 ?_
      refine mv_iload_n B dX2_addOrTakeAway_25 rfl (lv_at hl 1 rfl) ?_
      obtain ⟨gs, hs1, hs2⟩ := hD.2.1
      refine mw_aald B hI 1 hs1 rfl (a.toNat) (by omega) (by omega) (by decide) (hs2 _ (by omega)) dX2_addOrTakeAway_26 ?_
      refine mv_aload_n B dX2_addOrTakeAway_27 rfl (lv_at hl 0 rfl) ?_
      refine mw_get (C := RX2) (T := TX2) (N := 7) B hI hD.1 uin_X2 rfl 0 (by decide) kw_67 rfl dX2_addOrTakeAway_28 ?_
      refine mv_iload_n B dX2_addOrTakeAway_31 rfl (lv_at hl 2 rfl) ?_
      obtain ⟨gs, hs1, hs2⟩ := hD.2.1
      refine mw_aald B hI 1 hs1 rfl (b.toNat) (by omega) (by omega) (by decide) (hs2 _ (by omega)) dX2_addOrTakeAway_32 ?_
      refine mv_iload B dX2_addOrTakeAway_33 (lv_at hl 4 rfl) ?_
      have ba := hB a.toNat (by omega)
      have bb := hB b.toNat (by omega)
      have b5 := b50
      obtain ⟨_, _, _, cc, -, -⟩ := id (hD.rp (i := 16) (by omega))
      refine mw_callv hI hA (va_runV (As := [.ref ((w (a.toNat))), .ref ((w (b.toNat))), .int (iI (aw))]) (rest := []) B.fix (t_X1_takeSum l D kA H.size f (hD.rp (i := 16) (by omega)).w (hD.rp (i := a.toNat) (by omega)) (hD.rp (i := b.toNat) (by omega)) (hD.ne (i := a.toNat) (j := 16) (by omega) (by omega) (by omega)).1 (hD.ne (i := a.toNat) (j := 16) (by omega) (by omega) (by omega)).2 (hD.ne (i := b.toNat) (j := 16) (by omega) (by omega) (by omega)).1 (hD.ne (i := b.toNat) (j := 16) (by omega) (by omega) (by omega)).2 (by omega) (by omega) (by omega)) (cwV 3 B.2.2.2.2.1 (gV kw_123 kw_124 kw_125 kw_2 kw_126) rfl rfl rfl (by decide +kernel) ⟨Nat.le_of_ble_eq_true rfl, Nat.le_of_ble_eq_true rfl⟩) ⟨mw_blind st_S.blind, mw_recv B hI cc rfl, mw_pre B hI (hSt.call hI hA)⟩ rfl rfl hl.1 rfl (lv_room (Nat.le_of_ble_eq_true rfl)) dX2_addOrTakeAway_35 ⟨Nat.le_of_ble_eq_true rfl, Nat.le_of_ble_eq_true rfl⟩) (fun f H locs hp hI2 => ?_)
      clear hI
      have hI := hI2
      clear hI2
      obtain ⟨hR, o1⟩ := hp
      have ho : ∀ k, ¬ dks d sl pa w ra k → f k = f0 k := fun k h => (o1 k (dks_w h (show 16 < 24 by omega)).1 (dks_w h (show 16 < 24 by omega)).2).trans (ho k h)
      obtain ⟨Y1, hY1, hD⟩ : ∃ Z, Z = upI Y (16) (if aw = 0 then Y (a.toNat) + Y (b.toNat) else Y (a.toNat) - Y (b.toNat)) ∧ DK kA f d sl pa w ra Z := ⟨_, rfl, hD.upd (t := 16) (by omega) hR o1⟩
      have v1 : Y1 (16) = if aw = 0 then Y (a.toNat) + Y (b.toNat) else Y (a.toNat) - Y (b.toNat) := by rw [hY1, upI_self]
      have r1 : ∀ i, i ≠ 16 → Y1 i = Y i := fun i hi => by rw [hY1, upI_ne _ _ hi]
      have hsl : ∀ i, i < 16 → Y1 i = Y i := fun i hi => (r1 i (by omega)).trans (hsl i hi)
      refine mv_aload_n B dX2_addOrTakeAway_38 rfl (lv_at hl 0 rfl) ?_
      refine mv_aload_n B dX2_addOrTakeAway_39 rfl (lv_at hl 0 rfl) ?_
      refine mw_get (C := RX2) (T := TX2) (N := 7) B hI hD.1 uin_X2 rfl 1 (by decide) kw_68 rfl dX2_addOrTakeAway_40 ?_
      refine mv_iload_n B dX2_addOrTakeAway_43 rfl (lv_at hl 3 rfl) ?_
      refine mw_calli hI hA (va_runV (As := [.ref ((w 16)), .int (iI (t))]) (rest := []) B.fix (t_X2_keep l D kA H.size f (t := 16) hD (fun i hi => by rw [hsl i hi]; exact hB i hi) (by omega) h2) (cwV 2 B.2.2.2.2.1 (gV kw_144 kw_146 ks_2 kw_1 kw_147) rfl rfl rfl (by decide +kernel) ⟨Nat.le_of_ble_eq_true rfl, Nat.le_of_ble_eq_true rfl⟩) ⟨mw_blind st_S.blind, mw_recv B hI hD.1 rfl, mw_pre B hI (hSt.call hI hA)⟩ rfl rfl hl.1 rfl (lv_room (Nat.le_of_ble_eq_true rfl)) dX2_addOrTakeAway_44 ⟨Nat.le_of_ble_eq_true rfl, Nat.le_of_ble_eq_true rfl⟩) (fun r f H locs hp hI2 => ?_)
      clear hI
      have hI := hI2
      clear hI2
      obtain ⟨rfl, hD, o1⟩ := hp
      have ho : ∀ k, ¬ dks d sl pa w ra k → f k = f0 k := fun k h => (o1 k h).trans (ho k h)
      have e9 := hSy ⟨h1.1, h1.2, h2⟩
      have e8 := kp_same (x := t) v1 hsl
      exact mw_iret B hQ hrt hI ⟨(congrArg iI e8.1).trans (by rw [e9]), ⟨_, hD, fun i hi => (e8.2 i hi).trans (by rw [e9])⟩, ho⟩ dX2_addOrTakeAway_47
    · have h2 : ¬ (sOk t) := fun q => by rw [if_pos q] at hc2; exact absurd hc2 (by decide)
      refine mv_iconst B dX2_addOrTakeAway_15 ?_
      have e9 := hSn (fun q => h2 q.2.2)
      exact mw_iret B hQ hrt hI ⟨by rw [e9], ⟨_, hD, fun i hi => (hsl i hi).trans (by rw [e9])⟩, ho⟩ dX2_addOrTakeAway_16
abbrev rm_X2_sum : Room := { frames := 4, cells := 0, slots := 0, locals := 107 }
set_option maxHeartbeats 4000000 in
set_option maxRecDepth 100000 in
/-- sum -/
theorem t_X2_sum (l : Launch) (D : va_G) (kA : Nat → ClassId) (sz : Nat) (f0 : mw_M) {d sl pa : Nat} {w ra : Nat → Nat} {Y : Nat → Int} {a b t : Int} (hD : DK kA f0 d sl pa w ra Y) (hB : ∀ i, i < 16 → ((Y i).natAbs : Int) < 1000000 ^ 50) (ha : -2147483648 ≤ a ∧ a ≤ 2147483647) (hb : -2147483648 ≤ b ∧ b ≤ 2147483647) (ht : -2147483648 ≤ t ∧ t ≤ 2147483647) : mw_Mi l yX2_sum (Cond.code yX2_sum cX2_sum 4 ((some .int)) :: gw) rm_X2_sum D vwCl (tyL kA) st_S [.ref d, .int (iI (a)), .int (iI (b)), .int (iI (t))] f0 sz (fun v f => v = iI (sp_sum Y a b t).1 ∧ (∃ Y', DK kA f d sl pa w ra Y' ∧ ∀ i, i < 16 → Y' i = (sp_sum Y a b t).2 i) ∧ ∀ k, ¬ dks d sl pa w ra k → f k = f0 k) 0 0 := by
  refine mw_ofi (cc := cX2_sum) (maxL := 4) (ret := (some .int)) (by decide) rfl (Nat.le_of_ble_eq_true rfl) ?_
  intro p e s m below meth c A ls Q hQ B hrt hnm hA hI hSt hl
  have hl : lv_has ls 4 [(0, .ref d), (1, .int (iI (a))), (2, .int (iI (b))), (3, .int (iI (t)))] := hl
  obtain ⟨f, hI, hf⟩ : ∃ f, mw_I D vwCl A s s.heap [] f ∧ f = f0 := ⟨f0, hI, rfl⟩
  rw [← hf] at hD
  have ho : ∀ k, ¬ dks d sl pa w ra k → f k = f0 k := fun k _ => by rw [hf]
  refine mv_aload_n B dX2_sum_0 rfl (lv_at hl 0 rfl) ?_
  refine mv_iload_n B dX2_sum_1 rfl (lv_at hl 1 rfl) ?_
  refine mv_iload_n B dX2_sum_2 rfl (lv_at hl 2 rfl) ?_
  refine mv_iload_n B dX2_sum_3 rfl (lv_at hl 3 rfl) ?_
  refine mv_iconst B dX2_sum_4 ?_
  refine mw_calli hI hA (va_runV (As := [.int (iI (a)), .int (iI (b)), .int (iI (t)), .int (iI (0))]) (rest := []) B.fix (t_X2_addOrTakeAway l D kA s.heap.size f (aw := 0) hD hB ha hb ht (by decide)) (cwV 4 B.2.2.2.2.1 (gV kw_170 kw_172 ks_3 kw_1 kw_173) rfl rfl rfl (by decide +kernel) ⟨Nat.le_of_ble_eq_true rfl, Nat.le_of_ble_eq_true rfl⟩) ⟨mw_blind st_S.blind, mw_recv B hI hD.1 rfl, mw_pre B hI (hSt.call hI hA)⟩ rfl rfl hl.1 rfl (lv_room (Nat.le_of_ble_eq_true rfl)) dX2_sum_5 ⟨Nat.le_of_ble_eq_true rfl, Nat.le_of_ble_eq_true rfl⟩) (fun r f H locs hp hI2 => ?_)
  clear hI
  have hI := hI2
  clear hI2
  obtain ⟨rfl, hD, o1⟩ := hp
  exact mw_iret B hQ hrt hI ⟨rfl, hD, fun k h => (o1 k h).trans (ho k h)⟩ dX2_sum_8
abbrev rm_X2_less : Room := { frames := 4, cells := 0, slots := 0, locals := 107 }
set_option maxHeartbeats 4000000 in
set_option maxRecDepth 100000 in
/-- less -/
theorem t_X2_less (l : Launch) (D : va_G) (kA : Nat → ClassId) (sz : Nat) (f0 : mw_M) {d sl pa : Nat} {w ra : Nat → Nat} {Y : Nat → Int} {a b t : Int} (hD : DK kA f0 d sl pa w ra Y) (hB : ∀ i, i < 16 → ((Y i).natAbs : Int) < 1000000 ^ 50) (ha : -2147483648 ≤ a ∧ a ≤ 2147483647) (hb : -2147483648 ≤ b ∧ b ≤ 2147483647) (ht : -2147483648 ≤ t ∧ t ≤ 2147483647) : mw_Mi l yX2_less (Cond.code yX2_less cX2_less 4 ((some .int)) :: gw) rm_X2_less D vwCl (tyL kA) st_S [.ref d, .int (iI (a)), .int (iI (b)), .int (iI (t))] f0 sz (fun v f => v = iI (sp_less Y a b t).1 ∧ (∃ Y', DK kA f d sl pa w ra Y' ∧ ∀ i, i < 16 → Y' i = (sp_less Y a b t).2 i) ∧ ∀ k, ¬ dks d sl pa w ra k → f k = f0 k) 0 0 := by
  refine mw_ofi (cc := cX2_less) (maxL := 4) (ret := (some .int)) (by decide) rfl (Nat.le_of_ble_eq_true rfl) ?_
  intro p e s m below meth c A ls Q hQ B hrt hnm hA hI hSt hl
  have hl : lv_has ls 4 [(0, .ref d), (1, .int (iI (a))), (2, .int (iI (b))), (3, .int (iI (t)))] := hl
  obtain ⟨f, hI, hf⟩ : ∃ f, mw_I D vwCl A s s.heap [] f ∧ f = f0 := ⟨f0, hI, rfl⟩
  rw [← hf] at hD
  have ho : ∀ k, ¬ dks d sl pa w ra k → f k = f0 k := fun k _ => by rw [hf]
  refine mv_aload_n B dX2_less_0 rfl (lv_at hl 0 rfl) ?_
  refine mv_iload_n B dX2_less_1 rfl (lv_at hl 1 rfl) ?_
  refine mv_iload_n B dX2_less_2 rfl (lv_at hl 2 rfl) ?_
  refine mv_iload_n B dX2_less_3 rfl (lv_at hl 3 rfl) ?_
  refine mv_iconst B dX2_less_4 ?_
  refine mw_calli hI hA (va_runV (As := [.int (iI (a)), .int (iI (b)), .int (iI (t)), .int (iI (1))]) (rest := []) B.fix (t_X2_addOrTakeAway l D kA s.heap.size f (aw := 1) hD hB ha hb ht (by decide)) (cwV 4 B.2.2.2.2.1 (gV kw_170 kw_172 ks_3 kw_1 kw_173) rfl rfl rfl (by decide +kernel) ⟨Nat.le_of_ble_eq_true rfl, Nat.le_of_ble_eq_true rfl⟩) ⟨mw_blind st_S.blind, mw_recv B hI hD.1 rfl, mw_pre B hI (hSt.call hI hA)⟩ rfl rfl hl.1 rfl (lv_room (Nat.le_of_ble_eq_true rfl)) dX2_less_5 ⟨Nat.le_of_ble_eq_true rfl, Nat.le_of_ble_eq_true rfl⟩) (fun r f H locs hp hI2 => ?_)
  clear hI
  have hI := hI2
  clear hI2
  obtain ⟨rfl, hD, o1⟩ := hp
  exact mw_iret B hQ hrt hI ⟨rfl, hD, fun k h => (o1 k h).trans (ho k h)⟩ dX2_less_8
abbrev rm_X2_copy : Room := { frames := 3, cells := 0, slots := 0, locals := 83 }
set_option maxHeartbeats 4000000 in
set_option maxRecDepth 100000 in
/-- copy -/
theorem t_X2_copy (l : Launch) (D : va_G) (kA : Nat → ClassId) (sz : Nat) (f0 : mw_M) {d sl pa : Nat} {w ra : Nat → Nat} {Y : Nat → Int} {a t : Int} (hD : DK kA f0 d sl pa w ra Y) (hB : ∀ i, i < 16 → ((Y i).natAbs : Int) < 1000000 ^ 50) (ha : -2147483648 ≤ a ∧ a ≤ 2147483647) (ht : -2147483648 ≤ t ∧ t ≤ 2147483647) : mw_Mi l yX2_copy (Cond.code yX2_copy cX2_copy 3 ((some .int)) :: gw) rm_X2_copy D vwCl (tyL kA) st_S [.ref d, .int (iI (a)), .int (iI (t))] f0 sz (fun v f => v = iI (sp_copy Y a t).1 ∧ (∃ Y', DK kA f d sl pa w ra Y' ∧ ∀ i, i < 16 → Y' i = (sp_copy Y a t).2 i) ∧ ∀ k, ¬ dks d sl pa w ra k → f k = f0 k) 0 0 := by
  refine mw_ofi (cc := cX2_copy) (maxL := 3) (ret := (some .int)) (by decide) rfl (Nat.le_of_ble_eq_true rfl) ?_
  intro p e s m below meth c A ls Q hQ B hrt hnm hA hI hSt hl
  have hl : lv_has ls 3 [(0, .ref d), (1, .int (iI (a))), (2, .int (iI (t)))] := hl
  obtain ⟨f, hI, hf⟩ : ∃ f, mw_I D vwCl A s s.heap [] f ∧ f = f0 := ⟨f0, hI, rfl⟩
  rw [← hf] at hD
  have ho : ∀ k, ¬ dks d sl pa w ra k → f k = f0 k := fun k _ => by rw [hf]
  have hsl : ∀ i, i < 16 → Y i = Y i := fun _ _ => rfl
  refine mv_iload_n B dX2_copy_0 rfl (lv_at hl 1 rfl) ?_
  refine mv_iload_n B dX2_copy_1 rfl (lv_at hl 2 rfl) ?_
  refine mw_calli hI hA (va_runS (As := [.int (iI (a)), .int (iI (t))]) (rest := []) B.fix (t_X2_areSlots l D kA s.heap.size f ha ht) (cwS 2 B.2.2.2.2.1 (gS kw_163 kw_164 kw_1 kw_165) rfl rfl rfl (by decide +kernel) ⟨Nat.le_of_ble_eq_true rfl, Nat.le_of_ble_eq_true rfl⟩) ⟨mw_blind st_S.blind, mw_pre B hI (hSt.call hI hA)⟩ rfl rfl hl.1 rfl (lv_room (Nat.le_of_ble_eq_true rfl)) dX2_copy_2 ⟨Nat.le_of_ble_eq_true rfl, Nat.le_of_ble_eq_true rfl⟩) (fun r f H locs hp hI2 => ?_)
  clear hI
  have hI := hI2
  clear hI2
  obtain ⟨rfl, rfl⟩ := hp
  refine mv_if_ne (tgt := 10) B dX2_copy_5 (by decide) (by split <;> omega) (fun hc => ?_) (fun hc => ?_)
  · have h1 : sOk a ∧ sOk t := by
      by_cases q : sOk a ∧ sOk t
      · exact q
      · rw [if_neg q] at hc; exact absurd rfl hc
    refine mv_aload_n B dX2_copy_10 rfl (lv_at hl 0 rfl) ?_
    refine mv_aload_n B dX2_copy_11 rfl (lv_at hl 0 rfl) ?_
    refine mw_get (C := RX2) (T := TX2) (N := 7) B hI hD.1 uin_X2 rfl 0 (by decide) kw_67 rfl dX2_copy_12 ?_
    refine mv_iload_n B dX2_copy_15 rfl (lv_at hl 1 rfl) ?_
    obtain ⟨gs, hs1, hs2⟩ := hD.2.1
    refine mw_aald B hI 1 hs1 rfl (a.toNat) (by omega) (by omega) (by decide) (hs2 _ (by omega)) dX2_copy_16 ?_
    refine mv_iload_n B dX2_copy_17 rfl (lv_at hl 2 rfl) ?_
    refine mw_calli hI hA (va_runV (As := [.ref ((w (a.toNat))), .int (iI (t))]) (rest := []) B.fix (t_X2_keep l D kA H.size f (t := a.toNat) hD (fun i hi => by rw [hsl i hi]; exact hB i hi) (by omega) h1.2) (cwV 2 B.2.2.2.2.1 (gV kw_144 kw_146 ks_2 kw_1 kw_147) rfl rfl rfl (by decide +kernel) ⟨Nat.le_of_ble_eq_true rfl, Nat.le_of_ble_eq_true rfl⟩) ⟨mw_blind st_S.blind, mw_recv B hI hD.1 rfl, mw_pre B hI (hSt.call hI hA)⟩ rfl rfl hl.1 rfl (lv_room (Nat.le_of_ble_eq_true rfl)) dX2_copy_18 ⟨Nat.le_of_ble_eq_true rfl, Nat.le_of_ble_eq_true rfl⟩) (fun r f H locs hp hI2 => ?_)
    clear hI
    have hI := hI2
    clear hI2
    obtain ⟨rfl, hD, o1⟩ := hp
    have ho : ∀ k, ¬ dks d sl pa w ra k → f k = f0 k := fun k h => (o1 k h).trans (ho k h)
    have e9 : sp_copy Y a t = kp Y (t) (Y a.toNat) := by unfold sp_copy; rw [if_pos h1]
    have e7 : Y (a.toNat) = Y a.toNat := by rfl
    have e8 := kp_same (x := t) e7 hsl
    exact mw_iret B hQ hrt hI ⟨(congrArg iI e8.1).trans (by rw [e9]), ⟨_, hD, fun i hi => (e8.2 i hi).trans (by rw [e9])⟩, ho⟩ dX2_copy_21
  · have h1 : ¬ (sOk a ∧ sOk t) := fun q => by rw [if_pos q] at hc; exact absurd hc (by decide)
    refine mv_iconst B dX2_copy_8 ?_
    have e9 : sp_copy Y a t = (-1, Y) := by unfold sp_copy; rw [if_neg h1]
    exact mw_iret B hQ hrt hI ⟨by rw [e9], ⟨_, hD, fun i hi => (hsl i hi).trans (by rw [e9])⟩, ho⟩ dX2_copy_9
abbrev rm_X2_digit : Room := { frames := 3, cells := 0, slots := 0, locals := 83 }
set_option maxHeartbeats 4000000 in
set_option maxRecDepth 100000 in
/-- digit -/
theorem t_X2_digit (l : Launch) (D : va_G) (kA : Nat → ClassId) (sz : Nat) (f0 : mw_M) {d sl pa : Nat} {w ra : Nat → Nat} {Y : Nat → Int} {a e_ : Int} (hD : DK kA f0 d sl pa w ra Y) (hB : ∀ i, i < 16 → ((Y i).natAbs : Int) < 1000000 ^ 50) (ha : -2147483648 ≤ a ∧ a ≤ 2147483647) (he_ : -2147483648 ≤ e_ ∧ e_ ≤ 2147483647) : mw_Mi l yX2_digit (Cond.code yX2_digit cX2_digit 3 ((some .int)) :: gw) rm_X2_digit D vwCl (tyL kA) st_S [.ref d, .int (iI (a)), .int (iI (e_))] f0 sz (fun v f => v = iI (sp_digit Y a e_).1 ∧ (∃ Y', DK kA f d sl pa w ra Y' ∧ ∀ i, i < 16 → Y' i = (sp_digit Y a e_).2 i) ∧ ∀ k, ¬ dks d sl pa w ra k → f k = f0 k) 0 0 := by
  refine mw_ofi (cc := cX2_digit) (maxL := 3) (ret := (some .int)) (by decide) rfl (Nat.le_of_ble_eq_true rfl) ?_
  intro p e s m below meth c A ls Q hQ B hrt hnm hA hI hSt hl
  have hl : lv_has ls 3 [(0, .ref d), (1, .int (iI (a))), (2, .int (iI (e_)))] := hl
  obtain ⟨f, hI, hf⟩ : ∃ f, mw_I D vwCl A s s.heap [] f ∧ f = f0 := ⟨f0, hI, rfl⟩
  rw [← hf] at hD
  have ho : ∀ k, ¬ dks d sl pa w ra k → f k = f0 k := fun k _ => by rw [hf]
  have hsl : ∀ i, i < 16 → Y i = Y i := fun _ _ => rfl
  refine mv_iload_n B dX2_digit_0 rfl (lv_at hl 1 rfl) ?_
  refine mw_calli hI hA (va_runS (As := [.int (iI (a))]) (rest := []) B.fix (t_X2_isSlot l D kA s.heap.size f ha) (cwS 1 B.2.2.2.2.1 (gS kw_93 kw_94 kw_1 kw_95) rfl rfl rfl (by decide +kernel) ⟨Nat.le_of_ble_eq_true rfl, Nat.le_of_ble_eq_true rfl⟩) ⟨mw_blind st_S.blind, mw_pre B hI (hSt.call hI hA)⟩ rfl rfl hl.1 rfl (lv_room (Nat.le_of_ble_eq_true rfl)) dX2_digit_1 ⟨Nat.le_of_ble_eq_true rfl, Nat.le_of_ble_eq_true rfl⟩) (fun r f H locs hp hI2 => ?_)
  clear hI
  have hI := hI2
  clear hI2
  obtain ⟨rfl, rfl⟩ := hp
  refine mv_if_eq (tgt := 17) B dX2_digit_4 (by decide) (by split <;> omega) (fun hc => ?_) (fun hc => ?_)
  · have h1 : ¬ (sOk a) := fun q => by rw [if_pos q] at hc; exact absurd hc (by decide)
    refine mv_iconst B dX2_digit_17 ?_
    have e9 : sp_digit Y a e_ = (-1, Y) := by unfold sp_digit; rw [if_neg (fun q => h1 q.1)]
    exact mw_iret B hQ hrt hI ⟨by rw [e9], ⟨_, hD, fun i hi => (hsl i hi).trans (by rw [e9])⟩, ho⟩ dX2_digit_18
  · have h1 : sOk a := by
      by_cases q : sOk a
      · exact q
      · rw [if_neg q] at hc; exact absurd rfl hc
    refine mv_iload_n B dX2_digit_7 rfl (lv_at hl 2 rfl) ?_
    refine mv_if_lt (tgt := 17) B dX2_digit_8 (by decide) (by omega) (fun hc2 => ?_) (fun hc2 => ?_)
    · refine mv_iconst B dX2_digit_17 ?_
      have e9 : sp_digit Y a e_ = (-1, Y) := by unfold sp_digit; rw [if_neg (fun q => by omega)]
      exact mw_iret B hQ hrt hI ⟨by rw [e9], ⟨_, hD, fun i hi => (hsl i hi).trans (by rw [e9])⟩, ho⟩ dX2_digit_18
    · refine mv_iload_n B dX2_digit_11 rfl (lv_at hl 2 rfl) ?_
      refine mv_bipush B dX2_digit_12 (by decide) ?_
      refine mv_icmp_le (tgt := 19) B dX2_digit_14 (by decide) (by omega) (fun hc3 => ?_) (fun hc3 => ?_)
      · have b5 := b50
        have ba := hB a.toNat (by omega)
        refine mv_aload_n B dX2_digit_19 rfl (lv_at hl 0 rfl) ?_
        refine mw_get (C := RX2) (T := TX2) (N := 7) B hI hD.1 uin_X2 rfl 4 (by decide) kw_71 rfl dX2_digit_20 ?_
        refine mv_ldc2 (z := 10) B dX2_digit_23 kw_112 (by decide) ?_
        obtain ⟨_, _, _, cc, -, -⟩ := id (hD.rp (i := 19) (by omega))
        refine mw_callv hI hA (va_runV (As := [.long (lI (10))]) (rest := []) B.fix (t_X1_load l D kA H.size f (hD.rp (i := 19) (by omega)).w (by decide)) (cwV 1 B.2.2.2.2.1 (gV kw_96 kw_97 kw_98 kw_2 kw_99) rfl rfl rfl (by decide +kernel) ⟨Nat.le_of_ble_eq_true rfl, Nat.le_of_ble_eq_true rfl⟩) ⟨mw_blind st_S.blind, mw_recv B hI cc rfl, mw_pre B hI (hSt.call hI hA)⟩ rfl rfl hl.1 rfl (lv_room (Nat.le_of_ble_eq_true rfl)) dX2_digit_26 ⟨Nat.le_of_ble_eq_true rfl, Nat.le_of_ble_eq_true rfl⟩) (fun f H locs hp hI2 => ?_)
        clear hI
        have hI := hI2
        clear hI2
        obtain ⟨hR, o1⟩ := hp
        have ho : ∀ k, ¬ dks d sl pa w ra k → f k = f0 k := fun k h => (o1 k (dks_w h (show 19 < 24 by omega)).1 (dks_w h (show 19 < 24 by omega)).2).trans (ho k h)
        obtain ⟨Y1, hY1, hD⟩ : ∃ Z, Z = upI Y (19) (10) ∧ DK kA f d sl pa w ra Z := ⟨_, rfl, hD.upd (t := 19) (by omega) hR o1⟩
        have v1 : Y1 (19) = 10 := by rw [hY1, upI_self]
        have r1 : ∀ i, i ≠ 19 → Y1 i = Y i := fun i hi => by rw [hY1, upI_ne _ _ hi]
        have hsl : ∀ i, i < 16 → Y1 i = Y i := fun i hi => (r1 i (by omega)).trans (hsl i hi)
        refine mv_aload_n B dX2_digit_29 rfl (lv_at hl 0 rfl) ?_
        refine mw_get (C := RX2) (T := TX2) (N := 7) B hI hD.1 uin_X2 rfl 3 (by decide) kw_70 rfl dX2_digit_30 ?_
        refine mv_aload_n B dX2_digit_33 rfl (lv_at hl 0 rfl) ?_
        refine mw_get (C := RX2) (T := TX2) (N := 7) B hI hD.1 uin_X2 rfl 0 (by decide) kw_67 rfl dX2_digit_34 ?_
        refine mv_iload_n B dX2_digit_37 rfl (lv_at hl 1 rfl) ?_
        obtain ⟨gs, hs1, hs2⟩ := hD.2.1
        refine mw_aald B hI 1 hs1 rfl (a.toNat) (by omega) (by omega) (by decide) (hs2 _ (by omega)) dX2_digit_38 ?_
        refine mv_aload_n B dX2_digit_39 rfl (lv_at hl 0 rfl) ?_
        refine mw_get (C := RX2) (T := TX2) (N := 7) B hI hD.1 uin_X2 rfl 4 (by decide) kw_71 rfl dX2_digit_40 ?_
        obtain ⟨_, _, _, cc, -, -⟩ := id (hD.rp (i := 18) (by omega))
        refine mw_callv hI hA (va_runV (As := [.ref ((w (a.toNat))), .ref ((w 19))]) (rest := []) B.fix (t_X1_takeProduct l D kA H.size f (hD.rp (i := 18) (by omega)).w (hD.rp (i := a.toNat) (by omega)) (hD.rp (i := 19) (by omega)) (hD.ne (i := a.toNat) (j := 18) (by omega) (by omega) (by omega)).1 (hD.ne (i := a.toNat) (j := 18) (by omega) (by omega) (by omega)).2 (hD.ne (i := 19) (j := 18) (by omega) (by omega) (by omega)).1 (hD.ne (i := 19) (j := 18) (by omega) (by omega) (by omega)).2 (by rw [hsl _ (by omega)]; exact hB _ (by omega)) (by rw [v1]; exact b5.2.2)) (cwV 2 B.2.2.2.2.1 (gV kw_113 kw_114 kw_115 kw_2 kw_116) rfl rfl rfl (by decide +kernel) ⟨Nat.le_of_ble_eq_true rfl, Nat.le_of_ble_eq_true rfl⟩) ⟨mw_blind st_S.blind, mw_recv B hI cc rfl, mw_pre B hI (hSt.call hI hA)⟩ rfl rfl hl.1 rfl (lv_room (Nat.le_of_ble_eq_true rfl)) dX2_digit_43 ⟨Nat.le_of_ble_eq_true rfl, Nat.le_of_ble_eq_true rfl⟩) (fun f H locs hp hI2 => ?_)
        clear hI
        have hI := hI2
        clear hI2
        obtain ⟨hR, o1⟩ := hp
        have ho : ∀ k, ¬ dks d sl pa w ra k → f k = f0 k := fun k h => (o1 k (dks_w h (show 18 < 24 by omega)).1 (dks_w h (show 18 < 24 by omega)).2).trans (ho k h)
        obtain ⟨Y2, hY2, hD⟩ : ∃ Z, Z = upI Y1 (18) (Y1 (a.toNat) * Y1 (19)) ∧ DK kA f d sl pa w ra Z := ⟨_, rfl, hD.upd (t := 18) (by omega) hR o1⟩
        have v2 : Y2 (18) = Y1 (a.toNat) * Y1 (19) := by rw [hY2, upI_self]
        have r2 : ∀ i, i ≠ 18 → Y2 i = Y1 i := fun i hi => by rw [hY2, upI_ne _ _ hi]
        have hsl : ∀ i, i < 16 → Y2 i = Y i := fun i hi => (r2 i (by omega)).trans (hsl i hi)
        have hx1 : Y1 a.toNat = Y a.toNat := r1 _ (by omega)
        refine mv_aload_n B dX2_digit_46 rfl (lv_at hl 0 rfl) ?_
        refine mw_get (C := RX2) (T := TX2) (N := 7) B hI hD.1 uin_X2 rfl 4 (by decide) kw_71 rfl dX2_digit_47 ?_
        refine mv_iload_n B dX2_digit_50 rfl (lv_at hl 2 rfl) ?_
        refine mv_i2l B dX2_digit_51 (by omega) ?_
        obtain ⟨_, _, _, cc, -, -⟩ := id (hD.rp (i := 19) (by omega))
        refine mw_callv hI hA (va_runV (As := [.long (lI (e_))]) (rest := []) B.fix (t_X1_load l D kA H.size f (hD.rp (i := 19) (by omega)).w (by omega)) (cwV 1 B.2.2.2.2.1 (gV kw_96 kw_97 kw_98 kw_2 kw_99) rfl rfl rfl (by decide +kernel) ⟨Nat.le_of_ble_eq_true rfl, Nat.le_of_ble_eq_true rfl⟩) ⟨mw_blind st_S.blind, mw_recv B hI cc rfl, mw_pre B hI (hSt.call hI hA)⟩ rfl rfl hl.1 rfl (lv_room (Nat.le_of_ble_eq_true rfl)) dX2_digit_52 ⟨Nat.le_of_ble_eq_true rfl, Nat.le_of_ble_eq_true rfl⟩) (fun f H locs hp hI2 => ?_)
        clear hI
        have hI := hI2
        clear hI2
        obtain ⟨hR, o1⟩ := hp
        have ho : ∀ k, ¬ dks d sl pa w ra k → f k = f0 k := fun k h => (o1 k (dks_w h (show 19 < 24 by omega)).1 (dks_w h (show 19 < 24 by omega)).2).trans (ho k h)
        obtain ⟨Y3, hY3, hD⟩ : ∃ Z, Z = upI Y2 (19) (e_) ∧ DK kA f d sl pa w ra Z := ⟨_, rfl, hD.upd (t := 19) (by omega) hR o1⟩
        have v3 : Y3 (19) = e_ := by rw [hY3, upI_self]
        have r3 : ∀ i, i ≠ 19 → Y3 i = Y2 i := fun i hi => by rw [hY3, upI_ne _ _ hi]
        have hsl : ∀ i, i < 16 → Y3 i = Y i := fun i hi => (r3 i (by omega)).trans (hsl i hi)
        refine mv_aload_n B dX2_digit_55 rfl (lv_at hl 0 rfl) ?_
        refine mw_get (C := RX2) (T := TX2) (N := 7) B hI hD.1 uin_X2 rfl 1 (by decide) kw_68 rfl dX2_digit_56 ?_
        refine mv_aload_n B dX2_digit_59 rfl (lv_at hl 0 rfl) ?_
        refine mw_get (C := RX2) (T := TX2) (N := 7) B hI hD.1 uin_X2 rfl 3 (by decide) kw_70 rfl dX2_digit_60 ?_
        refine mv_aload_n B dX2_digit_63 rfl (lv_at hl 0 rfl) ?_
        refine mw_get (C := RX2) (T := TX2) (N := 7) B hI hD.1 uin_X2 rfl 4 (by decide) kw_71 rfl dX2_digit_64 ?_
        refine mv_iconst B dX2_digit_67 ?_
        have h18 : Y3 18 = Y a.toNat * 10 := by rw [r3 18 (by decide), v2, v1, hx1]
        have b18 : ((Y3 18).natAbs : Int) < 1000000 ^ 100 := by rw [h18]; exact mulbd ba b5.2.2
        have bb := b100
        obtain ⟨_, _, _, cc, -, -⟩ := id (hD.rp (i := 16) (by omega))
        refine mw_callv hI hA (va_runV (As := [.ref ((w 18)), .ref ((w 19)), .int (iI (0))]) (rest := []) B.fix (t_X1_takeSum l D kA H.size f (hD.rp (i := 16) (by omega)).w (hD.rp (i := 18) (by omega)) (hD.rp (i := 19) (by omega)) (hD.ne (i := 18) (j := 16) (by omega) (by omega) (by omega)).1 (hD.ne (i := 18) (j := 16) (by omega) (by omega) (by omega)).2 (hD.ne (i := 19) (j := 16) (by omega) (by omega) (by omega)).1 (hD.ne (i := 19) (j := 16) (by omega) (by omega) (by omega)).2 (by omega) (by omega) (by rw [v3]; omega)) (cwV 3 B.2.2.2.2.1 (gV kw_123 kw_124 kw_125 kw_2 kw_126) rfl rfl rfl (by decide +kernel) ⟨Nat.le_of_ble_eq_true rfl, Nat.le_of_ble_eq_true rfl⟩) ⟨mw_blind st_S.blind, mw_recv B hI cc rfl, mw_pre B hI (hSt.call hI hA)⟩ rfl rfl hl.1 rfl (lv_room (Nat.le_of_ble_eq_true rfl)) dX2_digit_68 ⟨Nat.le_of_ble_eq_true rfl, Nat.le_of_ble_eq_true rfl⟩) (fun f H locs hp hI2 => ?_)
        clear hI
        have hI := hI2
        clear hI2
        obtain ⟨hR, o1⟩ := hp
        have ho : ∀ k, ¬ dks d sl pa w ra k → f k = f0 k := fun k h => (o1 k (dks_w h (show 16 < 24 by omega)).1 (dks_w h (show 16 < 24 by omega)).2).trans (ho k h)
        obtain ⟨Y4, hY4, hD⟩ : ∃ Z, Z = upI Y3 (16) (if (0 : Int) = 0 then Y3 (18) + Y3 (19) else Y3 (18) - Y3 (19)) ∧ DK kA f d sl pa w ra Z := ⟨_, rfl, hD.upd (t := 16) (by omega) hR o1⟩
        have v4 : Y4 (16) = if (0 : Int) = 0 then Y3 (18) + Y3 (19) else Y3 (18) - Y3 (19) := by rw [hY4, upI_self]
        have r4 : ∀ i, i ≠ 16 → Y4 i = Y3 i := fun i hi => by rw [hY4, upI_ne _ _ hi]
        have hsl : ∀ i, i < 16 → Y4 i = Y i := fun i hi => (r4 i (by omega)).trans (hsl i hi)
        refine mv_aload_n B dX2_digit_71 rfl (lv_at hl 0 rfl) ?_
        refine mv_aload_n B dX2_digit_72 rfl (lv_at hl 0 rfl) ?_
        refine mw_get (C := RX2) (T := TX2) (N := 7) B hI hD.1 uin_X2 rfl 1 (by decide) kw_68 rfl dX2_digit_73 ?_
        refine mv_iload_n B dX2_digit_76 rfl (lv_at hl 1 rfl) ?_
        refine mw_calli hI hA (va_runV (As := [.ref ((w 16)), .int (iI (a))]) (rest := []) B.fix (t_X2_keep l D kA H.size f (t := 16) hD (fun i hi => by rw [hsl i hi]; exact hB i hi) (by omega) h1) (cwV 2 B.2.2.2.2.1 (gV kw_144 kw_146 ks_2 kw_1 kw_147) rfl rfl rfl (by decide +kernel) ⟨Nat.le_of_ble_eq_true rfl, Nat.le_of_ble_eq_true rfl⟩) ⟨mw_blind st_S.blind, mw_recv B hI hD.1 rfl, mw_pre B hI (hSt.call hI hA)⟩ rfl rfl hl.1 rfl (lv_room (Nat.le_of_ble_eq_true rfl)) dX2_digit_77 ⟨Nat.le_of_ble_eq_true rfl, Nat.le_of_ble_eq_true rfl⟩) (fun r f H locs hp hI2 => ?_)
        clear hI
        have hI := hI2
        clear hI2
        obtain ⟨rfl, hD, o1⟩ := hp
        have ho : ∀ k, ¬ dks d sl pa w ra k → f k = f0 k := fun k h => (o1 k h).trans (ho k h)
        have e9 : sp_digit Y a e_ = kp Y (a) (10 * Y a.toNat + e_) := by unfold sp_digit; rw [if_pos ⟨h1, by omega, by omega⟩]
        have e7 : Y4 (16) = 10 * Y a.toNat + e_ := by rw [v4, if_pos rfl, h18, v3]; omega
        have e8 := kp_same (x := a) e7 hsl
        exact mw_iret B hQ hrt hI ⟨(congrArg iI e8.1).trans (by rw [e9]), ⟨_, hD, fun i hi => (e8.2 i hi).trans (by rw [e9])⟩, ho⟩ dX2_digit_80
      · refine mv_iconst B dX2_digit_17 ?_
        have e9 : sp_digit Y a e_ = (-1, Y) := by unfold sp_digit; rw [if_neg (fun q => by omega)]
        exact mw_iret B hQ hrt hI ⟨by rw [e9], ⟨_, hD, fun i hi => (hsl i hi).trans (by rw [e9])⟩, ho⟩ dX2_digit_18
