abbrev rm_X2_divideSlots : Room := { frames := 3, cells := 0, slots := 0, locals := 85 }
set_option maxHeartbeats 4000000 in
set_option maxRecDepth 100000 in
/-- divideSlots -/
theorem t_X2_divideSlots (l : Launch) (D : va_G) (kA : Nat → ClassId) (sz : Nat) (f0 : mw_M) {d sl pa : Nat} {w ra : Nat → Nat} {Y : Nat → Int} {a b : Int} (hD : DK kA f0 d sl pa w ra Y) (hB : ∀ i, i < 16 → ((Y i).natAbs : Int) < 1000000 ^ 50) (ha : -2147483648 ≤ a ∧ a ≤ 2147483647) (hb : -2147483648 ≤ b ∧ b ≤ 2147483647) : mw_Mi l yX2_divideSlots (Cond.code yX2_divideSlots cX2_divideSlots 3 ((some .boolean)) :: gw) rm_X2_divideSlots D vwCl (tyL kA) st_S [.ref d, .int (iI (a)), .int (iI (b))] f0 sz (fun v f => v = iI (if sOk a ∧ sOk b ∧ Y b.toNat ≠ 0 then 1 else 0) ∧ (∃ Y', DK kA f d sl pa w ra Y' ∧ (∀ i, i < 16 → Y' i = Y i) ∧ (sOk a ∧ sOk b ∧ Y b.toNat ≠ 0 → Y' 16 = (Y a.toNat).tmod (Y b.toNat) ∧ Y' 20 = (Y a.toNat).tdiv (Y b.toNat))) ∧ ∀ k, ¬ dks d sl pa w ra k → f k = f0 k) 0 0 := by
  refine mw_ofi (cc := cX2_divideSlots) (maxL := 3) (ret := (some .boolean)) (by decide) rfl (Nat.le_of_ble_eq_true rfl) ?_
  intro p e s m below meth c A ls Q hQ B hrt hnm hA hI hSt hl
  have hl : lv_has ls 3 [(0, .ref d), (1, .int (iI (a))), (2, .int (iI (b)))] := hl
  obtain ⟨f, hI, hf⟩ : ∃ f, mw_I D vwCl A s s.heap [] f ∧ f = f0 := ⟨f0, hI, rfl⟩
  rw [← hf] at hD
  have ho : ∀ k, ¬ dks d sl pa w ra k → f k = f0 k := fun k _ => by rw [hf]
  have hsl : ∀ i, i < 16 → Y i = Y i := fun _ _ => rfl
  refine mv_iload_n B dX2_divideSlots_0 rfl (lv_at hl 1 rfl) ?_
  refine mv_iload_n B dX2_divideSlots_1 rfl (lv_at hl 2 rfl) ?_
  refine mw_calli hI hA (va_runS (As := [.int (iI (a)), .int (iI (b))]) (rest := []) B.fix (t_X2_areSlots l D kA s.heap.size f ha hb) (cwS 2 B.2.2.2.2.1 (gS kw_163 kw_164 kw_1 kw_165) rfl rfl rfl (by decide +kernel) ⟨Nat.le_of_ble_eq_true rfl, Nat.le_of_ble_eq_true rfl⟩) ⟨mw_blind st_S.blind, mw_pre B hI (hSt.call hI hA)⟩ rfl rfl hl.1 rfl (lv_room (Nat.le_of_ble_eq_true rfl)) dX2_divideSlots_2 ⟨Nat.le_of_ble_eq_true rfl, Nat.le_of_ble_eq_true rfl⟩) (fun r f H locs hp hI2 => ?_)
  clear hI
  have hI := hI2
  clear hI2
  obtain ⟨rfl, rfl⟩ := hp
  refine mv_if_eq (tgt := 20) B dX2_divideSlots_5 (by decide) (by split <;> omega) (fun hc => ?_) (fun hc => ?_)
  · have h1 : ¬ (sOk a ∧ sOk b) := fun q => by rw [if_pos q] at hc; exact absurd hc (by decide)
    refine mv_iconst B dX2_divideSlots_20 ?_
    exact mw_zret B hQ hrt (by decide) hI ⟨by rw [if_neg (fun q => h1 ⟨q.1, q.2.1⟩)], ⟨_, hD, hsl, fun q => absurd q (fun q => h1 ⟨q.1, q.2.1⟩)⟩, ho⟩ dX2_divideSlots_21
  · have h1 : sOk a ∧ sOk b := by
      by_cases q : sOk a ∧ sOk b
      · exact q
      · rw [if_neg q] at hc; exact absurd rfl hc
    refine mv_aload_n B dX2_divideSlots_8 rfl (lv_at hl 0 rfl) ?_
    refine mw_get (C := RX2) (T := TX2) (N := 7) B hI hD.1 uin_X2 rfl 0 (by decide) kw_67 rfl dX2_divideSlots_9 ?_
    refine mv_iload_n B dX2_divideSlots_12 rfl (lv_at hl 2 rfl) ?_
    obtain ⟨gs, hs1, hs2⟩ := hD.2.1
    refine mw_aald B hI 1 hs1 rfl (b.toNat) (by omega) (by omega) (by decide) (hs2 _ (by omega)) dX2_divideSlots_13 ?_
    obtain ⟨g, n, b_, c1, c2, c3_⟩ := id (hD.rp (i := b.toNat) (by omega))
    have m1 := c3_.1
    have hz0 := c3_.zero
    refine mw_calli hI hA (va_runV (As := []) (rest := []) B.fix (t_X1_isZero l D kA H.size f c1 (by omega)) (cwV 0 B.2.2.2.2.1 (gV kw_190 kw_191 kw_192 kw_2 kw_193) rfl rfl rfl (by decide +kernel) ⟨Nat.le_of_ble_eq_true rfl, Nat.le_of_ble_eq_true rfl⟩) ⟨mw_blind st_S.blind, mw_recv B hI c1 rfl, mw_pre B hI (hSt.call hI hA)⟩ rfl rfl hl.1 rfl (lv_room (Nat.le_of_ble_eq_true rfl)) dX2_divideSlots_14 ⟨Nat.le_of_ble_eq_true rfl, Nat.le_of_ble_eq_true rfl⟩) (fun r f H locs hp hI2 => ?_)
    clear hI
    have hI := hI2
    clear hI2
    obtain ⟨rfl, rfl⟩ := hp
    refine mv_if_eq (tgt := 22) B dX2_divideSlots_17 (by decide) (by split <;> omega) (fun hc2 => ?_) (fun hc2 => ?_)
    · have hnz : Y b.toNat ≠ 0 := fun q => by rw [if_pos (by have := hz0.mp q; omega)] at hc2; exact absurd hc2 (by decide)
      have ba := hB a.toNat (by omega)
      have b5 := b50
      refine mv_aload_n B dX2_divideSlots_22 rfl (lv_at hl 0 rfl) ?_
      refine mw_get (C := RX2) (T := TX2) (N := 7) B hI hD.1 uin_X2 rfl 1 (by decide) kw_68 rfl dX2_divideSlots_23 ?_
      refine mv_aload_n B dX2_divideSlots_26 rfl (lv_at hl 0 rfl) ?_
      refine mw_get (C := RX2) (T := TX2) (N := 7) B hI hD.1 uin_X2 rfl 0 (by decide) kw_67 rfl dX2_divideSlots_27 ?_
      refine mv_iload_n B dX2_divideSlots_30 rfl (lv_at hl 1 rfl) ?_
      obtain ⟨gs, hs1, hs2⟩ := hD.2.1
      refine mw_aald B hI 1 hs1 rfl (a.toNat) (by omega) (by omega) (by decide) (hs2 _ (by omega)) dX2_divideSlots_31 ?_
      obtain ⟨_, _, _, cc, -, -⟩ := id (hD.rp (i := 16) (by omega))
      refine mw_callv hI hA (va_runV (As := [.ref ((w (a.toNat)))]) (rest := []) B.fix (t_X1_take l D kA H.size f (hD.rp (i := 16) (by omega)).w (hD.rp (i := a.toNat) (by omega)) (Or.inr (hD.ne (i := a.toNat) (j := 16) (by omega) (by omega) (by omega)))) (cwV 1 B.2.2.2.2.1 (gV kw_152 kw_153 kw_154 kw_2 kw_155) rfl rfl rfl (by decide +kernel) ⟨Nat.le_of_ble_eq_true rfl, Nat.le_of_ble_eq_true rfl⟩) ⟨mw_blind st_S.blind, mw_recv B hI cc rfl, mw_pre B hI (hSt.call hI hA)⟩ rfl rfl hl.1 rfl (lv_room (Nat.le_of_ble_eq_true rfl)) dX2_divideSlots_32 ⟨Nat.le_of_ble_eq_true rfl, Nat.le_of_ble_eq_true rfl⟩) (fun f H locs hp hI2 => ?_)
      clear hI
      have hI := hI2
      clear hI2
      obtain ⟨hR, o1⟩ := hp
      have ho : ∀ k, ¬ dks d sl pa w ra k → f k = f0 k := fun k h => (o1 k (dks_w h (show 16 < 24 by omega)).1 (dks_w h (show 16 < 24 by omega)).2).trans (ho k h)
      obtain ⟨Y1, hY1, hD⟩ : ∃ Z, Z = upI Y (16) (Y (a.toNat)) ∧ DK kA f d sl pa w ra Z := ⟨_, rfl, hD.upd (t := 16) (by omega) hR o1⟩
      have v1 : Y1 (16) = Y (a.toNat) := by rw [hY1, upI_self]
      have r1 : ∀ i, i ≠ 16 → Y1 i = Y i := fun i hi => by rw [hY1, upI_ne _ _ hi]
      have hsl : ∀ i, i < 16 → Y1 i = Y i := fun i hi => (r1 i (by omega)).trans (hsl i hi)
      refine mv_aload_n B dX2_divideSlots_35 rfl (lv_at hl 0 rfl) ?_
      refine mw_get (C := RX2) (T := TX2) (N := 7) B hI hD.1 uin_X2 rfl 1 (by decide) kw_68 rfl dX2_divideSlots_36 ?_
      refine mv_aload_n B dX2_divideSlots_39 rfl (lv_at hl 0 rfl) ?_
      refine mw_get (C := RX2) (T := TX2) (N := 7) B hI hD.1 uin_X2 rfl 0 (by decide) kw_67 rfl dX2_divideSlots_40 ?_
      refine mv_iload_n B dX2_divideSlots_43 rfl (lv_at hl 2 rfl) ?_
      obtain ⟨gs, hs1, hs2⟩ := hD.2.1
      refine mw_aald B hI 1 hs1 rfl (b.toNat) (by omega) (by omega) (by decide) (hs2 _ (by omega)) dX2_divideSlots_44 ?_
      refine mv_aload_n B dX2_divideSlots_45 rfl (lv_at hl 0 rfl) ?_
      refine mw_get (C := RX2) (T := TX2) (N := 7) B hI hD.1 uin_X2 rfl 5 (by decide) kw_72 rfl dX2_divideSlots_46 ?_
      obtain ⟨_, _, _, cc, -, -⟩ := id (hD.rp (i := 16) (by omega))
      refine mw_callv hI hA (va_runV (As := [.ref ((w (b.toNat))), .ref ((w 20))]) (rest := []) B.fix (t_X1_divideBy l D kA H.size f (hD.rp (i := 16) (by omega)) (hD.rp (i := b.toNat) (by omega)) (hD.rp (i := 20) (by omega)).w (hD.ne (i := b.toNat) (j := 16) (by omega) (by omega) (by omega)).1 (hD.ne (i := b.toNat) (j := 16) (by omega) (by omega) (by omega)).2 (hD.ne (i := 20) (j := 16) (by omega) (by omega) (by omega)).1 (hD.ne (i := 20) (j := 16) (by omega) (by omega) (by omega)).2 (hD.ne (i := 20) (j := b.toNat) (by omega) (by omega) (by omega)).1 (hD.ne (i := 20) (j := b.toNat) (by omega) (by omega) (by omega)).2 (by rw [hsl _ (by omega)]; exact hnz) (by rw [v1]; omega)) (cwV 2 B.2.2.2.2.1 (gV kw_194 kw_195 kw_196 kw_2 kw_197) rfl rfl rfl (by decide +kernel) ⟨Nat.le_of_ble_eq_true rfl, Nat.le_of_ble_eq_true rfl⟩) ⟨mw_blind st_S.blind, mw_recv B hI cc rfl, mw_pre B hI (hSt.call hI hA)⟩ rfl rfl hl.1 rfl (lv_room (Nat.le_of_ble_eq_true rfl)) dX2_divideSlots_49 ⟨Nat.le_of_ble_eq_true rfl, Nat.le_of_ble_eq_true rfl⟩) (fun f H locs hp hI2 => ?_)
      clear hI
      have hI := hI2
      clear hI2
      obtain ⟨hR, hR2, o1⟩ := hp
      have ho : ∀ k, ¬ dks d sl pa w ra k → f k = f0 k := fun k h => (o1 k (dks_w h (show 16 < 24 by omega)).1 (dks_w h (show 16 < 24 by omega)).2 (dks_w h (show 20 < 24 by omega)).1 (dks_w h (show 20 < 24 by omega)).2).trans (ho k h)
      obtain ⟨Y2, hY2, hD⟩ : ∃ Z, Z = upI (upI Y1 (16) ((Y1 (16)).tmod (Y1 (b.toNat)))) (20) ((Y1 (16)).tdiv (Y1 (b.toNat))) ∧ DK kA f d sl pa w ra Z := ⟨_, rfl, hD.upd2 (t := 16) (u := 20) (by omega) (by omega) (by omega) hR hR2 o1⟩
      have v2 : Y2 (16) = (Y1 (16)).tmod (Y1 (b.toNat)) := by rw [hY2, upI_ne _ _ (by omega), upI_self]
      have u2 : Y2 (20) = (Y1 (16)).tdiv (Y1 (b.toNat)) := by rw [hY2, upI_self]
      have r2 : ∀ i, i ≠ 16 → i ≠ 20 → Y2 i = Y1 i := fun i hi hj => by rw [hY2, upI_ne _ _ hj, upI_ne _ _ hi]
      have hsl : ∀ i, i < 16 → Y2 i = Y i := fun i hi => (r2 i (by omega) (by omega)).trans (hsl i hi)
      have e1 : Y1 b.toNat = Y b.toNat := r1 _ (by omega)
      rw [v1, e1] at v2 u2
      refine mv_iconst B dX2_divideSlots_52 ?_
      exact mw_zret B hQ hrt (by decide) hI ⟨by rw [if_pos ⟨h1.1, h1.2, hnz⟩], ⟨_, hD, hsl, fun _ => ⟨v2, u2⟩⟩, ho⟩ dX2_divideSlots_53
    · have hzz : Y b.toNat = 0 := by
        by_cases q : (n : Int) = 0
        · exact hz0.mpr (by omega)
        · rw [if_neg q] at hc2; exact absurd rfl hc2
      refine mv_iconst B dX2_divideSlots_20 ?_
      exact mw_zret B hQ hrt (by decide) hI ⟨by rw [if_neg (fun q => q.2.2 hzz)], ⟨_, hD, hsl, fun q => absurd q (fun q => q.2.2 hzz)⟩, ho⟩ dX2_divideSlots_21
abbrev rm_X2_over : Room := { frames := 4, cells := 0, slots := 0, locals := 107 }
set_option maxHeartbeats 4000000 in
set_option maxRecDepth 100000 in
/-- over -/
theorem t_X2_over (l : Launch) (D : va_G) (kA : Nat → ClassId) (sz : Nat) (f0 : mw_M) {d sl pa : Nat} {w ra : Nat → Nat} {Y : Nat → Int} {a b t : Int} (hD : DK kA f0 d sl pa w ra Y) (hB : ∀ i, i < 16 → ((Y i).natAbs : Int) < 1000000 ^ 50) (ha : -2147483648 ≤ a ∧ a ≤ 2147483647) (hb : -2147483648 ≤ b ∧ b ≤ 2147483647) (ht : -2147483648 ≤ t ∧ t ≤ 2147483647) : mw_Mi l yX2_over (Cond.code yX2_over cX2_over 4 ((some .int)) :: gw) rm_X2_over D vwCl (tyL kA) st_S [.ref d, .int (iI (a)), .int (iI (b)), .int (iI (t))] f0 sz (fun v f => v = iI (sp_over Y a b t).1 ∧ (∃ Y', DK kA f d sl pa w ra Y' ∧ ∀ i, i < 16 → Y' i = (sp_over Y a b t).2 i) ∧ ∀ k, ¬ dks d sl pa w ra k → f k = f0 k) 0 0 := by
  refine mw_ofi (cc := cX2_over) (maxL := 4) (ret := (some .int)) (by decide) rfl (Nat.le_of_ble_eq_true rfl) ?_
  intro p e s m below meth c A ls Q hQ B hrt hnm hA hI hSt hl
  have hl : lv_has ls 4 [(0, .ref d), (1, .int (iI (a))), (2, .int (iI (b))), (3, .int (iI (t)))] := hl
  obtain ⟨f, hI, hf⟩ : ∃ f, mw_I D vwCl A s s.heap [] f ∧ f = f0 := ⟨f0, hI, rfl⟩
  rw [← hf] at hD
  have ho : ∀ k, ¬ dks d sl pa w ra k → f k = f0 k := fun k _ => by rw [hf]
  have hsl : ∀ i, i < 16 → Y i = Y i := fun _ _ => rfl
  refine mv_iload_n B dX2_over_0 rfl (lv_at hl 3 rfl) ?_
  refine mw_calli hI hA (va_runS (As := [.int (iI (t))]) (rest := []) B.fix (t_X2_isSlot l D kA s.heap.size f ht) (cwS 1 B.2.2.2.2.1 (gS kw_93 kw_94 kw_1 kw_95) rfl rfl rfl (by decide +kernel) ⟨Nat.le_of_ble_eq_true rfl, Nat.le_of_ble_eq_true rfl⟩) ⟨mw_blind st_S.blind, mw_pre B hI (hSt.call hI hA)⟩ rfl rfl hl.1 rfl (lv_room (Nat.le_of_ble_eq_true rfl)) dX2_over_1 ⟨Nat.le_of_ble_eq_true rfl, Nat.le_of_ble_eq_true rfl⟩) (fun r f H locs hp hI2 => ?_)
  clear hI
  have hI := hI2
  clear hI2
  obtain ⟨rfl, rfl⟩ := hp
  refine mv_if_eq (tgt := 16) B dX2_over_4 (by decide) (by split <;> omega) (fun hc => ?_) (fun hc => ?_)
  · have h1 : ¬ (sOk t) := fun q => by rw [if_pos q] at hc; exact absurd hc (by decide)
    refine mv_iconst B dX2_over_16 ?_
    have e9 : sp_over Y a b t = (-1, Y) := by unfold sp_over; rw [if_neg (fun q => h1 q.2.2.1)]
    exact mw_iret B hQ hrt hI ⟨by rw [e9], ⟨_, hD, fun i hi => (hsl i hi).trans (by rw [e9])⟩, ho⟩ dX2_over_17
  · have h1 : sOk t := by
      by_cases q : sOk t
      · exact q
      · rw [if_neg q] at hc; exact absurd rfl hc
    refine mv_aload_n B dX2_over_7 rfl (lv_at hl 0 rfl) ?_
    refine mv_iload_n B dX2_over_8 rfl (lv_at hl 1 rfl) ?_
    refine mv_iload_n B dX2_over_9 rfl (lv_at hl 2 rfl) ?_
    refine mw_calli hI hA (va_runV (As := [.int (iI (a)), .int (iI (b))]) (rest := []) B.fix (t_X2_divideSlots l D kA H.size f hD hB ha hb) (cwV 2 B.2.2.2.2.1 (gV kw_186 kw_188 ks_4 kw_1 kw_189) rfl rfl rfl (by decide +kernel) ⟨Nat.le_of_ble_eq_true rfl, Nat.le_of_ble_eq_true rfl⟩) ⟨mw_blind st_S.blind, mw_recv B hI hD.1 rfl, mw_pre B hI (hSt.call hI hA)⟩ rfl rfl hl.1 rfl (lv_room (Nat.le_of_ble_eq_true rfl)) dX2_over_10 ⟨Nat.le_of_ble_eq_true rfl, Nat.le_of_ble_eq_true rfl⟩) (fun r f H locs hp hI2 => ?_)
    clear hI
    have hI := hI2
    clear hI2
    obtain ⟨rfl, ⟨Y1, hD, hsl, hv⟩, o1⟩ := hp
    have ho : ∀ k, ¬ dks d sl pa w ra k → f k = f0 k := fun k h => (o1 k h).trans (ho k h)
    refine mv_if_ne (tgt := 18) B dX2_over_13 (by decide) (by split <;> omega) (fun hc2 => ?_) (fun hc2 => ?_)
    · have h2 : sOk a ∧ sOk b ∧ Y b.toNat ≠ 0 := by
        by_cases q : sOk a ∧ sOk b ∧ Y b.toNat ≠ 0
        · exact q
        · rw [if_neg q] at hc2; exact absurd rfl hc2
      have hv := hv h2
      refine mv_aload_n B dX2_over_18 rfl (lv_at hl 0 rfl) ?_
      refine mv_aload_n B dX2_over_19 rfl (lv_at hl 0 rfl) ?_
      refine mw_get (C := RX2) (T := TX2) (N := 7) B hI hD.1 uin_X2 rfl 5 (by decide) kw_72 rfl dX2_over_20 ?_
      refine mv_iload_n B dX2_over_23 rfl (lv_at hl 3 rfl) ?_
      refine mw_calli hI hA (va_runV (As := [.ref ((w 20)), .int (iI (t))]) (rest := []) B.fix (t_X2_keep l D kA H.size f (t := 20) hD (fun i hi => by rw [hsl i hi]; exact hB i hi) (by omega) h1) (cwV 2 B.2.2.2.2.1 (gV kw_144 kw_146 ks_2 kw_1 kw_147) rfl rfl rfl (by decide +kernel) ⟨Nat.le_of_ble_eq_true rfl, Nat.le_of_ble_eq_true rfl⟩) ⟨mw_blind st_S.blind, mw_recv B hI hD.1 rfl, mw_pre B hI (hSt.call hI hA)⟩ rfl rfl hl.1 rfl (lv_room (Nat.le_of_ble_eq_true rfl)) dX2_over_24 ⟨Nat.le_of_ble_eq_true rfl, Nat.le_of_ble_eq_true rfl⟩) (fun r f H locs hp hI2 => ?_)
      clear hI
      have hI := hI2
      clear hI2
      obtain ⟨rfl, hD, o1⟩ := hp
      have ho : ∀ k, ¬ dks d sl pa w ra k → f k = f0 k := fun k h => (o1 k h).trans (ho k h)
      have e9 : sp_over Y a b t = kp Y (t) ((Y a.toNat).tdiv (Y b.toNat)) := by unfold sp_over; rw [if_pos ⟨h2.1, h2.2.1, h1, h2.2.2⟩]
      have e7 : Y1 (20) = (Y a.toNat).tdiv (Y b.toNat) := by exact hv.2
      have e8 := kp_same (x := t) e7 hsl
      exact mw_iret B hQ hrt hI ⟨(congrArg iI e8.1).trans (by rw [e9]), ⟨_, hD, fun i hi => (e8.2 i hi).trans (by rw [e9])⟩, ho⟩ dX2_over_27
    · have h2 : ¬ (sOk a ∧ sOk b ∧ Y b.toNat ≠ 0) := fun q => by rw [if_pos q] at hc2; exact absurd hc2 (by decide)
      refine mv_iconst B dX2_over_16 ?_
      have e9 : sp_over Y a b t = (-1, Y) := by unfold sp_over; rw [if_neg (fun q => h2 ⟨q.1, q.2.1, q.2.2.2⟩)]
      exact mw_iret B hQ hrt hI ⟨by rw [e9], ⟨_, hD, fun i hi => (hsl i hi).trans (by rw [e9])⟩, ho⟩ dX2_over_17
abbrev rm_X2_left : Room := { frames := 4, cells := 0, slots := 0, locals := 107 }
set_option maxHeartbeats 4000000 in
set_option maxRecDepth 100000 in
/-- left -/
theorem t_X2_left (l : Launch) (D : va_G) (kA : Nat → ClassId) (sz : Nat) (f0 : mw_M) {d sl pa : Nat} {w ra : Nat → Nat} {Y : Nat → Int} {a b t : Int} (hD : DK kA f0 d sl pa w ra Y) (hB : ∀ i, i < 16 → ((Y i).natAbs : Int) < 1000000 ^ 50) (ha : -2147483648 ≤ a ∧ a ≤ 2147483647) (hb : -2147483648 ≤ b ∧ b ≤ 2147483647) (ht : -2147483648 ≤ t ∧ t ≤ 2147483647) : mw_Mi l yX2_left (Cond.code yX2_left cX2_left 4 ((some .int)) :: gw) rm_X2_left D vwCl (tyL kA) st_S [.ref d, .int (iI (a)), .int (iI (b)), .int (iI (t))] f0 sz (fun v f => v = iI (sp_left Y a b t).1 ∧ (∃ Y', DK kA f d sl pa w ra Y' ∧ ∀ i, i < 16 → Y' i = (sp_left Y a b t).2 i) ∧ ∀ k, ¬ dks d sl pa w ra k → f k = f0 k) 0 0 := by
  refine mw_ofi (cc := cX2_left) (maxL := 4) (ret := (some .int)) (by decide) rfl (Nat.le_of_ble_eq_true rfl) ?_
  intro p e s m below meth c A ls Q hQ B hrt hnm hA hI hSt hl
  have hl : lv_has ls 4 [(0, .ref d), (1, .int (iI (a))), (2, .int (iI (b))), (3, .int (iI (t)))] := hl
  obtain ⟨f, hI, hf⟩ : ∃ f, mw_I D vwCl A s s.heap [] f ∧ f = f0 := ⟨f0, hI, rfl⟩
  rw [← hf] at hD
  have ho : ∀ k, ¬ dks d sl pa w ra k → f k = f0 k := fun k _ => by rw [hf]
  have hsl : ∀ i, i < 16 → Y i = Y i := fun _ _ => rfl
  refine mv_iload_n B dX2_left_0 rfl (lv_at hl 3 rfl) ?_
  refine mw_calli hI hA (va_runS (As := [.int (iI (t))]) (rest := []) B.fix (t_X2_isSlot l D kA s.heap.size f ht) (cwS 1 B.2.2.2.2.1 (gS kw_93 kw_94 kw_1 kw_95) rfl rfl rfl (by decide +kernel) ⟨Nat.le_of_ble_eq_true rfl, Nat.le_of_ble_eq_true rfl⟩) ⟨mw_blind st_S.blind, mw_pre B hI (hSt.call hI hA)⟩ rfl rfl hl.1 rfl (lv_room (Nat.le_of_ble_eq_true rfl)) dX2_left_1 ⟨Nat.le_of_ble_eq_true rfl, Nat.le_of_ble_eq_true rfl⟩) (fun r f H locs hp hI2 => ?_)
  clear hI
  have hI := hI2
  clear hI2
  obtain ⟨rfl, rfl⟩ := hp
  refine mv_if_eq (tgt := 16) B dX2_left_4 (by decide) (by split <;> omega) (fun hc => ?_) (fun hc => ?_)
  · have h1 : ¬ (sOk t) := fun q => by rw [if_pos q] at hc; exact absurd hc (by decide)
    refine mv_iconst B dX2_left_16 ?_
    have e9 : sp_left Y a b t = (-1, Y) := by unfold sp_left; rw [if_neg (fun q => h1 q.2.2.1)]
    exact mw_iret B hQ hrt hI ⟨by rw [e9], ⟨_, hD, fun i hi => (hsl i hi).trans (by rw [e9])⟩, ho⟩ dX2_left_17
  · have h1 : sOk t := by
      by_cases q : sOk t
      · exact q
      · rw [if_neg q] at hc; exact absurd rfl hc
    refine mv_aload_n B dX2_left_7 rfl (lv_at hl 0 rfl) ?_
    refine mv_iload_n B dX2_left_8 rfl (lv_at hl 1 rfl) ?_
    refine mv_iload_n B dX2_left_9 rfl (lv_at hl 2 rfl) ?_
    refine mw_calli hI hA (va_runV (As := [.int (iI (a)), .int (iI (b))]) (rest := []) B.fix (t_X2_divideSlots l D kA H.size f hD hB ha hb) (cwV 2 B.2.2.2.2.1 (gV kw_186 kw_188 ks_4 kw_1 kw_189) rfl rfl rfl (by decide +kernel) ⟨Nat.le_of_ble_eq_true rfl, Nat.le_of_ble_eq_true rfl⟩) ⟨mw_blind st_S.blind, mw_recv B hI hD.1 rfl, mw_pre B hI (hSt.call hI hA)⟩ rfl rfl hl.1 rfl (lv_room (Nat.le_of_ble_eq_true rfl)) dX2_left_10 ⟨Nat.le_of_ble_eq_true rfl, Nat.le_of_ble_eq_true rfl⟩) (fun r f H locs hp hI2 => ?_)
    clear hI
    have hI := hI2
    clear hI2
    obtain ⟨rfl, ⟨Y1, hD, hsl, hv⟩, o1⟩ := hp
    have ho : ∀ k, ¬ dks d sl pa w ra k → f k = f0 k := fun k h => (o1 k h).trans (ho k h)
    refine mv_if_ne (tgt := 18) B dX2_left_13 (by decide) (by split <;> omega) (fun hc2 => ?_) (fun hc2 => ?_)
    · have h2 : sOk a ∧ sOk b ∧ Y b.toNat ≠ 0 := by
        by_cases q : sOk a ∧ sOk b ∧ Y b.toNat ≠ 0
        · exact q
        · rw [if_neg q] at hc2; exact absurd rfl hc2
      have hv := hv h2
      refine mv_aload_n B dX2_left_18 rfl (lv_at hl 0 rfl) ?_
      refine mv_aload_n B dX2_left_19 rfl (lv_at hl 0 rfl) ?_
      refine mw_get (C := RX2) (T := TX2) (N := 7) B hI hD.1 uin_X2 rfl 1 (by decide) kw_68 rfl dX2_left_20 ?_
      refine mv_iload_n B dX2_left_23 rfl (lv_at hl 3 rfl) ?_
      refine mw_calli hI hA (va_runV (As := [.ref ((w 16)), .int (iI (t))]) (rest := []) B.fix (t_X2_keep l D kA H.size f (t := 16) hD (fun i hi => by rw [hsl i hi]; exact hB i hi) (by omega) h1) (cwV 2 B.2.2.2.2.1 (gV kw_144 kw_146 ks_2 kw_1 kw_147) rfl rfl rfl (by decide +kernel) ⟨Nat.le_of_ble_eq_true rfl, Nat.le_of_ble_eq_true rfl⟩) ⟨mw_blind st_S.blind, mw_recv B hI hD.1 rfl, mw_pre B hI (hSt.call hI hA)⟩ rfl rfl hl.1 rfl (lv_room (Nat.le_of_ble_eq_true rfl)) dX2_left_24 ⟨Nat.le_of_ble_eq_true rfl, Nat.le_of_ble_eq_true rfl⟩) (fun r f H locs hp hI2 => ?_)
      clear hI
      have hI := hI2
      clear hI2
      obtain ⟨rfl, hD, o1⟩ := hp
      have ho : ∀ k, ¬ dks d sl pa w ra k → f k = f0 k := fun k h => (o1 k h).trans (ho k h)
      have e9 : sp_left Y a b t = kp Y (t) ((Y a.toNat).tmod (Y b.toNat)) := by unfold sp_left; rw [if_pos ⟨h2.1, h2.2.1, h1, h2.2.2⟩]
      have e7 : Y1 (16) = (Y a.toNat).tmod (Y b.toNat) := by exact hv.1
      have e8 := kp_same (x := t) e7 hsl
      exact mw_iret B hQ hrt hI ⟨(congrArg iI e8.1).trans (by rw [e9]), ⟨_, hD, fun i hi => (e8.2 i hi).trans (by rw [e9])⟩, ho⟩ dX2_left_27
    · have h2 : ¬ (sOk a ∧ sOk b ∧ Y b.toNat ≠ 0) := fun q => by rw [if_pos q] at hc2; exact absurd hc2 (by decide)
      refine mv_iconst B dX2_left_16 ?_
      have e9 : sp_left Y a b t = (-1, Y) := by unfold sp_left; rw [if_neg (fun q => h2 ⟨q.1, q.2.1, q.2.2.2⟩)]
      exact mw_iret B hQ hrt hI ⟨by rw [e9], ⟨_, hD, fun i hi => (hsl i hi).trans (by rw [e9])⟩, ho⟩ dX2_left_17
abbrev rm_X2_divisor : Room := { frames := 4, cells := 0, slots := 0, locals := 108 }
set_option maxHeartbeats 4000000 in
set_option maxRecDepth 100000 in
/-- divisor -/
theorem t_X2_divisor (l : Launch) (D : va_G) (kA : Nat → ClassId) (sz : Nat) (f0 : mw_M) {d sl pa : Nat} {w ra : Nat → Nat} {Y : Nat → Int} {a b t : Int} (hD : DK kA f0 d sl pa w ra Y) (hB : ∀ i, i < 16 → ((Y i).natAbs : Int) < 1000000 ^ 50) (ha : -2147483648 ≤ a ∧ a ≤ 2147483647) (hb : -2147483648 ≤ b ∧ b ≤ 2147483647) (ht : -2147483648 ≤ t ∧ t ≤ 2147483647) : mw_Mi l yX2_divisor (Cond.code yX2_divisor cX2_divisor 4 ((some .int)) :: gw) rm_X2_divisor D vwCl (tyL kA) st_S [.ref d, .int (iI (a)), .int (iI (b)), .int (iI (t))] f0 sz (fun v f => v = iI (sp_divisor Y a b t).1 ∧ (∃ Y', DK kA f d sl pa w ra Y' ∧ ∀ i, i < 16 → Y' i = (sp_divisor Y a b t).2 i) ∧ ∀ k, ¬ dks d sl pa w ra k → f k = f0 k) 0 0 := by
  refine mw_ofi (cc := cX2_divisor) (maxL := 4) (ret := (some .int)) (by decide) rfl (Nat.le_of_ble_eq_true rfl) ?_
  intro p e s m below meth c A ls Q hQ B hrt hnm hA hI hSt hl
  have hl : lv_has ls 4 [(0, .ref d), (1, .int (iI (a))), (2, .int (iI (b))), (3, .int (iI (t)))] := hl
  obtain ⟨f, hI, hf⟩ : ∃ f, mw_I D vwCl A s s.heap [] f ∧ f = f0 := ⟨f0, hI, rfl⟩
  rw [← hf] at hD
  have ho : ∀ k, ¬ dks d sl pa w ra k → f k = f0 k := fun k _ => by rw [hf]
  have hsl : ∀ i, i < 16 → Y i = Y i := fun _ _ => rfl
  refine mv_iload_n B dX2_divisor_0 rfl (lv_at hl 1 rfl) ?_
  refine mv_iload_n B dX2_divisor_1 rfl (lv_at hl 2 rfl) ?_
  refine mw_calli hI hA (va_runS (As := [.int (iI (a)), .int (iI (b))]) (rest := []) B.fix (t_X2_areSlots l D kA s.heap.size f ha hb) (cwS 2 B.2.2.2.2.1 (gS kw_163 kw_164 kw_1 kw_165) rfl rfl rfl (by decide +kernel) ⟨Nat.le_of_ble_eq_true rfl, Nat.le_of_ble_eq_true rfl⟩) ⟨mw_blind st_S.blind, mw_pre B hI (hSt.call hI hA)⟩ rfl rfl hl.1 rfl (lv_room (Nat.le_of_ble_eq_true rfl)) dX2_divisor_2 ⟨Nat.le_of_ble_eq_true rfl, Nat.le_of_ble_eq_true rfl⟩) (fun r f H locs hp hI2 => ?_)
  clear hI
  have hI := hI2
  clear hI2
  obtain ⟨rfl, rfl⟩ := hp
  refine mv_if_eq (tgt := 15) B dX2_divisor_5 (by decide) (by split <;> omega) (fun hc => ?_) (fun hc => ?_)
  · have h1 : ¬ (sOk a ∧ sOk b) := fun q => by rw [if_pos q] at hc; exact absurd hc (by decide)
    refine mv_iconst B dX2_divisor_15 ?_
    have e9 : sp_divisor Y a b t = (-1, Y) := by unfold sp_divisor; rw [if_neg (fun q => h1 ⟨q.1, q.2.1⟩)]
    exact mw_iret B hQ hrt hI ⟨by rw [e9], ⟨_, hD, fun i hi => (hsl i hi).trans (by rw [e9])⟩, ho⟩ dX2_divisor_16
  · have h1 : sOk a ∧ sOk b := by
      by_cases q : sOk a ∧ sOk b
      · exact q
      · rw [if_neg q] at hc; exact absurd rfl hc
    refine mv_iload_n B dX2_divisor_8 rfl (lv_at hl 3 rfl) ?_
    refine mw_calli hI hA (va_runS (As := [.int (iI (t))]) (rest := []) B.fix (t_X2_isSlot l D kA H.size f ht) (cwS 1 B.2.2.2.2.1 (gS kw_93 kw_94 kw_1 kw_95) rfl rfl rfl (by decide +kernel) ⟨Nat.le_of_ble_eq_true rfl, Nat.le_of_ble_eq_true rfl⟩) ⟨mw_blind st_S.blind, mw_pre B hI (hSt.call hI hA)⟩ rfl rfl hl.1 rfl (lv_room (Nat.le_of_ble_eq_true rfl)) dX2_divisor_9 ⟨Nat.le_of_ble_eq_true rfl, Nat.le_of_ble_eq_true rfl⟩) (fun r f H locs hp hI2 => ?_)
    clear hI
    have hI := hI2
    clear hI2
    obtain ⟨rfl, rfl⟩ := hp
    refine mv_if_ne (tgt := 17) B dX2_divisor_12 (by decide) (by split <;> omega) (fun hc2 => ?_) (fun hc2 => ?_)
    · have h2 : sOk t := by
        by_cases q : sOk t
        · exact q
        · rw [if_neg q] at hc2; exact absurd rfl hc2
      have ba := hB a.toNat (by omega)
      have bb := hB b.toNat (by omega)
      have b5 := b50
      refine mv_aload_n B dX2_divisor_17 rfl (lv_at hl 0 rfl) ?_
      refine mv_aload_n B dX2_divisor_18 rfl (lv_at hl 0 rfl) ?_
      refine mw_get (C := RX2) (T := TX2) (N := 7) B hI hD.1 uin_X2 rfl 6 (by decide) kw_73 rfl dX2_divisor_19 ?_
      refine mv_aload_n B dX2_divisor_22 rfl (lv_at hl 0 rfl) ?_
      refine mw_get (C := RX2) (T := TX2) (N := 7) B hI hD.1 uin_X2 rfl 0 (by decide) kw_67 rfl dX2_divisor_23 ?_
      refine mv_iload_n B dX2_divisor_26 rfl (lv_at hl 1 rfl) ?_
      obtain ⟨gs, hs1, hs2⟩ := hD.2.1
      refine mw_aald B hI 1 hs1 rfl (a.toNat) (by omega) (by omega) (by decide) (hs2 _ (by omega)) dX2_divisor_27 ?_
      refine mv_aload_n B dX2_divisor_28 rfl (lv_at hl 0 rfl) ?_
      refine mw_get (C := RX2) (T := TX2) (N := 7) B hI hD.1 uin_X2 rfl 0 (by decide) kw_67 rfl dX2_divisor_29 ?_
      refine mv_iload_n B dX2_divisor_32 rfl (lv_at hl 2 rfl) ?_
      obtain ⟨gs, hs1, hs2⟩ := hD.2.1
      refine mw_aald B hI 1 hs1 rfl (b.toNat) (by omega) (by omega) (by decide) (hs2 _ (by omega)) dX2_divisor_33 ?_
      obtain ⟨mo, rmo, fe, rfe, pa1, pa2, pa3, pa4, hsw, hpq⟩ := id hD.2.2.1
      obtain ⟨hpm, hpf, hpn⟩ := swp_rp hsw (hD.rp (i := 22) (by omega)) (hD.rp (i := 23) (by omega)) (hD.ne (i := 22) (j := 23) (by omega) (by omega) (by omega)).1 (hD.ne (i := 22) (j := 23) (by omega) (by omega) (by omega)).2 (hD.ne (i := 21) (j := 22) (by omega) (by omega) (by omega)).1 (hD.ne (i := 21) (j := 23) (by omega) (by omega) (by omega)).1 (hD.ne (i := 21) (j := 22) (by omega) (by omega) (by omega)).2 (hD.ne (i := 21) (j := 23) (by omega) (by omega) (by omega)).2
      have nxa := swp_ne hsw (hD.ne (i := a.toNat) (j := 22) (by omega) (by omega) (by omega)).1 (hD.ne (i := a.toNat) (j := 23) (by omega) (by omega) (by omega)).1 (hD.ne (i := a.toNat) (j := 22) (by omega) (by omega) (by omega)).2 (hD.ne (i := a.toNat) (j := 23) (by omega) (by omega) (by omega)).2
      have nxb := swp_ne hsw (hD.ne (i := b.toNat) (j := 22) (by omega) (by omega) (by omega)).1 (hD.ne (i := b.toNat) (j := 23) (by omega) (by omega) (by omega)).1 (hD.ne (i := b.toNat) (j := 22) (by omega) (by omega) (by omega)).2 (hD.ne (i := b.toNat) (j := 23) (by omega) (by omega) (by omega)).2
      refine mw_callr hI hA (va_runV (As := [.ref ((w (a.toNat))), .ref ((w (b.toNat)))]) (rest := [.ref d]) B.fix (t_X0_commonDivisor l D kA H.size f hpq (hD.rp (i := 21) (by omega)) hpm.choose_spec hpf.choose_spec (hD.rp (i := a.toNat) (by omega)) (hD.rp (i := b.toNat) (by omega)) hpn.1 hpn.2.1 hpn.2.2.1 hpn.2.2.2.1 hpn.2.2.2.2.1 hpn.2.2.2.2.2 nxa.1 nxa.2.1 nxa.2.2.1 nxa.2.2.2 nxb.1 nxb.2.1 nxb.2.2.1 nxb.2.2.2 (by omega) (by omega)) (cwV 2 B.2.2.2.2.1 (gV kw_223 kw_224 kw_225 kw_3 kw_226) rfl rfl rfl (by decide +kernel) ⟨Nat.le_of_ble_eq_true rfl, Nat.le_of_ble_eq_true rfl⟩) ⟨mw_blind st_S.blind, mw_recv B hI hpq rfl, mw_pre B hI (hSt.call hI hA)⟩ rfl rfl hl.1 rfl (lv_room (Nat.le_of_ble_eq_true rfl)) dX2_divisor_34 ⟨Nat.le_of_ble_eq_true rfl, Nat.le_of_ble_eq_true rfl⟩) (fun r f H locs hp hI2 => ?_)
      clear hI
      have hI := hI2
      clear hI2
      obtain ⟨u1, Y1, hu1, hu2, hD, hg1, r1, o1⟩ := hD.cd hsw hp
      subst hu2
      have ho : ∀ k, ¬ dks d sl pa w ra k → f k = f0 k := fun k h => (o1 k h).trans (ho k h)
      have hsl : ∀ i, i < 16 → Y1 i = Y i := fun i hi => (r1 i (by omega)).trans (hsl i hi)
      refine mv_iload_n B dX2_divisor_37 rfl (lv_at hl 3 rfl) ?_
      refine mw_calli hI hA (va_runV (As := [.ref ((w u1)), .int (iI (t))]) (rest := []) B.fix (t_X2_keep l D kA H.size f (t := u1) hD (fun i hi => by rw [hsl i hi]; exact hB i hi) (by omega) h2) (cwV 2 B.2.2.2.2.1 (gV kw_144 kw_146 ks_2 kw_1 kw_147) rfl rfl rfl (by decide +kernel) ⟨Nat.le_of_ble_eq_true rfl, Nat.le_of_ble_eq_true rfl⟩) ⟨mw_blind st_S.blind, mw_recv B hI hD.1 rfl, mw_pre B hI (hSt.call hI hA)⟩ rfl rfl hl.1 rfl (lv_room (Nat.le_of_ble_eq_true rfl)) dX2_divisor_38 ⟨Nat.le_of_ble_eq_true rfl, Nat.le_of_ble_eq_true rfl⟩) (fun r f H locs hp hI2 => ?_)
      clear hI
      have hI := hI2
      clear hI2
      obtain ⟨rfl, hD, o1⟩ := hp
      have ho : ∀ k, ¬ dks d sl pa w ra k → f k = f0 k := fun k h => (o1 k h).trans (ho k h)
      have e9 : sp_divisor Y a b t = kp Y (t) ((Int.gcd (Y a.toNat) (Y b.toNat) : Int)) := by unfold sp_divisor; rw [if_pos ⟨h1.1, h1.2, h2⟩]
      have e7 : Y1 (u1) = (Int.gcd (Y a.toNat) (Y b.toNat) : Int) := by exact hg1
      have e8 := kp_same (x := t) e7 hsl
      exact mw_iret B hQ hrt hI ⟨(congrArg iI e8.1).trans (by rw [e9]), ⟨_, hD, fun i hi => (e8.2 i hi).trans (by rw [e9])⟩, ho⟩ dX2_divisor_41
    · have h2 : ¬ (sOk t) := fun q => by rw [if_pos q] at hc2; exact absurd hc2 (by decide)
      refine mv_iconst B dX2_divisor_15 ?_
      have e9 : sp_divisor Y a b t = (-1, Y) := by unfold sp_divisor; rw [if_neg (fun q => h2 q.2.2)]
      exact mw_iret B hQ hrt hI ⟨by rw [e9], ⟨_, hD, fun i hi => (hsl i hi).trans (by rw [e9])⟩, ho⟩ dX2_divisor_16
abbrev rm_X2_order : Room := { frames := 2, cells := 0, slots := 0, locals := 43 }
set_option maxHeartbeats 4000000 in
set_option maxRecDepth 100000 in
/-- order -/
theorem t_X2_order (l : Launch) (D : va_G) (kA : Nat → ClassId) (sz : Nat) (f0 : mw_M) {d sl pa : Nat} {w ra : Nat → Nat} {Y : Nat → Int} {a b : Int} (hD : DK kA f0 d sl pa w ra Y) (hB : ∀ i, i < 16 → ((Y i).natAbs : Int) < 1000000 ^ 50) (ha : -2147483648 ≤ a ∧ a ≤ 2147483647) (hb : -2147483648 ≤ b ∧ b ≤ 2147483647) : mw_Mi l yX2_order (Cond.code yX2_order cX2_order 3 ((some .int)) :: gw) rm_X2_order D vwCl (tyL kA) st_S [.ref d, .int (iI (a)), .int (iI (b))] f0 sz (fun v f => v = iI (sp_order Y a b) ∧ (∃ Y', DK kA f d sl pa w ra Y' ∧ ∀ i, i < 16 → Y' i = Y i) ∧ ∀ k, ¬ dks d sl pa w ra k → f k = f0 k) 0 0 := by
  refine mw_ofi (cc := cX2_order) (maxL := 3) (ret := (some .int)) (by decide) rfl (Nat.le_of_ble_eq_true rfl) ?_
  intro p e s m below meth c A ls Q hQ B hrt hnm hA hI hSt hl
  have hl : lv_has ls 3 [(0, .ref d), (1, .int (iI (a))), (2, .int (iI (b)))] := hl
  obtain ⟨f, hI, hf⟩ : ∃ f, mw_I D vwCl A s s.heap [] f ∧ f = f0 := ⟨f0, hI, rfl⟩
  rw [← hf] at hD
  have ho : ∀ k, ¬ dks d sl pa w ra k → f k = f0 k := fun k _ => by rw [hf]
  have hsl : ∀ i, i < 16 → Y i = Y i := fun _ _ => rfl
  refine mv_iload_n B dX2_order_0 rfl (lv_at hl 1 rfl) ?_
  refine mv_iload_n B dX2_order_1 rfl (lv_at hl 2 rfl) ?_
  refine mw_calli hI hA (va_runS (As := [.int (iI (a)), .int (iI (b))]) (rest := []) B.fix (t_X2_areSlots l D kA s.heap.size f ha hb) (cwS 2 B.2.2.2.2.1 (gS kw_163 kw_164 kw_1 kw_165) rfl rfl rfl (by decide +kernel) ⟨Nat.le_of_ble_eq_true rfl, Nat.le_of_ble_eq_true rfl⟩) ⟨mw_blind st_S.blind, mw_pre B hI (hSt.call hI hA)⟩ rfl rfl hl.1 rfl (lv_room (Nat.le_of_ble_eq_true rfl)) dX2_order_2 ⟨Nat.le_of_ble_eq_true rfl, Nat.le_of_ble_eq_true rfl⟩) (fun r f H locs hp hI2 => ?_)
  clear hI
  have hI := hI2
  clear hI2
  obtain ⟨rfl, rfl⟩ := hp
  refine mv_if_ne (tgt := 10) B dX2_order_5 (by decide) (by split <;> omega) (fun hc => ?_) (fun hc => ?_)
  · have h1 : sOk a ∧ sOk b := by
      by_cases q : sOk a ∧ sOk b
      · exact q
      · rw [if_neg q] at hc; exact absurd rfl hc
    refine mv_iconst B dX2_order_10 ?_
    refine mv_aload_n B dX2_order_11 rfl (lv_at hl 0 rfl) ?_
    refine mw_get (C := RX2) (T := TX2) (N := 7) B hI hD.1 uin_X2 rfl 0 (by decide) kw_67 rfl dX2_order_12 ?_
    refine mv_iload_n B dX2_order_15 rfl (lv_at hl 1 rfl) ?_
    obtain ⟨gs, hs1, hs2⟩ := hD.2.1
    refine mw_aald B hI 1 hs1 rfl (a.toNat) (by omega) (by omega) (by decide) (hs2 _ (by omega)) dX2_order_16 ?_
    refine mv_aload_n B dX2_order_17 rfl (lv_at hl 0 rfl) ?_
    refine mw_get (C := RX2) (T := TX2) (N := 7) B hI hD.1 uin_X2 rfl 0 (by decide) kw_67 rfl dX2_order_18 ?_
    refine mv_iload_n B dX2_order_21 rfl (lv_at hl 2 rfl) ?_
    obtain ⟨gs, hs1, hs2⟩ := hD.2.1
    refine mw_aald B hI 1 hs1 rfl (b.toNat) (by omega) (by omega) (by decide) (hs2 _ (by omega)) dX2_order_22 ?_
    obtain ⟨_, _, _, cc, -, -⟩ := id (hD.rp (i := a.toNat) (by omega))
    refine mw_calli hI hA (va_runV (As := [.ref ((w (b.toNat)))]) (rest := [.int (iI (1))]) B.fix (t_X1_compareWhole l D kA H.size f (hD.rp (i := a.toNat) (by omega)) (hD.rp (i := b.toNat) (by omega))) (cwV 1 B.2.2.2.2.1 (gV kw_306 kw_307 kw_308 kw_2 kw_309) rfl rfl rfl (by decide +kernel) ⟨Nat.le_of_ble_eq_true rfl, Nat.le_of_ble_eq_true rfl⟩) ⟨mw_blind st_S.blind, mw_recv B hI cc rfl, mw_pre B hI (hSt.call hI hA)⟩ rfl rfl hl.1 rfl (lv_room (Nat.le_of_ble_eq_true rfl)) dX2_order_23 ⟨Nat.le_of_ble_eq_true rfl, Nat.le_of_ble_eq_true rfl⟩) (fun r f H locs hp hI2 => ?_)
    clear hI
    have hI := hI2
    clear hI2
    obtain ⟨rfl, rfl⟩ := hp
    refine mv_iadd B dX2_order_26 ?_
    exact mw_iret B hQ hrt hI ⟨by unfold sp_order; rw [if_pos h1], ⟨_, hD, hsl⟩, ho⟩ dX2_order_27
  · have h1 : ¬ (sOk a ∧ sOk b) := fun q => by rw [if_pos q] at hc; exact absurd hc (by decide)
    refine mv_iconst B dX2_order_8 ?_
    have e9 : sp_order Y a b = -1 := by unfold sp_order; rw [if_neg h1]
    exact mw_iret B hQ hrt hI ⟨by rw [e9], ⟨_, hD, hsl⟩, ho⟩ dX2_order_9
abbrev rm_X2_sign : Room := { frames := 1, cells := 0, slots := 0, locals := 20 }
set_option maxHeartbeats 4000000 in
set_option maxRecDepth 100000 in
/-- sign -/
theorem t_X2_sign (l : Launch) (D : va_G) (kA : Nat → ClassId) (sz : Nat) (f0 : mw_M) {d sl pa : Nat} {w ra : Nat → Nat} {Y : Nat → Int} {a : Int} (hD : DK kA f0 d sl pa w ra Y) (hB : ∀ i, i < 16 → ((Y i).natAbs : Int) < 1000000 ^ 50) (ha : -2147483648 ≤ a ∧ a ≤ 2147483647) : mw_Mi l yX2_sign (Cond.code yX2_sign cX2_sign 2 ((some .int)) :: gw) rm_X2_sign D vwCl (tyL kA) st_S [.ref d, .int (iI (a))] f0 sz (fun v f => v = iI (sp_sign Y a) ∧ (∃ Y', DK kA f d sl pa w ra Y' ∧ ∀ i, i < 16 → Y' i = Y i) ∧ ∀ k, ¬ dks d sl pa w ra k → f k = f0 k) 0 0 := by
  refine mw_ofi (cc := cX2_sign) (maxL := 2) (ret := (some .int)) (by decide) rfl (Nat.le_of_ble_eq_true rfl) ?_
  intro p e s m below meth c A ls Q hQ B hrt hnm hA hI hSt hl
  have hl : lv_has ls 2 [(0, .ref d), (1, .int (iI (a)))] := hl
  obtain ⟨f, hI, hf⟩ : ∃ f, mw_I D vwCl A s s.heap [] f ∧ f = f0 := ⟨f0, hI, rfl⟩
  rw [← hf] at hD
  have ho : ∀ k, ¬ dks d sl pa w ra k → f k = f0 k := fun k _ => by rw [hf]
  have hsl : ∀ i, i < 16 → Y i = Y i := fun _ _ => rfl
  refine mv_iload_n B dX2_sign_0 rfl (lv_at hl 1 rfl) ?_
  refine mw_calli hI hA (va_runS (As := [.int (iI (a))]) (rest := []) B.fix (t_X2_isSlot l D kA s.heap.size f ha) (cwS 1 B.2.2.2.2.1 (gS kw_93 kw_94 kw_1 kw_95) rfl rfl rfl (by decide +kernel) ⟨Nat.le_of_ble_eq_true rfl, Nat.le_of_ble_eq_true rfl⟩) ⟨mw_blind st_S.blind, mw_pre B hI (hSt.call hI hA)⟩ rfl rfl hl.1 rfl (lv_room (Nat.le_of_ble_eq_true rfl)) dX2_sign_1 ⟨Nat.le_of_ble_eq_true rfl, Nat.le_of_ble_eq_true rfl⟩) (fun r f H locs hp hI2 => ?_)
  clear hI
  have hI := hI2
  clear hI2
  obtain ⟨rfl, rfl⟩ := hp
  refine mv_if_ne (tgt := 9) B dX2_sign_4 (by decide) (by split <;> omega) (fun hc => ?_) (fun hc => ?_)
  · have h1 : sOk a := by
      by_cases q : sOk a
      · exact q
      · rw [if_neg q] at hc; exact absurd rfl hc
    have e9 : sp_sign Y a = 1 + c3 (Y a.toNat) 0 := by unfold sp_sign; rw [if_pos h1]
    refine mv_aload_n B dX2_sign_9 rfl (lv_at hl 0 rfl) ?_
    refine mw_get (C := RX2) (T := TX2) (N := 7) B hI hD.1 uin_X2 rfl 0 (by decide) kw_67 rfl dX2_sign_10 ?_
    refine mv_iload_n B dX2_sign_13 rfl (lv_at hl 1 rfl) ?_
    obtain ⟨gs, hs1, hs2⟩ := hD.2.1
    refine mw_aald B hI 1 hs1 rfl (a.toNat) (by omega) (by omega) (by decide) (hs2 _ (by omega)) dX2_sign_14 ?_
    obtain ⟨g, n, b_, c1, c2, c3_⟩ := id (hD.rp (i := a.toNat) (by omega))
    have m1 := c3_.1
    have hz0 := c3_.zero
    refine mw_calli hI hA (va_runV (As := []) (rest := []) B.fix (t_X1_isZero l D kA H.size f c1 (by omega)) (cwV 0 B.2.2.2.2.1 (gV kw_190 kw_191 kw_192 kw_2 kw_193) rfl rfl rfl (by decide +kernel) ⟨Nat.le_of_ble_eq_true rfl, Nat.le_of_ble_eq_true rfl⟩) ⟨mw_blind st_S.blind, mw_recv B hI c1 rfl, mw_pre B hI (hSt.call hI hA)⟩ rfl rfl hl.1 rfl (lv_room (Nat.le_of_ble_eq_true rfl)) dX2_sign_15 ⟨Nat.le_of_ble_eq_true rfl, Nat.le_of_ble_eq_true rfl⟩) (fun r f H locs hp hI2 => ?_)
    clear hI
    have hI := hI2
    clear hI2
    obtain ⟨rfl, rfl⟩ := hp
    have q1 := c3_.b0
    refine mv_if_eq (tgt := 23) B dX2_sign_18 (by decide) (by split <;> omega) (fun hc2 => ?_) (fun hc2 => ?_)
    · have hnz : Y a.toNat ≠ 0 := fun q => by rw [if_pos (by have := hz0.mp q; omega)] at hc2; exact absurd hc2 (by decide)
      refine mv_aload_n B dX2_sign_23 rfl (lv_at hl 0 rfl) ?_
      refine mw_get (C := RX2) (T := TX2) (N := 7) B hI hD.1 uin_X2 rfl 0 (by decide) kw_67 rfl dX2_sign_24 ?_
      refine mv_iload_n B dX2_sign_27 rfl (lv_at hl 1 rfl) ?_
      obtain ⟨gs, hs1, hs2⟩ := hD.2.1
      refine mw_aald B hI 1 hs1 rfl (a.toNat) (by omega) (by omega) (by decide) (hs2 _ (by omega)) dX2_sign_28 ?_
      refine ww_below B hI c1 uin_X1 kw_28 dX2_sign_29 ?_
      refine mv_if_eq (tgt := 39) B dX2_sign_32 (by decide) (by omega) (fun hc3 => ?_) (fun hc3 => ?_)
      · refine mv_iconst B dX2_sign_39 ?_
        exact mw_iret B hQ hrt hI ⟨by rw [e9, c3_gt (by omega)]; rfl, ⟨_, hD, hsl⟩, ho⟩ dX2_sign_40
      · refine mv_iconst B dX2_sign_35 ?_
        refine mv_goto (tgt := 40) B dX2_sign_36 (by decide) ?_
        exact mw_iret B hQ hrt hI ⟨by rw [e9, c3_lt (by omega)]; rfl, ⟨_, hD, hsl⟩, ho⟩ dX2_sign_40
    · have hzz : Y a.toNat = 0 := by
        by_cases q : (n : Int) = 0
        · exact hz0.mpr (by omega)
        · rw [if_neg q] at hc2; exact absurd rfl hc2
      refine mv_iconst B dX2_sign_21 ?_
      exact mw_iret B hQ hrt hI ⟨by rw [e9, c3_eq hzz]; rfl, ⟨_, hD, hsl⟩, ho⟩ dX2_sign_22
  · have h1 : ¬ (sOk a) := fun q => by rw [if_pos q] at hc; exact absurd hc (by decide)
    refine mv_iconst B dX2_sign_7 ?_
    have e9 : sp_sign Y a = -1 := by unfold sp_sign; rw [if_neg h1]
    exact mw_iret B hQ hrt hI ⟨by rw [e9], ⟨_, hD, hsl⟩, ho⟩ dX2_sign_8
abbrev rm_X2_digits : Room := { frames := 1, cells := 0, slots := 0, locals := 22 }
set_option maxHeartbeats 4000000 in
set_option maxRecDepth 100000 in
/-- digits -/
theorem t_X2_digits (l : Launch) (D : va_G) (kA : Nat → ClassId) (sz : Nat) (f0 : mw_M) {d sl pa : Nat} {w ra : Nat → Nat} {Y : Nat → Int} {a : Int} (hD : DK kA f0 d sl pa w ra Y) (hB : ∀ i, i < 16 → ((Y i).natAbs : Int) < 1000000 ^ 50) (ha : -2147483648 ≤ a ∧ a ≤ 2147483647) : mw_Mi l yX2_digits (Cond.code yX2_digits cX2_digits 2 ((some .int)) :: gw) rm_X2_digits D vwCl (tyL kA) st_S [.ref d, .int (iI (a))] f0 sz (fun v f => v = iI (sp_digits Y a) ∧ (∃ Y', DK kA f d sl pa w ra Y' ∧ ∀ i, i < 16 → Y' i = Y i) ∧ ∀ k, ¬ dks d sl pa w ra k → f k = f0 k) 0 0 := by
  refine mw_ofi (cc := cX2_digits) (maxL := 2) (ret := (some .int)) (by decide) rfl (Nat.le_of_ble_eq_true rfl) ?_
  intro p e s m below meth c A ls Q hQ B hrt hnm hA hI hSt hl
  have hl : lv_has ls 2 [(0, .ref d), (1, .int (iI (a)))] := hl
  obtain ⟨f, hI, hf⟩ : ∃ f, mw_I D vwCl A s s.heap [] f ∧ f = f0 := ⟨f0, hI, rfl⟩
  rw [← hf] at hD
  have ho : ∀ k, ¬ dks d sl pa w ra k → f k = f0 k := fun k _ => by rw [hf]
  have hsl : ∀ i, i < 16 → Y i = Y i := fun _ _ => rfl
  refine mv_iload_n B dX2_digits_0 rfl (lv_at hl 1 rfl) ?_
  refine mw_calli hI hA (va_runS (As := [.int (iI (a))]) (rest := []) B.fix (t_X2_isSlot l D kA s.heap.size f ha) (cwS 1 B.2.2.2.2.1 (gS kw_93 kw_94 kw_1 kw_95) rfl rfl rfl (by decide +kernel) ⟨Nat.le_of_ble_eq_true rfl, Nat.le_of_ble_eq_true rfl⟩) ⟨mw_blind st_S.blind, mw_pre B hI (hSt.call hI hA)⟩ rfl rfl hl.1 rfl (lv_room (Nat.le_of_ble_eq_true rfl)) dX2_digits_1 ⟨Nat.le_of_ble_eq_true rfl, Nat.le_of_ble_eq_true rfl⟩) (fun r f H locs hp hI2 => ?_)
  clear hI
  have hI := hI2
  clear hI2
  obtain ⟨rfl, rfl⟩ := hp
  refine mv_if_ne (tgt := 9) B dX2_digits_4 (by decide) (by split <;> omega) (fun hc => ?_) (fun hc => ?_)
  · have h1 : sOk a := by
      by_cases q : sOk a
      · exact q
      · rw [if_neg q] at hc; exact absurd rfl hc
    refine mv_aload_n B dX2_digits_9 rfl (lv_at hl 0 rfl) ?_
    refine mw_get (C := RX2) (T := TX2) (N := 7) B hI hD.1 uin_X2 rfl 0 (by decide) kw_67 rfl dX2_digits_10 ?_
    refine mv_iload_n B dX2_digits_13 rfl (lv_at hl 1 rfl) ?_
    obtain ⟨gs, hs1, hs2⟩ := hD.2.1
    refine mw_aald B hI 1 hs1 rfl (a.toNat) (by omega) (by omega) (by decide) (hs2 _ (by omega)) dX2_digits_14 ?_
    obtain ⟨_, _, _, cc, -, -⟩ := id (hD.rp (i := a.toNat) (by omega))
    refine mw_calli hI hA (va_runV (As := []) (rest := []) B.fix (t_X1_countDigits l D kA H.size f (hD.rp (i := a.toNat) (by omega))) (cwV 0 B.2.2.2.2.1 (gV kw_322 kw_323 kw_324 kw_2 kw_325) rfl rfl rfl (by decide +kernel) ⟨Nat.le_of_ble_eq_true rfl, Nat.le_of_ble_eq_true rfl⟩) ⟨mw_blind st_S.blind, mw_recv B hI cc rfl, mw_pre B hI (hSt.call hI hA)⟩ rfl rfl hl.1 rfl (lv_room (Nat.le_of_ble_eq_true rfl)) dX2_digits_15 ⟨Nat.le_of_ble_eq_true rfl, Nat.le_of_ble_eq_true rfl⟩) (fun r f H locs hp hI2 => ?_)
    clear hI
    have hI := hI2
    clear hI2
    obtain ⟨⟨k, hk1, hk2, rfl⟩, rfl⟩ := hp
    exact mw_iret B hQ hrt hI ⟨by unfold sp_digits; rw [if_pos h1, ndg_eq hk1], ⟨_, hD, hsl⟩, ho⟩ dX2_digits_18
  · have h1 : ¬ (sOk a) := fun q => by rw [if_pos q] at hc; exact absurd hc (by decide)
    refine mv_iconst B dX2_digits_7 ?_
    have e9 : sp_digits Y a = -1 := by unfold sp_digits; rw [if_neg h1]
    exact mw_iret B hQ hrt hI ⟨by rw [e9], ⟨_, hD, hsl⟩, ho⟩ dX2_digits_8
abbrev rm_X2_digitAt : Room := { frames := 2, cells := 0, slots := 0, locals := 42 }
set_option maxHeartbeats 4000000 in
set_option maxRecDepth 100000 in
/-- digitAt -/
theorem t_X2_digitAt (l : Launch) (D : va_G) (kA : Nat → ClassId) (sz : Nat) (f0 : mw_M) {d sl pa : Nat} {w ra : Nat → Nat} {Y : Nat → Int} {a i_ : Int} (hD : DK kA f0 d sl pa w ra Y) (hB : ∀ i, i < 16 → ((Y i).natAbs : Int) < 1000000 ^ 50) (ha : -2147483648 ≤ a ∧ a ≤ 2147483647) (hi_ : -2147483648 ≤ i_ ∧ i_ ≤ 2147483647) : mw_Mi l yX2_digitAt (Cond.code yX2_digitAt cX2_digitAt 3 ((some .int)) :: gw) rm_X2_digitAt D vwCl (tyL kA) st_S [.ref d, .int (iI (a)), .int (iI (i_))] f0 sz (fun v f => v = iI (sp_digitAt Y a i_) ∧ (∃ Y', DK kA f d sl pa w ra Y' ∧ ∀ i, i < 16 → Y' i = Y i) ∧ ∀ k, ¬ dks d sl pa w ra k → f k = f0 k) 0 0 := by
  refine mw_ofi (cc := cX2_digitAt) (maxL := 3) (ret := (some .int)) (by decide) rfl (Nat.le_of_ble_eq_true rfl) ?_
  intro p e s m below meth c A ls Q hQ B hrt hnm hA hI hSt hl
  have hl : lv_has ls 3 [(0, .ref d), (1, .int (iI (a))), (2, .int (iI (i_)))] := hl
  obtain ⟨f, hI, hf⟩ : ∃ f, mw_I D vwCl A s s.heap [] f ∧ f = f0 := ⟨f0, hI, rfl⟩
  rw [← hf] at hD
  have ho : ∀ k, ¬ dks d sl pa w ra k → f k = f0 k := fun k _ => by rw [hf]
  have hsl : ∀ i, i < 16 → Y i = Y i := fun _ _ => rfl
  refine mv_iload_n B dX2_digitAt_0 rfl (lv_at hl 1 rfl) ?_
  refine mw_calli hI hA (va_runS (As := [.int (iI (a))]) (rest := []) B.fix (t_X2_isSlot l D kA s.heap.size f ha) (cwS 1 B.2.2.2.2.1 (gS kw_93 kw_94 kw_1 kw_95) rfl rfl rfl (by decide +kernel) ⟨Nat.le_of_ble_eq_true rfl, Nat.le_of_ble_eq_true rfl⟩) ⟨mw_blind st_S.blind, mw_pre B hI (hSt.call hI hA)⟩ rfl rfl hl.1 rfl (lv_room (Nat.le_of_ble_eq_true rfl)) dX2_digitAt_1 ⟨Nat.le_of_ble_eq_true rfl, Nat.le_of_ble_eq_true rfl⟩) (fun r f H locs hp hI2 => ?_)
  clear hI
  have hI := hI2
  clear hI2
  obtain ⟨rfl, rfl⟩ := hp
  refine mv_if_eq (tgt := 24) B dX2_digitAt_4 (by decide) (by split <;> omega) (fun hc => ?_) (fun hc => ?_)
  · have h1 : ¬ (sOk a) := fun q => by rw [if_pos q] at hc; exact absurd hc (by decide)
    refine mv_iconst B dX2_digitAt_24 ?_
    have e9 : sp_digitAt Y a i_ = -1 := by unfold sp_digitAt; rw [if_neg (fun q => h1 q.1)]
    exact mw_iret B hQ hrt hI ⟨by rw [e9], ⟨_, hD, hsl⟩, ho⟩ dX2_digitAt_25
  · have h1 : sOk a := by
      by_cases q : sOk a
      · exact q
      · rw [if_neg q] at hc; exact absurd rfl hc
    refine mv_iload_n B dX2_digitAt_7 rfl (lv_at hl 2 rfl) ?_
    refine mv_if_lt (tgt := 24) B dX2_digitAt_8 (by decide) (by omega) (fun hc2 => ?_) (fun hc2 => ?_)
    · refine mv_iconst B dX2_digitAt_24 ?_
      have e9 : sp_digitAt Y a i_ = -1 := by unfold sp_digitAt; rw [if_neg (fun q => by omega)]
      exact mw_iret B hQ hrt hI ⟨by rw [e9], ⟨_, hD, hsl⟩, ho⟩ dX2_digitAt_25
    · refine mv_iload_n B dX2_digitAt_11 rfl (lv_at hl 2 rfl) ?_
      refine mv_aload_n B dX2_digitAt_12 rfl (lv_at hl 0 rfl) ?_
      refine mw_get (C := RX2) (T := TX2) (N := 7) B hI hD.1 uin_X2 rfl 0 (by decide) kw_67 rfl dX2_digitAt_13 ?_
      refine mv_iload_n B dX2_digitAt_16 rfl (lv_at hl 1 rfl) ?_
      obtain ⟨gs, hs1, hs2⟩ := hD.2.1
      refine mw_aald B hI 1 hs1 rfl (a.toNat) (by omega) (by omega) (by decide) (hs2 _ (by omega)) dX2_digitAt_17 ?_
      obtain ⟨_, _, _, cc, -, -⟩ := id (hD.rp (i := a.toNat) (by omega))
      refine mw_calli hI hA (va_runV (As := []) (rest := [.int (iI (i_))]) B.fix (t_X1_countDigits l D kA H.size f (hD.rp (i := a.toNat) (by omega))) (cwV 0 B.2.2.2.2.1 (gV kw_322 kw_323 kw_324 kw_2 kw_325) rfl rfl rfl (by decide +kernel) ⟨Nat.le_of_ble_eq_true rfl, Nat.le_of_ble_eq_true rfl⟩) ⟨mw_blind st_S.blind, mw_recv B hI cc rfl, mw_pre B hI (hSt.call hI hA)⟩ rfl rfl hl.1 rfl (lv_room (Nat.le_of_ble_eq_true rfl)) dX2_digitAt_18 ⟨Nat.le_of_ble_eq_true rfl, Nat.le_of_ble_eq_true rfl⟩) (fun r f H locs hp hI2 => ?_)
      clear hI
      have hI := hI2
      clear hI2
      obtain ⟨⟨k, hk1, hk2, rfl⟩, rfl⟩ := hp
      have nk := ndg_eq hk1
      refine mv_icmp_lt (tgt := 26) B dX2_digitAt_21 (by decide) (by omega) (fun hc3 => ?_) (fun hc3 => ?_)
      · refine mv_aload_n B dX2_digitAt_26 rfl (lv_at hl 0 rfl) ?_
        refine mw_get (C := RX2) (T := TX2) (N := 7) B hI hD.1 uin_X2 rfl 0 (by decide) kw_67 rfl dX2_digitAt_27 ?_
        refine mv_iload_n B dX2_digitAt_30 rfl (lv_at hl 1 rfl) ?_
        obtain ⟨gs, hs1, hs2⟩ := hD.2.1
        refine mw_aald B hI 1 hs1 rfl (a.toNat) (by omega) (by omega) (by decide) (hs2 _ (by omega)) dX2_digitAt_31 ?_
        refine mv_aload_n B dX2_digitAt_32 rfl (lv_at hl 0 rfl) ?_
        refine mw_get (C := RX2) (T := TX2) (N := 7) B hI hD.1 uin_X2 rfl 0 (by decide) kw_67 rfl dX2_digitAt_33 ?_
        refine mv_iload_n B dX2_digitAt_36 rfl (lv_at hl 1 rfl) ?_
        obtain ⟨gs, hs1, hs2⟩ := hD.2.1
        refine mw_aald B hI 1 hs1 rfl (a.toNat) (by omega) (by omega) (by decide) (hs2 _ (by omega)) dX2_digitAt_37 ?_
        obtain ⟨_, _, _, cc, -, -⟩ := id (hD.rp (i := a.toNat) (by omega))
        refine mw_calli hI hA (va_runV (As := []) (rest := [.ref ((w (a.toNat)))]) B.fix (t_X1_countDigits l D kA H.size f (hD.rp (i := a.toNat) (by omega))) (cwV 0 B.2.2.2.2.1 (gV kw_322 kw_323 kw_324 kw_2 kw_325) rfl rfl rfl (by decide +kernel) ⟨Nat.le_of_ble_eq_true rfl, Nat.le_of_ble_eq_true rfl⟩) ⟨mw_blind st_S.blind, mw_recv B hI cc rfl, mw_pre B hI (hSt.call hI hA)⟩ rfl rfl hl.1 rfl (lv_room (Nat.le_of_ble_eq_true rfl)) dX2_digitAt_38 ⟨Nat.le_of_ble_eq_true rfl, Nat.le_of_ble_eq_true rfl⟩) (fun r f H locs hp hI2 => ?_)
        clear hI
        have hI := hI2
        clear hI2
        obtain ⟨⟨j, hj1, hj2, rfl⟩, rfl⟩ := hp
        have nj := ndg_eq hj1
        obtain rfl : k = j := by omega
        refine mv_iconst B dX2_digitAt_41 ?_
        refine mv_isub B dX2_digitAt_42 ?_
        refine mv_iload_n B dX2_digitAt_43 rfl (lv_at hl 2 rfl) ?_
        refine mv_isub B dX2_digitAt_44 ?_
        obtain ⟨q, hq⟩ : ∃ q : Nat, (q : Int) = (k : Int) - 1 - i_ := ⟨((k : Int) - 1 - i_).toNat, by omega⟩
        rw [← hq]
        obtain ⟨_, _, _, cc, -, -⟩ := id (hD.rp (i := a.toNat) (by omega))
        refine mw_calli hI hA (va_runV (As := [.int (iI ((q : Int)))]) (rest := []) B.fix (t_X1_digitOfPlace l D kA H.size f (hD.rp (i := a.toNat) (by omega)) (by omega)) (cwV 1 B.2.2.2.2.1 (gV kw_332 kw_333 kw_334 kw_2 kw_335) rfl rfl rfl (by decide +kernel) ⟨Nat.le_of_ble_eq_true rfl, Nat.le_of_ble_eq_true rfl⟩) ⟨mw_blind st_S.blind, mw_recv B hI cc rfl, mw_pre B hI (hSt.call hI hA)⟩ rfl rfl hl.1 rfl (lv_room (Nat.le_of_ble_eq_true rfl)) dX2_digitAt_45 ⟨Nat.le_of_ble_eq_true rfl, Nat.le_of_ble_eq_true rfl⟩) (fun r f H locs hp hI2 => ?_)
        clear hI
        have hI := hI2
        clear hI2
        obtain ⟨rfl, rfl⟩ := hp
        exact mw_iret B hQ hrt hI ⟨by unfold sp_digitAt; rw [if_pos ⟨h1, by omega, by omega⟩, nk, show ((k : Int) - 1 - i_).toNat = q by omega], ⟨_, hD, hsl⟩, ho⟩ dX2_digitAt_48
      · refine mv_iconst B dX2_digitAt_24 ?_
        have e9 : sp_digitAt Y a i_ = -1 := by unfold sp_digitAt; rw [if_neg (fun q => by have := q.2.2; omega)]
        exact mw_iret B hQ hrt hI ⟨by rw [e9], ⟨_, hD, hsl⟩, ho⟩ dX2_digitAt_25
abbrev rm_X2_modulo : Room := { frames := 1, cells := 0, slots := 0, locals := 29 }
set_option maxHeartbeats 4000000 in
set_option maxRecDepth 100000 in
/-- modulo -/
theorem t_X2_modulo (l : Launch) (D : va_G) (kA : Nat → ClassId) (sz : Nat) (f0 : mw_M) {d sl pa : Nat} {w ra : Nat → Nat} {Y : Nat → Int} {a m_ : Int} (hD : DK kA f0 d sl pa w ra Y) (hB : ∀ i, i < 16 → ((Y i).natAbs : Int) < 1000000 ^ 50) (ha : -2147483648 ≤ a ∧ a ≤ 2147483647) (hm : -9223372036854775808 ≤ m_ ∧ m_ ≤ 9223372036854775807) : mw_Ml l yX2_modulo (Cond.code yX2_modulo cX2_modulo 4 ((some .long)) :: gw) rm_X2_modulo D vwCl (tyL kA) st_S [.ref d, .int (iI (a)), .long (lI (m_))] f0 sz (fun v f => v = lI (sp_modulo Y a m_) ∧ (∃ Y', DK kA f d sl pa w ra Y' ∧ ∀ i, i < 16 → Y' i = Y i) ∧ ∀ k, ¬ dks d sl pa w ra k → f k = f0 k) 0 0 := by
  refine mw_ofl (cc := cX2_modulo) (maxL := 4) (ret := (some .long)) (by decide) rfl (Nat.le_of_ble_eq_true rfl) ?_
  intro p e s m below meth c A ls Q hQ B hrt hnm hA hI hSt hl
  have hl : lv_has ls 4 [(0, .ref d), (1, .int (iI (a))), (2, .long (lI (m_)))] := hl
  obtain ⟨f, hI, hf⟩ : ∃ f, mw_I D vwCl A s s.heap [] f ∧ f = f0 := ⟨f0, hI, rfl⟩
  rw [← hf] at hD
  have ho : ∀ k, ¬ dks d sl pa w ra k → f k = f0 k := fun k _ => by rw [hf]
  have hsl : ∀ i, i < 16 → Y i = Y i := fun _ _ => rfl
  refine mv_iload_n B dX2_modulo_0 rfl (lv_at hl 1 rfl) ?_
  refine mw_calli hI hA (va_runS (As := [.int (iI (a))]) (rest := []) B.fix (t_X2_isSlot l D kA s.heap.size f ha) (cwS 1 B.2.2.2.2.1 (gS kw_93 kw_94 kw_1 kw_95) rfl rfl rfl (by decide +kernel) ⟨Nat.le_of_ble_eq_true rfl, Nat.le_of_ble_eq_true rfl⟩) ⟨mw_blind st_S.blind, mw_pre B hI (hSt.call hI hA)⟩ rfl rfl hl.1 rfl (lv_room (Nat.le_of_ble_eq_true rfl)) dX2_modulo_1 ⟨Nat.le_of_ble_eq_true rfl, Nat.le_of_ble_eq_true rfl⟩) (fun r f H locs hp hI2 => ?_)
  clear hI
  have hI := hI2
  clear hI2
  obtain ⟨rfl, rfl⟩ := hp
  refine mv_if_eq (tgt := 21) B dX2_modulo_4 (by decide) (by split <;> omega) (fun hc => ?_) (fun hc => ?_)
  · have h1 : ¬ (sOk a) := fun q => by rw [if_pos q] at hc; exact absurd hc (by decide)
    refine mv_ldc2 (z := -1) B dX2_modulo_21 kw_341 (by decide) ?_
    have e9 : sp_modulo Y a m_ = -1 := by unfold sp_modulo; rw [if_neg (fun q => h1 q.1)]
    exact mw_lret B hQ hrt hI ⟨by rw [e9], ⟨_, hD, hsl⟩, ho⟩ dX2_modulo_24
  · have h1 : sOk a := by
      by_cases q : sOk a
      · exact q
      · rw [if_neg q] at hc; exact absurd rfl hc
    refine mv_lload_n B dX2_modulo_7 rfl (lv_at hl 2 rfl) ?_
    refine mv_lconst1 B dX2_modulo_8 ?_
    refine mv_lcmp_lt (tgt := 21) B dX2_modulo_9 dX2_modulo_10 (by decide) (by omega) (fun hc2 => ?_) (fun hc2 => ?_)
    · refine mv_ldc2 (z := -1) B dX2_modulo_21 kw_341 (by decide) ?_
      have e9 : sp_modulo Y a m_ = -1 := by unfold sp_modulo; rw [if_neg (fun q => by omega)]
      exact mw_lret B hQ hrt hI ⟨by rw [e9], ⟨_, hD, hsl⟩, ho⟩ dX2_modulo_24
    · refine mv_lload_n B dX2_modulo_13 rfl (lv_at hl 2 rfl) ?_
      refine mv_ldc2 (z := 1152921504606846976) B dX2_modulo_14 kw_340 (by decide) ?_
      refine mv_lcmp_le (tgt := 25) B dX2_modulo_17 dX2_modulo_18 (by decide) (by omega) (fun hc3 => ?_) (fun hc3 => ?_)
      · refine mv_aload_n B dX2_modulo_25 rfl (lv_at hl 0 rfl) ?_
        refine mw_get (C := RX2) (T := TX2) (N := 7) B hI hD.1 uin_X2 rfl 0 (by decide) kw_67 rfl dX2_modulo_26 ?_
        refine mv_iload_n B dX2_modulo_29 rfl (lv_at hl 1 rfl) ?_
        obtain ⟨gs, hs1, hs2⟩ := hD.2.1
        refine mw_aald B hI 1 hs1 rfl (a.toNat) (by omega) (by omega) (by decide) (hs2 _ (by omega)) dX2_modulo_30 ?_
        refine mv_lload_n B dX2_modulo_31 rfl (lv_at hl 2 rfl) ?_
        obtain ⟨_, _, _, cc, -, -⟩ := id (hD.rp (i := a.toNat) (by omega))
        refine mw_calll hI hA (va_runV (As := [.long (lI (m_))]) (rest := []) B.fix (t_X1_remainder l D kA H.size f (hD.rp (i := a.toNat) (by omega)) (by omega)) (cwV 1 B.2.2.2.2.1 (gV kw_342 kw_343 kw_344 kw_2 kw_345) rfl rfl rfl (by decide +kernel) ⟨Nat.le_of_ble_eq_true rfl, Nat.le_of_ble_eq_true rfl⟩) ⟨mw_blind st_S.blind, mw_recv B hI cc rfl, mw_pre B hI (hSt.call hI hA)⟩ rfl rfl hl.1 rfl (lv_room (Nat.le_of_ble_eq_true rfl)) dX2_modulo_32 ⟨Nat.le_of_ble_eq_true rfl, Nat.le_of_ble_eq_true rfl⟩) (fun r f H locs hp hI2 => ?_)
        clear hI
        have hI := hI2
        clear hI2
        obtain ⟨rfl, rfl⟩ := hp
        exact mw_lret B hQ hrt hI ⟨by unfold sp_modulo; rw [if_pos ⟨h1, by omega, by omega⟩], ⟨_, hD, hsl⟩, ho⟩ dX2_modulo_35
      · refine mv_ldc2 (z := -1) B dX2_modulo_21 kw_341 (by decide) ?_
        have e9 : sp_modulo Y a m_ = -1 := by unfold sp_modulo; rw [if_neg (fun q => by omega)]
        exact mw_lret B hQ hrt hI ⟨by rw [e9], ⟨_, hD, hsl⟩, ho⟩ dX2_modulo_24
abbrev rm_X2_low : Room := { frames := 1, cells := 0, slots := 0, locals := 23 }
set_option maxHeartbeats 4000000 in
set_option maxRecDepth 100000 in
/-- low -/
theorem t_X2_low (l : Launch) (D : va_G) (kA : Nat → ClassId) (sz : Nat) (f0 : mw_M) {d sl pa : Nat} {w ra : Nat → Nat} {Y : Nat → Int} {a : Int} (hD : DK kA f0 d sl pa w ra Y) (hB : ∀ i, i < 16 → ((Y i).natAbs : Int) < 1000000 ^ 50) (ha : -2147483648 ≤ a ∧ a ≤ 2147483647) : mw_Ml l yX2_low (Cond.code yX2_low cX2_low 2 ((some .long)) :: gw) rm_X2_low D vwCl (tyL kA) st_S [.ref d, .int (iI (a))] f0 sz (fun v f => v = lI (sp_low Y a) ∧ (∃ Y', DK kA f d sl pa w ra Y' ∧ ∀ i, i < 16 → Y' i = Y i) ∧ ∀ k, ¬ dks d sl pa w ra k → f k = f0 k) 0 0 := by
  refine mw_ofl (cc := cX2_low) (maxL := 2) (ret := (some .long)) (by decide) rfl (Nat.le_of_ble_eq_true rfl) ?_
  intro p e s m below meth c A ls Q hQ B hrt hnm hA hI hSt hl
  have hl : lv_has ls 2 [(0, .ref d), (1, .int (iI (a)))] := hl
  obtain ⟨f, hI, hf⟩ : ∃ f, mw_I D vwCl A s s.heap [] f ∧ f = f0 := ⟨f0, hI, rfl⟩
  rw [← hf] at hD
  have ho : ∀ k, ¬ dks d sl pa w ra k → f k = f0 k := fun k _ => by rw [hf]
  have hsl : ∀ i, i < 16 → Y i = Y i := fun _ _ => rfl
  refine mv_iload_n B dX2_low_0 rfl (lv_at hl 1 rfl) ?_
  refine mw_calli hI hA (va_runS (As := [.int (iI (a))]) (rest := []) B.fix (t_X2_isSlot l D kA s.heap.size f ha) (cwS 1 B.2.2.2.2.1 (gS kw_93 kw_94 kw_1 kw_95) rfl rfl rfl (by decide +kernel) ⟨Nat.le_of_ble_eq_true rfl, Nat.le_of_ble_eq_true rfl⟩) ⟨mw_blind st_S.blind, mw_pre B hI (hSt.call hI hA)⟩ rfl rfl hl.1 rfl (lv_room (Nat.le_of_ble_eq_true rfl)) dX2_low_1 ⟨Nat.le_of_ble_eq_true rfl, Nat.le_of_ble_eq_true rfl⟩) (fun r f H locs hp hI2 => ?_)
  clear hI
  have hI := hI2
  clear hI2
  obtain ⟨rfl, rfl⟩ := hp
  refine mv_if_ne (tgt := 9) B dX2_low_4 (by decide) (by split <;> omega) (fun hc => ?_) (fun hc => ?_)
  · have h1 : sOk a := by
      by_cases q : sOk a
      · exact q
      · rw [if_neg q] at hc; exact absurd rfl hc
    refine mv_aload_n B dX2_low_9 rfl (lv_at hl 0 rfl) ?_
    refine mw_get (C := RX2) (T := TX2) (N := 7) B hI hD.1 uin_X2 rfl 0 (by decide) kw_67 rfl dX2_low_10 ?_
    refine mv_iload_n B dX2_low_13 rfl (lv_at hl 1 rfl) ?_
    obtain ⟨gs, hs1, hs2⟩ := hD.2.1
    refine mw_aald B hI 1 hs1 rfl (a.toNat) (by omega) (by omega) (by decide) (hs2 _ (by omega)) dX2_low_14 ?_
    obtain ⟨_, _, _, cc, -, -⟩ := id (hD.rp (i := a.toNat) (by omega))
    refine mw_calll hI hA (va_runV (As := []) (rest := []) B.fix (t_X1_lowBits l D kA H.size f (hD.rp (i := a.toNat) (by omega))) (cwV 0 B.2.2.2.2.1 (gV kw_352 kw_353 kw_354 kw_2 kw_355) rfl rfl rfl (by decide +kernel) ⟨Nat.le_of_ble_eq_true rfl, Nat.le_of_ble_eq_true rfl⟩) ⟨mw_blind st_S.blind, mw_recv B hI cc rfl, mw_pre B hI (hSt.call hI hA)⟩ rfl rfl hl.1 rfl (lv_room (Nat.le_of_ble_eq_true rfl)) dX2_low_15 ⟨Nat.le_of_ble_eq_true rfl, Nat.le_of_ble_eq_true rfl⟩) (fun r f H locs hp hI2 => ?_)
    clear hI
    have hI := hI2
    clear hI2
    obtain ⟨rfl, rfl⟩ := hp
    exact mw_lret B hQ hrt hI ⟨by unfold sp_low; rw [if_pos h1], ⟨_, hD, hsl⟩, ho⟩ dX2_low_18
  · have h1 : ¬ (sOk a) := fun q => by rw [if_pos q] at hc; exact absurd hc (by decide)
    refine mv_lconst0 B dX2_low_7 ?_
    exact mw_lret B hQ hrt hI ⟨by unfold sp_low; rw [if_neg h1], ⟨_, hD, hsl⟩, ho⟩ dX2_low_8
