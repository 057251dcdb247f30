abbrev rm_X2_isSlot : Room := { frames := 0, cells := 0, slots := 0, locals := 0 }
set_option maxHeartbeats 4000000 in
set_option maxRecDepth 100000 in
/-- isSlot -/
theorem t_X2_isSlot (l : Launch) (D : va_G) (kA : Nat → ClassId) (sz : Nat) (f0 : mw_M) {x : Int} (hx : -2147483648 ≤ x ∧ x ≤ 2147483647) : mw_Mi l yX2_isSlot (Cond.code yX2_isSlot cX2_isSlot 1 ((some .boolean)) :: gw) rm_X2_isSlot D vwCl (tyL kA) st_S [.int (iI (x))] f0 sz (fun v f => v = iI (if sOk x then 1 else 0) ∧ f = f0) 0 0 := by
  refine mw_ofi (cc := cX2_isSlot) (maxL := 1) (ret := (some .boolean)) (by decide) rfl (Nat.le_of_ble_eq_true rfl) ?_
  intro p e s m below meth c A ls Q hQ B hrt hnm hA hI hSt hl
  have hl : lv_has ls 1 [(0, .int (iI (x)))] := hl
  obtain ⟨f, hI, hf⟩ : ∃ f, mw_I D vwCl A s s.heap [] f ∧ f = f0 := ⟨f0, hI, rfl⟩
  refine mv_iload_n B dX2_isSlot_0 rfl (lv_at hl 0 rfl) ?_
  refine mv_if_lt (tgt := 14) B dX2_isSlot_1 (by decide) (by omega) (fun hc => ?_) (fun hc => ?_)
  · refine mv_iconst B dX2_isSlot_14 ?_
    exact mw_zret B hQ hrt (by decide) hI ⟨by rw [if_neg (by omega)], hf⟩ dX2_isSlot_15
  · refine mv_iload_n B dX2_isSlot_4 rfl (lv_at hl 0 rfl) ?_
    refine mv_bipush B dX2_isSlot_5 (by decide) ?_
    refine mv_icmp_ge (tgt := 14) B dX2_isSlot_7 (by decide) (by omega) (fun hc2 => ?_) (fun hc2 => ?_)
    · refine mv_iconst B dX2_isSlot_14 ?_
      exact mw_zret B hQ hrt (by decide) hI ⟨by rw [if_neg (by omega)], hf⟩ dX2_isSlot_15
    · refine mv_iconst B dX2_isSlot_10 ?_
      refine mv_goto (tgt := 15) B dX2_isSlot_11 (by decide) ?_
      exact mw_zret B hQ hrt (by decide) hI ⟨by rw [if_pos (by omega)], hf⟩ dX2_isSlot_15
abbrev rm_X2_areSlots : Room := { frames := 1, cells := 0, slots := 0, locals := 20 }
set_option maxHeartbeats 4000000 in
set_option maxRecDepth 100000 in
/-- areSlots -/
theorem t_X2_areSlots (l : Launch) (D : va_G) (kA : Nat → ClassId) (sz : Nat) (f0 : mw_M) {x y : Int} (hx : -2147483648 ≤ x ∧ x ≤ 2147483647) (hy : -2147483648 ≤ y ∧ y ≤ 2147483647) : mw_Mi l yX2_areSlots (Cond.code yX2_areSlots cX2_areSlots 2 ((some .boolean)) :: gw) rm_X2_areSlots D vwCl (tyL kA) st_S [.int (iI (x)), .int (iI (y))] f0 sz (fun v f => v = iI (if sOk x ∧ sOk y then 1 else 0) ∧ f = f0) 0 0 := by
  refine mw_ofi (cc := cX2_areSlots) (maxL := 2) (ret := (some .boolean)) (by decide) rfl (Nat.le_of_ble_eq_true rfl) ?_
  intro p e s m below meth c A ls Q hQ B hrt hnm hA hI hSt hl
  have hl : lv_has ls 2 [(0, .int (iI (x))), (1, .int (iI (y)))] := hl
  obtain ⟨f, hI, hf⟩ : ∃ f, mw_I D vwCl A s s.heap [] f ∧ f = f0 := ⟨f0, hI, rfl⟩
  refine mv_iload_n B dX2_areSlots_0 rfl (lv_at hl 0 rfl) ?_
  refine mw_calli hI hA (va_runS (As := [.int (iI (x))]) (rest := []) B.fix (t_X2_isSlot l D kA s.heap.size f hx) (cwS 1 B.2.2.2.2.1 (gS kw_93 kw_94 kw_1 kw_95) rfl rfl rfl (by decide +kernel) ⟨Nat.le_of_ble_eq_true rfl, Nat.le_of_ble_eq_true rfl⟩) ⟨mw_blind st_S.blind, mw_pre B hI (hSt.call hI hA)⟩ rfl rfl hl.1 rfl (lv_room (Nat.le_of_ble_eq_true rfl)) dX2_areSlots_1 ⟨Nat.le_of_ble_eq_true rfl, Nat.le_of_ble_eq_true rfl⟩) (fun r f H locs hp hI2 => ?_)
  clear hI
  have hI := hI2
  clear hI2
  obtain ⟨rfl, rfl⟩ := hp
  refine mv_if_eq (tgt := 18) B dX2_areSlots_4 (by decide) (by split <;> omega) (fun hc => ?_) (fun hc => ?_)
  · refine mv_iconst B dX2_areSlots_18 ?_
    exact mw_zret B hQ hrt (by decide) hI ⟨by rw [if_neg (fun q => by simp [q] at hc)], hf⟩ dX2_areSlots_19
  · have h1 : sOk x := by
      by_cases q : sOk x
      · exact q
      · rw [if_neg q] at hc; exact absurd rfl hc
    refine mv_iload_n B dX2_areSlots_7 rfl (lv_at hl 1 rfl) ?_
    refine mw_calli hI hA (va_runS (As := [.int (iI (y))]) (rest := []) B.fix (t_X2_isSlot l D kA H.size f hy) (cwS 1 B.2.2.2.2.1 (gS kw_93 kw_94 kw_1 kw_95) rfl rfl rfl (by decide +kernel) ⟨Nat.le_of_ble_eq_true rfl, Nat.le_of_ble_eq_true rfl⟩) ⟨mw_blind st_S.blind, mw_pre B hI (hSt.call hI hA)⟩ rfl rfl hl.1 rfl (lv_room (Nat.le_of_ble_eq_true rfl)) dX2_areSlots_8 ⟨Nat.le_of_ble_eq_true rfl, Nat.le_of_ble_eq_true rfl⟩) (fun r f H locs hp hI2 => ?_)
    clear hI
    have hI := hI2
    clear hI2
    obtain ⟨rfl, rfl⟩ := hp
    refine mv_if_eq (tgt := 18) B dX2_areSlots_11 (by decide) (by split <;> omega) (fun hc2 => ?_) (fun hc2 => ?_)
    · refine mv_iconst B dX2_areSlots_18 ?_
      exact mw_zret B hQ hrt (by decide) hI ⟨by rw [if_neg (fun q => by simp [q.2] at hc2)], hf⟩ dX2_areSlots_19
    · have h2 : sOk y := by
        by_cases q : sOk y
        · exact q
        · rw [if_neg q] at hc2; exact absurd rfl hc2
      refine mv_iconst B dX2_areSlots_14 ?_
      refine mv_goto (tgt := 19) B dX2_areSlots_15 (by decide) ?_
      exact mw_zret B hQ hrt (by decide) hI ⟨by rw [if_pos ⟨h1, h2⟩], hf⟩ dX2_areSlots_19
abbrev rm_X2_keep : Room := { frames := 2, cells := 0, slots := 0, locals := 61 }
set_option maxHeartbeats 4000000 in
set_option maxRecDepth 100000 in
/-- keep -/
theorem t_X2_keep (l : Launch) (D : va_G) (kA : Nat → ClassId) (sz : Nat) (f0 : mw_M) {d sl pa : Nat} {w ra : Nat → Nat} {Y : Nat → Int} {t : Nat} {x : Int} (hD : DK kA f0 d sl pa w ra Y) (hB : ∀ i, i < 16 → ((Y i).natAbs : Int) < 1000000 ^ 50) (ht : t < 24) (hx : sOk x) : mw_Mi l yX2_keep (Cond.code yX2_keep cX2_keep 3 ((some .int)) :: gw) rm_X2_keep D vwCl (tyL kA) st_S [.ref d, .ref ((w t)), .int (iI (x))] f0 sz (fun v f => v = iI (kp Y x (Y t)).1 ∧ DK kA f d sl pa w ra (kp Y x (Y t)).2 ∧ ∀ k, ¬ dks d sl pa w ra k → f k = f0 k) 0 0 := by
  refine mw_ofi (cc := cX2_keep) (maxL := 3) (ret := (some .int)) (by decide) rfl (Nat.le_of_ble_eq_true rfl) ?_
  intro p e s m below meth c A ls Q hQ B hrt hnm hA hI hSt hl
  have hl : lv_has ls 3 [(0, .ref d), (1, .ref ((w t))), (2, .int (iI (x)))] := hl
  obtain ⟨f, hI, hf⟩ : ∃ f, mw_I D vwCl A s s.heap [] f ∧ f = f0 := ⟨f0, hI, rfl⟩
  rw [← hf] at hD
  have ho : ∀ k, ¬ dks d sl pa w ra k → f k = f0 k := fun k _ => by rw [hf]
  obtain ⟨g, n, b, c1, c2, c3_⟩ := id (hD.rp (i := t) (by omega))
  have m1 := c3_.1
  have m2 := c3_.size 50
  refine mv_aload_n B dX2_keep_0 rfl (lv_at hl 1 rfl) ?_
  refine mw_calli hI hA (va_runV (As := []) (rest := []) B.fix (t_X1_isTooLong l D kA s.heap.size f c1 (by omega)) (cwV 0 B.2.2.2.2.1 (gV kw_148 kw_149 kw_150 kw_2 kw_151) rfl rfl rfl (by decide +kernel) ⟨Nat.le_of_ble_eq_true rfl, Nat.le_of_ble_eq_true rfl⟩) ⟨mw_blind st_S.blind, mw_recv B hI c1 rfl, mw_pre B hI (hSt.call hI hA)⟩ rfl rfl hl.1 rfl (lv_room (Nat.le_of_ble_eq_true rfl)) dX2_keep_1 ⟨Nat.le_of_ble_eq_true rfl, Nat.le_of_ble_eq_true rfl⟩) (fun r f H locs hp hI2 => ?_)
  clear hI
  have hI := hI2
  clear hI2
  obtain ⟨rfl, rfl⟩ := hp
  refine mv_if_eq (tgt := 9) B dX2_keep_4 (by decide) (by split <;> omega) (fun hc => ?_) (fun hc => ?_)
  · have hfit : ((Y t).natAbs : Int) < 1000000 ^ 50 := m2.mp (by
      by_cases q : (n : Int) ≤ 50
      · omega
      · rw [if_neg q] at hc; exact absurd hc (by decide))
    refine mv_aload_n B dX2_keep_9 rfl (lv_at hl 0 rfl) ?_
    refine mw_get (C := RX2) (T := TX2) (N := 7) B hI hD.1 uin_X2 rfl 0 (by decide) kw_67 rfl dX2_keep_10 ?_
    refine mv_iload_n B dX2_keep_13 rfl (lv_at hl 2 rfl) ?_
    obtain ⟨gs, hs1, hs2⟩ := hD.2.1
    refine mw_aald B hI 1 hs1 rfl (x.toNat) (by omega) (by omega) (by decide) (hs2 _ (by omega)) dX2_keep_14 ?_
    refine mv_aload_n B dX2_keep_15 rfl (lv_at hl 1 rfl) ?_
    obtain ⟨_, _, _, cc, -, -⟩ := id (hD.rp (i := x.toNat) (by omega))
    have hd : w t = w x.toNat ∧ ra t = ra x.toNat ∨ w t ≠ w x.toNat ∧ ra t ≠ ra x.toNat := by
      by_cases q : t = x.toNat
      · left; rw [q]; exact ⟨rfl, rfl⟩
      · right; exact hD.ne ht (by omega) q
    refine mw_callv hI hA (va_runV (As := [.ref ((w t))]) (rest := []) B.fix (t_X1_take l D kA H.size f (hD.rp (i := x.toNat) (by omega)).w (hD.rp (i := t) (by omega)) hd) (cwV 1 B.2.2.2.2.1 (gV kw_152 kw_153 kw_154 kw_2 kw_155) rfl rfl rfl (by decide +kernel) ⟨Nat.le_of_ble_eq_true rfl, Nat.le_of_ble_eq_true rfl⟩) ⟨mw_blind st_S.blind, mw_recv B hI cc rfl, mw_pre B hI (hSt.call hI hA)⟩ rfl rfl hl.1 rfl (lv_room (Nat.le_of_ble_eq_true rfl)) dX2_keep_16 ⟨Nat.le_of_ble_eq_true rfl, Nat.le_of_ble_eq_true rfl⟩) (fun f H locs hp hI2 => ?_)
    clear hI
    have hI := hI2
    clear hI2
    obtain ⟨hR, o1⟩ := hp
    have ho : ∀ k, ¬ dks d sl pa w ra k → f k = f0 k := fun k h => (o1 k (dks_w h (show x.toNat < 24 by omega)).1 (dks_w h (show x.toNat < 24 by omega)).2).trans (ho k h)
    have hD := hD.upd (t := x.toNat) (by omega) hR o1
    refine mv_iconst B dX2_keep_19 ?_
    exact mw_iret B hQ hrt hI ⟨by rw [kp_y hfit], by rw [kp_y hfit]; exact hD, ho⟩ dX2_keep_20
  · have hfit : ¬ ((Y t).natAbs : Int) < 1000000 ^ 50 := fun q => hc (by rw [if_pos (by have := m2.mpr q; omega)])
    refine mv_iconst B dX2_keep_7 ?_
    exact mw_iret B hQ hrt hI ⟨by rw [kp_n hfit], by rw [kp_n hfit]; exact hD, ho⟩ dX2_keep_8
abbrev rm_X2_set : Room := { frames := 2, cells := 0, slots := 0, locals := 49 }
set_option maxHeartbeats 4000000 in
set_option maxRecDepth 100000 in
/-- set -/
theorem t_X2_set (l : Launch) (D : va_G) (kA : Nat → ClassId) (sz : Nat) (f0 : mw_M) {d sl pa : Nat} {w ra : Nat → Nat} {Y : Nat → Int} {x v_ : Int} (hD : DK kA f0 d sl pa w ra Y) (hB : ∀ i, i < 16 → ((Y i).natAbs : Int) < 1000000 ^ 50) (hx : -2147483648 ≤ x ∧ x ≤ 2147483647) (hv : -9223372036854775808 ≤ v_ ∧ v_ ≤ 9223372036854775807) : mw_Mi l yX2_set (Cond.code yX2_set cX2_set 4 ((some .int)) :: gw) rm_X2_set D vwCl (tyL kA) st_S [.ref d, .int (iI (x)), .long (lI (v_))] f0 sz (fun v f => v = iI (sp_set Y x v_).1 ∧ (∃ Y', DK kA f d sl pa w ra Y' ∧ ∀ i, i < 16 → Y' i = (sp_set Y x v_).2 i) ∧ ∀ k, ¬ dks d sl pa w ra k → f k = f0 k) 0 0 := by
  refine mw_ofi (cc := cX2_set) (maxL := 4) (ret := (some .int)) (by decide) rfl (Nat.le_of_ble_eq_true rfl) ?_
  intro p e s m below meth c A ls Q hQ B hrt hnm hA hI hSt hl
  have hl : lv_has ls 4 [(0, .ref d), (1, .int (iI (x))), (2, .long (lI (v_)))] := hl
  obtain ⟨f, hI, hf⟩ : ∃ f, mw_I D vwCl A s s.heap [] f ∧ f = f0 := ⟨f0, hI, rfl⟩
  rw [← hf] at hD
  have ho : ∀ k, ¬ dks d sl pa w ra k → f k = f0 k := fun k _ => by rw [hf]
  refine mv_iload_n B dX2_set_0 rfl (lv_at hl 1 rfl) ?_
  refine mw_calli hI hA (va_runS (As := [.int (iI (x))]) (rest := []) B.fix (t_X2_isSlot l D kA s.heap.size f hx) (cwS 1 B.2.2.2.2.1 (gS kw_93 kw_94 kw_1 kw_95) rfl rfl rfl (by decide +kernel) ⟨Nat.le_of_ble_eq_true rfl, Nat.le_of_ble_eq_true rfl⟩) ⟨mw_blind st_S.blind, mw_pre B hI (hSt.call hI hA)⟩ rfl rfl hl.1 rfl (lv_room (Nat.le_of_ble_eq_true rfl)) dX2_set_1 ⟨Nat.le_of_ble_eq_true rfl, Nat.le_of_ble_eq_true rfl⟩) (fun r f H locs hp hI2 => ?_)
  clear hI
  have hI := hI2
  clear hI2
  obtain ⟨rfl, rfl⟩ := hp
  refine mv_if_ne (tgt := 9) B dX2_set_4 (by decide) (by split <;> omega) (fun hc => ?_) (fun hc => ?_)
  · have h1 : sOk x := by
      by_cases q : sOk x
      · exact q
      · rw [if_neg q] at hc; exact absurd rfl hc
    refine mv_aload_n B dX2_set_9 rfl (lv_at hl 0 rfl) ?_
    refine mw_get (C := RX2) (T := TX2) (N := 7) B hI hD.1 uin_X2 rfl 0 (by decide) kw_67 rfl dX2_set_10 ?_
    refine mv_iload_n B dX2_set_13 rfl (lv_at hl 1 rfl) ?_
    obtain ⟨gs, hs1, hs2⟩ := hD.2.1
    refine mw_aald B hI 1 hs1 rfl (x.toNat) (by omega) (by omega) (by decide) (hs2 _ (by omega)) dX2_set_14 ?_
    refine mv_lload_n B dX2_set_15 rfl (lv_at hl 2 rfl) ?_
    obtain ⟨_, _, _, cc, -, -⟩ := id (hD.rp (i := x.toNat) (by omega))
    refine mw_callv hI hA (va_runV (As := [.long (lI (v_))]) (rest := []) B.fix (t_X1_load l D kA H.size f (hD.rp (i := x.toNat) (by omega)).w hv) (cwV 1 B.2.2.2.2.1 (gV kw_96 kw_97 kw_98 kw_2 kw_99) rfl rfl rfl (by decide +kernel) ⟨Nat.le_of_ble_eq_true rfl, Nat.le_of_ble_eq_true rfl⟩) ⟨mw_blind st_S.blind, mw_recv B hI cc rfl, mw_pre B hI (hSt.call hI hA)⟩ rfl rfl hl.1 rfl (lv_room (Nat.le_of_ble_eq_true rfl)) dX2_set_16 ⟨Nat.le_of_ble_eq_true rfl, Nat.le_of_ble_eq_true rfl⟩) (fun f H locs hp hI2 => ?_)
    clear hI
    have hI := hI2
    clear hI2
    obtain ⟨hR, o1⟩ := hp
    have ho : ∀ k, ¬ dks d sl pa w ra k → f k = f0 k := fun k h => (o1 k (dks_w h (show x.toNat < 24 by omega)).1 (dks_w h (show x.toNat < 24 by omega)).2).trans (ho k h)
    have hD := hD.upd (t := x.toNat) (by omega) hR o1
    refine mv_iconst B dX2_set_19 ?_
    have e9 : sp_set Y x v_ = (1, upI Y x.toNat v_) := by unfold sp_set; rw [if_pos h1]
    exact mw_iret B hQ hrt hI ⟨by rw [e9], ⟨_, hD, fun i hi => by rw [e9]⟩, ho⟩ dX2_set_20
  · have h1 : ¬ (sOk x) := fun q => by rw [if_pos q] at hc; exact absurd hc (by decide)
    refine mv_iconst B dX2_set_7 ?_
    have e9 : sp_set Y x v_ = (-1, Y) := by unfold sp_set; rw [if_neg h1]
    exact mw_iret B hQ hrt hI ⟨by rw [e9], ⟨Y, hD, fun i hi => by rw [e9]⟩, ho⟩ dX2_set_8
