abbrev rm_X2_power : Room := { frames := 3, cells := 0, slots := 0, locals := 83 }
set_option maxHeartbeats 4000000 in
set_option maxRecDepth 100000 in
/-- power -/
theorem t_X2_power (l : Launch) (D : va_G) (kA : Nat → ClassId) (sz : Nat) (f0 : mw_M) {d sl pa : Nat} {w ra : Nat → Nat} {Y : Nat → Int} {a e_ t : Int} (hD : DK kA f0 d sl pa w ra Y) (hB : ∀ i, i < 16 → ((Y i).natAbs : Int) < 1000000 ^ 50) (ha : -2147483648 ≤ a ∧ a ≤ 2147483647) (he_ : -2147483648 ≤ e_ ∧ e_ ≤ 2147483647) (ht : -2147483648 ≤ t ∧ t ≤ 2147483647) : mw_Mi l yX2_power (Cond.code yX2_power cX2_power 8 ((some .int)) :: gw) rm_X2_power D vwCl (tyL kA) st_S [.ref d, .int (iI (a)), .int (iI (e_)), .int (iI (t))] f0 sz (fun v f => v = iI (sp_power Y a e_ t).1 ∧ (∃ Y', DK kA f d sl pa w ra Y' ∧ ∀ i, i < 16 → Y' i = (sp_power Y a e_ t).2 i) ∧ ∀ k, ¬ dks d sl pa w ra k → f k = f0 k) 0 0 := by
  refine mw_ofi (cc := cX2_power) (maxL := 8) (ret := (some .int)) (by decide) rfl (Nat.le_of_ble_eq_true rfl) ?_
  intro p e s m below meth c A ls Q hQ B hrt hnm hA hI hSt hl
  have hl : lv_has ls 8 [(0, .ref d), (1, .int (iI (a))), (2, .int (iI (e_))), (3, .int (iI (t)))] := hl
  obtain ⟨f, hI, hf⟩ : ∃ f, mw_I D vwCl A s s.heap [] f ∧ f = f0 := ⟨f0, hI, rfl⟩
  rw [← hf] at hD
  have ho : ∀ k, ¬ dks d sl pa w ra k → f k = f0 k := fun k _ => by rw [hf]
  have hsl : ∀ i, i < 16 → Y i = Y i := fun _ _ => rfl
  refine mv_iload_n B dX2_power_0 rfl (lv_at hl 1 rfl) ?_
  refine mv_iload_n B dX2_power_1 rfl (lv_at hl 3 rfl) ?_
  refine mw_calli hI hA (va_runS (As := [.int (iI (a)), .int (iI (t))]) (rest := []) B.fix (t_X2_areSlots l D kA s.heap.size f ha ht) (cwS 2 B.2.2.2.2.1 (gS kw_163 kw_164 kw_1 kw_165) rfl rfl rfl (by decide +kernel) ⟨Nat.le_of_ble_eq_true rfl, Nat.le_of_ble_eq_true rfl⟩) ⟨mw_blind st_S.blind, mw_pre B hI (hSt.call hI hA)⟩ rfl rfl hl.1 rfl (lv_room (Nat.le_of_ble_eq_true rfl)) dX2_power_2 ⟨Nat.le_of_ble_eq_true rfl, Nat.le_of_ble_eq_true rfl⟩) (fun r f H locs hp hI2 => ?_)
  clear hI
  have hI := hI2
  clear hI2
  obtain ⟨rfl, rfl⟩ := hp
  refine mv_if_eq (tgt := 19) B dX2_power_5 (by decide) (by split <;> omega) (fun hc => ?_) (fun hc => ?_)
  · have h1 : ¬ (sOk a ∧ sOk t) := fun q => by rw [if_pos q] at hc; exact absurd hc (by decide)
    refine mv_iconst B dX2_power_19 ?_
    have e9 : sp_power Y a e_ t = (-1, Y) := by unfold sp_power; rw [if_neg (fun q => h1 ⟨q.1, q.2.1⟩)]
    exact mw_iret B hQ hrt hI ⟨by rw [e9], ⟨_, hD, fun i hi => (hsl i hi).trans (by rw [e9])⟩, ho⟩ dX2_power_20
  · have h1 : sOk a ∧ sOk t := by
      by_cases q : sOk a ∧ sOk t
      · exact q
      · rw [if_neg q] at hc; exact absurd rfl hc
    refine mv_iload_n B dX2_power_8 rfl (lv_at hl 2 rfl) ?_
    refine mv_if_lt (tgt := 19) B dX2_power_9 (by decide) (by omega) (fun hc2 => ?_) (fun hc2 => ?_)
    · refine mv_iconst B dX2_power_19 ?_
      have e9 : sp_power Y a e_ t = (-1, Y) := by unfold sp_power; rw [if_neg (fun q => by omega)]
      exact mw_iret B hQ hrt hI ⟨by rw [e9], ⟨_, hD, fun i hi => (hsl i hi).trans (by rw [e9])⟩, ho⟩ dX2_power_20
    · refine mv_iload_n B dX2_power_12 rfl (lv_at hl 2 rfl) ?_
      refine mv_sipush B dX2_power_13 (by decide) ?_
      refine mv_icmp_le (tgt := 21) B dX2_power_16 (by decide) (by omega) (fun hc3 => ?_) (fun hc3 => ?_)
      · obtain ⟨E, hE⟩ : ∃ E : Nat, e_ = (E : Int) := ⟨e_.toNat, by omega⟩
        have hE2 : E ≤ 1000 := by omega
        have b5 := b50
        have ba := hB a.toNat (by omega)
        have e9 : sp_power Y a e_ t = kp Y t (Y a.toNat ^ E) := by unfold sp_power; rw [if_pos ⟨h1.1, h1.2, by omega, by omega⟩, hE]; rfl
        refine mv_aload_n B dX2_power_21 rfl (lv_at hl 0 rfl) ?_
        refine mw_get (C := RX2) (T := TX2) (N := 7) B hI hD.1 uin_X2 rfl 3 (by decide) kw_70 rfl dX2_power_22 ?_
        refine mv_astore (lv' := [(4, .ref ((w 18))), (0, .ref d), (1, .int (iI (a))), (2, .int (iI (e_))), (3, .int (iI (t)))]) B dX2_power_25 hl (by decide) rfl (fun ls hl => ?_)
        refine mv_aload_n B dX2_power_27 rfl (lv_at hl 1 rfl) ?_
        refine mw_get (C := RX2) (T := TX2) (N := 7) B hI hD.1 uin_X2 rfl 4 (by decide) kw_71 rfl dX2_power_28 ?_
        refine mv_astore (lv' := [(5, .ref ((w 19))), (4, .ref ((w 18))), (0, .ref d), (1, .int (iI (a))), (2, .int (iI (e_))), (3, .int (iI (t)))]) B dX2_power_31 hl (by decide) rfl (fun ls hl => ?_)
        refine mv_aload B dX2_power_33 (lv_at hl 1 rfl) ?_
        refine mv_lconst1 B dX2_power_35 ?_
        obtain ⟨_, _, _, cc, -, -⟩ := id (hD.rp (i := 18) (by omega))
        refine mw_callv hI hA (va_runV (As := [.long (lI (1))]) (rest := []) B.fix (t_X1_load l D kA H.size f (hD.rp (i := 18) (by omega)).w (by decide)) (cwV 1 B.2.2.2.2.1 (gV kw_96 kw_97 kw_98 kw_2 kw_99) rfl rfl rfl (by decide +kernel) ⟨Nat.le_of_ble_eq_true rfl, Nat.le_of_ble_eq_true rfl⟩) ⟨mw_blind st_S.blind, mw_recv B hI cc rfl, mw_pre B hI (hSt.call hI hA)⟩ rfl rfl hl.1 rfl (lv_room (Nat.le_of_ble_eq_true rfl)) dX2_power_36 ⟨Nat.le_of_ble_eq_true rfl, Nat.le_of_ble_eq_true rfl⟩) (fun f H locs hp hI2 => ?_)
        clear hI
        have hI := hI2
        clear hI2
        obtain ⟨hR, o1⟩ := hp
        have ho : ∀ k, ¬ dks d sl pa w ra k → f k = f0 k := fun k h => (o1 k (dks_w h (show 18 < 24 by omega)).1 (dks_w h (show 18 < 24 by omega)).2).trans (ho k h)
        obtain ⟨Y1, hY1, hD⟩ : ∃ Z, Z = upI Y (18) (1) ∧ DK kA f d sl pa w ra Z := ⟨_, rfl, hD.upd (t := 18) (by omega) hR o1⟩
        have v1 : Y1 (18) = 1 := by rw [hY1, upI_self]
        have r1 : ∀ i, i ≠ 18 → Y1 i = Y i := fun i hi => by rw [hY1, upI_ne _ _ hi]
        have hsl : ∀ i, i < 16 → Y1 i = Y i := fun i hi => (r1 i (by omega)).trans (hsl i hi)
        refine mv_sipush B dX2_power_39 (by decide) ?_
        refine mv_istore (lv' := [(6, .int (iI (512))), (5, .ref ((w 19))), (4, .ref ((w 18))), (0, .ref d), (1, .int (iI (a))), (2, .int (iI (e_))), (3, .int (iI (t)))]) B dX2_power_42 hl (by decide) rfl (fun ls hl => ?_)
        have loop : ∀ (μ : Nat) (j : Nat) (bi : Int) (gu nu : Nat) (Yc : Nat → Int) (f : mw_M) (H : Heap) (locs : List Loc) (ls : Array Slot), j < μ → bi = bt_ j → j ≤ 10 → (gu = 18 ∧ nu = 19 ∨ gu = 19 ∧ nu = 18) → DK kA f d sl pa w ra Yc → (∀ i, i < 16 → Yc i = Y i) → Yc gu = Y a.toNat ^ (E / 2 ^ j) → ((Yc gu).natAbs : Int) < 1000000 ^ 50 → (∀ k, ¬ dks d sl pa w ra k → f k = f0 k) → mw_I D vwCl A s H locs f → lv_has ls 8 [(6, .int (iI (bi))), (5, .ref ((w nu))), (4, .ref ((w gu))), (0, .ref d), (1, .int (iI (a))), (2, .int (iI (e_))), (3, .int (iI (t)))] → W p l e rm_X2_power s m ([.ref d, .int (iI (a)), .int (iI (e_)), .int (iI (t))] : List Value).toArray below meth c H locs 0 0 Q (F0 m 44 ls []) := by
          intro μ
          induction μ with
          | zero => intro j bi gu nu Yc f H locs ls hμ; exact absurd hμ (Nat.not_lt_zero _)
          | succ μ ih =>
            intro j bi gu nu Yc f H locs ls hμ hbi hj hgn hD hsl hv hfit ho hI hl
            have b0 := bt_in j (by omega)
            refine mv_iload B dX2_power_44 (lv_at hl 0 rfl) ?_
            refine mv_if_le (tgt := 122) B dX2_power_46 (by decide) (by omega) (fun hd0 => ?_) (fun hd0 => ?_)
            · obtain rfl : j = 0 := by have := b0.2.2; omega
              rw [Nat.pow_zero, Nat.div_one] at hv
              refine mv_aload_n B dX2_power_122 rfl (lv_at hl 3 rfl) ?_
              refine mv_aload B dX2_power_123 (lv_at hl 2 rfl) ?_
              refine mv_iload_n B dX2_power_125 rfl (lv_at hl 6 rfl) ?_
              refine mw_calli hI hA (va_runV (As := [.ref ((w gu)), .int (iI (t))]) (rest := []) B.fix (t_X2_keep l D kA H.size f (t := gu) hD (fun i hi => by rw [hsl i hi]; exact hB i hi) (by omega) h1.2) (cwV 2 B.2.2.2.2.1 (gV kw_144 kw_146 ks_2 kw_1 kw_147) rfl rfl rfl (by decide +kernel) ⟨Nat.le_of_ble_eq_true rfl, Nat.le_of_ble_eq_true rfl⟩) ⟨mw_blind st_S.blind, mw_recv B hI hD.1 rfl, mw_pre B hI (hSt.call hI hA)⟩ rfl rfl hl.1 rfl (lv_room (Nat.le_of_ble_eq_true rfl)) dX2_power_126 ⟨Nat.le_of_ble_eq_true rfl, Nat.le_of_ble_eq_true rfl⟩) (fun r f H locs hp hI2 => ?_)
              clear hI
              have hI := hI2
              clear hI2
              obtain ⟨rfl, hD, o1⟩ := hp
              have ho : ∀ k, ¬ dks d sl pa w ra k → f k = f0 k := fun k h => (o1 k h).trans (ho k h)
              have e8 := kp_same (x := t) hv hsl
              exact mw_iret B hQ hrt hI ⟨(congrArg iI e8.1).trans (by rw [e9]), ⟨_, hD, fun i hi => (e8.2 i hi).trans (by rw [e9])⟩, ho⟩ dX2_power_129
            · obtain ⟨k, rfl⟩ : ∃ k, j = k + 1 := ⟨j - 1, by have := b0.2.2; omega⟩
              have hbk : bi = ((2 ^ k : Nat) : Int) := by rw [hbi]; show (2 : Int) ^ k = _; rw [Int.natCast_pow]; rfl
              have pb := pw_bit (e := E) (j := k)
              have hEk : E / 2 ^ k ≤ E := Nat.div_le_self _ _
              refine mv_aload B dX2_power_49 (lv_at hl 1 rfl) ?_
              refine mv_aload B dX2_power_51 (lv_at hl 2 rfl) ?_
              refine mv_aload B dX2_power_53 (lv_at hl 2 rfl) ?_
              obtain ⟨_, _, _, cc, -, -⟩ := id (hD.rp (i := nu) (by omega))
              refine mw_callv hI hA (va_runV (As := [.ref ((w gu)), .ref ((w gu))]) (rest := []) B.fix (t_X1_takeProduct l D kA H.size f (hD.rp (i := nu) (by omega)).w (hD.rp (i := gu) (by omega)) (hD.rp (i := gu) (by omega)) (hD.ne (i := gu) (j := nu) (by omega) (by omega) (by omega)).1 (hD.ne (i := gu) (j := nu) (by omega) (by omega) (by omega)).2 (hD.ne (i := gu) (j := nu) (by omega) (by omega) (by omega)).1 (hD.ne (i := gu) (j := nu) (by omega) (by omega) (by omega)).2 hfit hfit) (cwV 2 B.2.2.2.2.1 (gV kw_113 kw_114 kw_115 kw_2 kw_116) rfl rfl rfl (by decide +kernel) ⟨Nat.le_of_ble_eq_true rfl, Nat.le_of_ble_eq_true rfl⟩) ⟨mw_blind st_S.blind, mw_recv B hI cc rfl, mw_pre B hI (hSt.call hI hA)⟩ rfl rfl hl.1 rfl (lv_room (Nat.le_of_ble_eq_true rfl)) dX2_power_55 ⟨Nat.le_of_ble_eq_true rfl, Nat.le_of_ble_eq_true rfl⟩) (fun f H locs hp hI2 => ?_)
              clear hI
              have hI := hI2
              clear hI2
              obtain ⟨hR, o1⟩ := hp
              have ho : ∀ k, ¬ dks d sl pa w ra k → f k = f0 k := fun k h => (o1 k (dks_w h (show nu < 24 by omega)).1 (dks_w h (show nu < 24 by omega)).2).trans (ho k h)
              obtain ⟨Y11, hY11, hD⟩ : ∃ Z, Z = upI Yc (nu) (Yc (gu) * Yc (gu)) ∧ DK kA f d sl pa w ra Z := ⟨_, rfl, hD.upd (t := nu) (by omega) hR o1⟩
              have v11 : Y11 (nu) = Yc (gu) * Yc (gu) := by rw [hY11, upI_self]
              have r11 : ∀ i, i ≠ nu → Y11 i = Yc i := fun i hi => by rw [hY11, upI_ne _ _ hi]
              have hsl : ∀ i, i < 16 → Y11 i = Y i := fun i hi => (r11 i (by omega)).trans (hsl i hi)
              have vn : Y11 nu = Y a.toNat ^ (E / 2 ^ (k + 1) + E / 2 ^ (k + 1)) := by rw [v11, hv, Int.pow_add]
              have eg : Y11 gu = Yc gu := r11 _ (by omega)
              refine mv_aload B dX2_power_58 (lv_at hl 1 rfl) ?_
              obtain ⟨g, n, b_, c1, c2, c3_⟩ := id (hD.rp (i := nu) (by omega))
              have m1 := c3_.1
              have m2 := c3_.size 50
              refine mw_calli hI hA (va_runV (As := []) (rest := []) B.fix (t_X1_isTooLong l D kA H.size f c1 (by omega)) (cwV 0 B.2.2.2.2.1 (gV kw_148 kw_149 kw_150 kw_2 kw_151) rfl rfl rfl (by decide +kernel) ⟨Nat.le_of_ble_eq_true rfl, Nat.le_of_ble_eq_true rfl⟩) ⟨mw_blind st_S.blind, mw_recv B hI c1 rfl, mw_pre B hI (hSt.call hI hA)⟩ rfl rfl hl.1 rfl (lv_room (Nat.le_of_ble_eq_true rfl)) dX2_power_60 ⟨Nat.le_of_ble_eq_true rfl, Nat.le_of_ble_eq_true rfl⟩) (fun r f H locs hp hI2 => ?_)
              clear hI
              have hI := hI2
              clear hI2
              obtain ⟨rfl, rfl⟩ := hp
              have hsl11 := hsl
              refine mv_if_eq (tgt := 68) B dX2_power_63 (by decide) (by split <;> omega) (fun hd1 => ?_) (fun hd1 => ?_)
              · have hf1 : ((Y11 nu).natAbs : Int) < 1000000 ^ 50 := m2.mp (by
                  by_cases q : (n : Int) ≤ 50
                  · omega
                  · rw [if_neg q] at hd1; exact absurd hd1 (by decide))
                refine mv_iload_n B dX2_power_68 rfl (lv_at hl 5 rfl) ?_
                refine mv_iload B dX2_power_69 (lv_at hl 0 rfl) ?_
                refine mv_andne2 E k hE (tgt := 90) B dX2_power_71 dX2_power_72 (by decide) (by omega) (by omega) hbk (fun hd2 => ?_) (fun hd2 => ?_)
                · have od : E / 2 ^ k = E / 2 ^ (k + 1) + E / 2 ^ (k + 1) + 1 := by omega
                  refine mv_aload B dX2_power_90 (lv_at hl 2 rfl) ?_
                  refine mv_aload B dX2_power_92 (lv_at hl 1 rfl) ?_
                  refine mv_aload_n B dX2_power_94 rfl (lv_at hl 3 rfl) ?_
                  refine mw_get (C := RX2) (T := TX2) (N := 7) B hI hD.1 uin_X2 rfl 0 (by decide) kw_67 rfl dX2_power_95 ?_
                  refine mv_iload_n B dX2_power_98 rfl (lv_at hl 4 rfl) ?_
                  obtain ⟨gs, hs1, hs2⟩ := hD.2.1
                  refine mw_aald B hI 1 hs1 rfl (a.toNat) (by omega) (by omega) (by decide) (hs2 _ (by omega)) dX2_power_99 ?_
                  obtain ⟨_, _, _, cc, -, -⟩ := id (hD.rp (i := gu) (by omega))
                  refine mw_callv hI hA (va_runV (As := [.ref ((w nu)), .ref ((w (a.toNat)))]) (rest := []) B.fix (t_X1_takeProduct l D kA H.size f (hD.rp (i := gu) (by omega)).w (hD.rp (i := nu) (by omega)) (hD.rp (i := a.toNat) (by omega)) (hD.ne (i := nu) (j := gu) (by omega) (by omega) (by omega)).1 (hD.ne (i := nu) (j := gu) (by omega) (by omega) (by omega)).2 (hD.ne (i := a.toNat) (j := gu) (by omega) (by omega) (by omega)).1 (hD.ne (i := a.toNat) (j := gu) (by omega) (by omega) (by omega)).2 hf1 (by rw [hsl _ (by omega)]; exact hB _ (by omega))) (cwV 2 B.2.2.2.2.1 (gV kw_113 kw_114 kw_115 kw_2 kw_116) rfl rfl rfl (by decide +kernel) ⟨Nat.le_of_ble_eq_true rfl, Nat.le_of_ble_eq_true rfl⟩) ⟨mw_blind st_S.blind, mw_recv B hI cc rfl, mw_pre B hI (hSt.call hI hA)⟩ rfl rfl hl.1 rfl (lv_room (Nat.le_of_ble_eq_true rfl)) dX2_power_100 ⟨Nat.le_of_ble_eq_true rfl, Nat.le_of_ble_eq_true rfl⟩) (fun f H locs hp hI2 => ?_)
                  clear hI
                  have hI := hI2
                  clear hI2
                  obtain ⟨hR, o1⟩ := hp
                  have ho : ∀ k, ¬ dks d sl pa w ra k → f k = f0 k := fun k h => (o1 k (dks_w h (show gu < 24 by omega)).1 (dks_w h (show gu < 24 by omega)).2).trans (ho k h)
                  obtain ⟨Y12, hY12, hD⟩ : ∃ Z, Z = upI Y11 (gu) (Y11 (nu) * Y11 (a.toNat)) ∧ DK kA f d sl pa w ra Z := ⟨_, rfl, hD.upd (t := gu) (by omega) hR o1⟩
                  have v12 : Y12 (gu) = Y11 (nu) * Y11 (a.toNat) := by rw [hY12, upI_self]
                  have r12 : ∀ i, i ≠ gu → Y12 i = Y11 i := fun i hi => by rw [hY12, upI_ne _ _ hi]
                  have hsl : ∀ i, i < 16 → Y12 i = Y i := fun i hi => (r12 i (by omega)).trans (hsl i hi)
                  have hvv : Y12 gu = Y a.toNat ^ (E / 2 ^ k) := by rw [v12, vn, hsl11 _ (by omega), od, Int.pow_succ]
                  refine mv_aload B dX2_power_103 (lv_at hl 2 rfl) ?_
                  obtain ⟨g, n, b_, c1, c2, c3_⟩ := id (hD.rp (i := gu) (by omega))
                  have m1 := c3_.1
                  have m2 := c3_.size 50
                  refine mw_calli hI hA (va_runV (As := []) (rest := []) B.fix (t_X1_isTooLong l D kA H.size f c1 (by omega)) (cwV 0 B.2.2.2.2.1 (gV kw_148 kw_149 kw_150 kw_2 kw_151) rfl rfl rfl (by decide +kernel) ⟨Nat.le_of_ble_eq_true rfl, Nat.le_of_ble_eq_true rfl⟩) ⟨mw_blind st_S.blind, mw_recv B hI c1 rfl, mw_pre B hI (hSt.call hI hA)⟩ rfl rfl hl.1 rfl (lv_room (Nat.le_of_ble_eq_true rfl)) dX2_power_105 ⟨Nat.le_of_ble_eq_true rfl, Nat.le_of_ble_eq_true rfl⟩) (fun r f H locs hp hI2 => ?_)
                  clear hI
                  have hI := hI2
                  clear hI2
                  obtain ⟨rfl, rfl⟩ := hp
                  refine mv_if_eq (tgt := 113) B dX2_power_108 (by decide) (by split <;> omega) (fun hd3 => ?_) (fun hd3 => ?_)
                  · have hf2 : ((Y12 gu).natAbs : Int) < 1000000 ^ 50 := m2.mp (by
                      by_cases q : (n : Int) ≤ 50
                      · omega
                      · rw [if_neg q] at hd3; exact absurd hd3 (by decide))
                    refine mv_iload B dX2_power_113 (lv_at hl 0 rfl) ?_
                    refine mv_iconst B dX2_power_115 ?_
                    refine mv_ishr1 B dX2_power_116 (by omega) ?_
                    refine mv_istore (lv' := [(6, .int (iI ((bi) / (2)))), (5, .ref ((w nu))), (4, .ref ((w gu))), (0, .ref d), (1, .int (iI (a))), (2, .int (iI (e_))), (3, .int (iI (t)))]) B dX2_power_117 hl (by decide) rfl (fun ls hl => ?_)
                    refine mv_goto (tgt := 44) B dX2_power_119 (by decide) ?_
                    exact ih k _ gu nu Y12 f H locs ls (by omega) (by rw [hbi]; exact bt_half k) (by omega) (by omega) hD hsl hvv hf2 ho hI (lv_sub hl [0, 1, 2, 3, 4, 5, 6] rfl)
                  · have hf2 : ¬ ((Y12 gu).natAbs : Int) < 1000000 ^ 50 := fun q => hd3 (by rw [if_pos (by have := m2.mpr q; omega)])
                    rw [hvv] at hf2
                    have big := pw_mono (A := Y a.toNat) hEk (Int.not_lt.mp hf2)
                    rw [kp_n (Int.not_lt.mpr big)] at e9
                    refine mv_iconst B dX2_power_111 ?_
                    exact mw_iret B hQ hrt hI ⟨by rw [e9], ⟨_, hD, fun i hi => (hsl i hi).trans (by rw [e9])⟩, ho⟩ dX2_power_112
                · have hvv : Y11 nu = Y a.toNat ^ (E / 2 ^ k) := by rw [vn]; congr 1; omega
                  refine mv_aload B dX2_power_75 (lv_at hl 2 rfl) ?_
                  refine mv_astore (lv' := [(7, .ref ((w gu))), (6, .int (iI (bi))), (5, .ref ((w nu))), (4, .ref ((w gu))), (0, .ref d), (1, .int (iI (a))), (2, .int (iI (e_))), (3, .int (iI (t)))]) B dX2_power_77 hl (by decide) rfl (fun ls hl => ?_)
                  refine mv_aload B dX2_power_79 (lv_at hl 2 rfl) ?_
                  refine mv_astore (lv' := [(4, .ref ((w nu))), (7, .ref ((w gu))), (6, .int (iI (bi))), (5, .ref ((w nu))), (0, .ref d), (1, .int (iI (a))), (2, .int (iI (e_))), (3, .int (iI (t)))]) B dX2_power_81 hl (by decide) rfl (fun ls hl => ?_)
                  refine mv_aload B dX2_power_83 (lv_at hl 1 rfl) ?_
                  refine mv_astore (lv' := [(5, .ref ((w gu))), (4, .ref ((w nu))), (7, .ref ((w gu))), (6, .int (iI (bi))), (0, .ref d), (1, .int (iI (a))), (2, .int (iI (e_))), (3, .int (iI (t)))]) B dX2_power_85 hl (by decide) rfl (fun ls hl => ?_)
                  refine mv_goto (tgt := 103) B dX2_power_87 (by decide) ?_
                  refine mv_aload B dX2_power_103 (lv_at hl 1 rfl) ?_
                  obtain ⟨g, n, b_, c1, c2, c3_⟩ := id (hD.rp (i := nu) (by omega))
                  have m1 := c3_.1
                  have m2 := c3_.size 50
                  refine mw_calli hI hA (va_runV (As := []) (rest := []) B.fix (t_X1_isTooLong l D kA H.size f c1 (by omega)) (cwV 0 B.2.2.2.2.1 (gV kw_148 kw_149 kw_150 kw_2 kw_151) rfl rfl rfl (by decide +kernel) ⟨Nat.le_of_ble_eq_true rfl, Nat.le_of_ble_eq_true rfl⟩) ⟨mw_blind st_S.blind, mw_recv B hI c1 rfl, mw_pre B hI (hSt.call hI hA)⟩ rfl rfl hl.1 rfl (lv_room (Nat.le_of_ble_eq_true rfl)) dX2_power_105 ⟨Nat.le_of_ble_eq_true rfl, Nat.le_of_ble_eq_true rfl⟩) (fun r f H locs hp hI2 => ?_)
                  clear hI
                  have hI := hI2
                  clear hI2
                  obtain ⟨rfl, rfl⟩ := hp
                  refine mv_if_eq (tgt := 113) B dX2_power_108 (by decide) (by split <;> omega) (fun hd3 => ?_) (fun hd3 => ?_)
                  · have hf2 : ((Y11 nu).natAbs : Int) < 1000000 ^ 50 := m2.mp (by
                      by_cases q : (n : Int) ≤ 50
                      · omega
                      · rw [if_neg q] at hd3; exact absurd hd3 (by decide))
                    refine mv_iload B dX2_power_113 (lv_at hl 3 rfl) ?_
                    refine mv_iconst B dX2_power_115 ?_
                    refine mv_ishr1 B dX2_power_116 (by omega) ?_
                    refine mv_istore (lv' := [(6, .int (iI ((bi) / (2)))), (5, .ref ((w gu))), (4, .ref ((w nu))), (7, .ref ((w gu))), (0, .ref d), (1, .int (iI (a))), (2, .int (iI (e_))), (3, .int (iI (t)))]) B dX2_power_117 hl (by decide) rfl (fun ls hl => ?_)
                    refine mv_goto (tgt := 44) B dX2_power_119 (by decide) ?_
                    exact ih k _ nu gu Y11 f H locs ls (by omega) (by rw [hbi]; exact bt_half k) (by omega) (by omega) hD hsl hvv hf2 ho hI (lv_sub hl [0, 1, 2, 4, 5, 6, 7] rfl)
                  · have hf2 : ¬ ((Y11 nu).natAbs : Int) < 1000000 ^ 50 := fun q => hd3 (by rw [if_pos (by have := m2.mpr q; omega)])
                    rw [hvv] at hf2
                    have big := pw_mono (A := Y a.toNat) hEk (Int.not_lt.mp hf2)
                    rw [kp_n (Int.not_lt.mpr big)] at e9
                    refine mv_iconst B dX2_power_111 ?_
                    exact mw_iret B hQ hrt hI ⟨by rw [e9], ⟨_, hD, fun i hi => (hsl i hi).trans (by rw [e9])⟩, ho⟩ dX2_power_112
              · have hf1 : ¬ ((Y11 nu).natAbs : Int) < 1000000 ^ 50 := fun q => hd1 (by rw [if_pos (by have := m2.mpr q; omega)])
                rw [vn] at hf1
                have big := pw_mono (A := Y a.toNat) (show E / 2 ^ (k + 1) + E / 2 ^ (k + 1) ≤ E by omega) (Int.not_lt.mp hf1)
                rw [kp_n (Int.not_lt.mpr big)] at e9
                refine mv_iconst B dX2_power_66 ?_
                exact mw_iret B hQ hrt hI ⟨by rw [e9], ⟨_, hD, fun i hi => (hsl i hi).trans (by rw [e9])⟩, ho⟩ dX2_power_67
        exact loop 11 10 _ 18 19 Y1 f H locs ls (by decide) (by decide) (by decide) (Or.inl ⟨rfl, rfl⟩) hD hsl (by rw [v1, show E / 2 ^ 10 = 0 by omega, Int.pow_zero]) (by rw [v1]; have : ((1 : Int).natAbs : Int) = 1 := rfl; omega) ho hI (lv_sub hl [0, 1, 2, 3, 4, 5, 6] rfl)
      · refine mv_iconst B dX2_power_19 ?_
        have e9 : sp_power Y a e_ t = (-1, Y) := by unfold sp_power; rw [if_neg (fun q => by omega)]
        exact mw_iret B hQ hrt hI ⟨by rw [e9], ⟨_, hD, fun i hi => (hsl i hi).trans (by rw [e9])⟩, ho⟩ dX2_power_20
