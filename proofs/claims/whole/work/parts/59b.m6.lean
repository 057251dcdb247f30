abbrev rm_X3_root : Room := { frames := 4, cells := 0, slots := 0, locals := 88 }
set_option maxHeartbeats 4000000 in
set_option maxRecDepth 100000 in
/-- root -/
theorem t_X3_root (l : Launch) (D : va_G) (kA : Nat → ClassId) (sz : Nat) (f0 : mw_M) {o li si su di : Nat} {Z : Nat → Int}{a t : Int} (hm : MM kA f0 f0 o li si su di Z) (h24 : Z 24 = 1000000 ^ 50) (hB : ∀ i, i < 16 → ((Z i).natAbs : Int) < 1000000 ^ 50) (ha : -2147483648 ≤ a ∧ a ≤ 2147483647) (ht : -2147483648 ≤ t ∧ t ≤ 2147483647) : mw_Mi l yX3_root (Cond.code yX3_root cX3_root 4 ((some .int)) :: gw) rm_X3_root D vwCl (tyL kA) st_S [.ref o, .int (iI (a)), .int (iI (t))] f0 sz (fun v f => v = iI (sp_root Z a t).1 ∧ ∃ Z', MM kA f0 f o li si su di Z' ∧ Z' 24 = 1000000 ^ 50 ∧ ∀ i, i < 16 → Z' i = (sp_root Z a t).2 i) 0 0 := by
  refine mw_ofi (cc := cX3_root) (maxL := 4) (ret := (some .int)) (by decide) rfl (Nat.le_of_ble_eq_true rfl) ?_
  intro p e s m below meth c A ls Q hQ B hrt hnm hA hI hSt hl
  have hl : lv_has ls 4 [(0, .ref o), (1, .int (iI (a))), (2, .int (iI (t)))] := hl
  obtain ⟨f, hI, hm, hf⟩ : ∃ f, mw_I D vwCl A s s.heap [] f ∧ MM kA f0 f o li si su di Z ∧ f = f0 := ⟨f0, hI, hm, rfl⟩
  have hsl : ∀ i, i < 16 → Z i = Z i := fun _ _ => rfl
  have h240 := h24
  refine mv_iload_n B dX3_root_0 rfl (lv_at hl 1 rfl) ?_
  refine mw_calli hI hA (va_runS (As := [.int (iI (a))]) (rest := []) B.fix (t_X3_isSlot l D kA s.heap.size f ha) (cwS 1 B.2.2.2.2.1 (gS kw_399 kw_400 kw_4 kw_401) rfl rfl rfl (by decide +kernel) ⟨Nat.le_of_ble_eq_true rfl, Nat.le_of_ble_eq_true rfl⟩) ⟨mw_blind st_S.blind, mw_pre B hI (hSt.call hI hA)⟩ rfl rfl hl.1 rfl (lv_room (Nat.le_of_ble_eq_true rfl)) dX3_root_1 ⟨Nat.le_of_ble_eq_true rfl, Nat.le_of_ble_eq_true rfl⟩) (fun r f H locs hp hI2 => ?_)
  clear hI
  have hI := hI2
  clear hI2
  obtain ⟨rfl, rfl⟩ := hp
  refine mv_if_eq (tgt := 23) B dX3_root_4 (by decide) (by split <;> omega) (fun hc => ?_) (fun hc => ?_)
  · have h1 : ¬ (sOk a) := fun q => by rw [if_pos q] at hc; exact absurd hc (by decide)
    have e9 : sp_root Z a t = (-1, Z) := by unfold sp_root; rw [if_neg (fun q => h1 q.1)]
    refine mv_iconst B dX3_root_23 ?_
    exact mw_iret B hQ hrt hI ⟨by rw [e9], _, hm, h24, fun i hi => (hsl i hi).trans (congrFun (congrArg Prod.snd e9) i).symm⟩ dX3_root_24
  · have h1 : sOk a := by
      by_cases q : sOk a
      · exact q
      · rw [if_neg q] at hc; exact absurd rfl hc
    refine mv_iload_n B dX3_root_7 rfl (lv_at hl 2 rfl) ?_
    refine mw_calli hI hA (va_runS (As := [.int (iI (t))]) (rest := []) B.fix (t_X3_isSlot l D kA H.size f ht) (cwS 1 B.2.2.2.2.1 (gS kw_399 kw_400 kw_4 kw_401) rfl rfl rfl (by decide +kernel) ⟨Nat.le_of_ble_eq_true rfl, Nat.le_of_ble_eq_true rfl⟩) ⟨mw_blind st_S.blind, mw_pre B hI (hSt.call hI hA)⟩ rfl rfl hl.1 rfl (lv_room (Nat.le_of_ble_eq_true rfl)) dX3_root_8 ⟨Nat.le_of_ble_eq_true rfl, Nat.le_of_ble_eq_true rfl⟩) (fun r f H locs hp hI2 => ?_)
    clear hI
    have hI := hI2
    clear hI2
    obtain ⟨rfl, rfl⟩ := hp
    refine mv_if_eq (tgt := 23) B dX3_root_11 (by decide) (by split <;> omega) (fun hc2 => ?_) (fun hc2 => ?_)
    · have h2 : ¬ (sOk t) := fun q => by rw [if_pos q] at hc2; exact absurd hc2 (by decide)
      have e9 : sp_root Z a t = (-1, Z) := by unfold sp_root; rw [if_neg (fun q => h2 q.2.1)]
      refine mv_iconst B dX3_root_23 ?_
      exact mw_iret B hQ hrt hI ⟨by rw [e9], _, hm, h24, fun i hi => (hsl i hi).trans (congrFun (congrArg Prod.snd e9) i).symm⟩ dX3_root_24
    · have h2 : sOk t := by
        by_cases q : sOk t
        · exact q
        · rw [if_neg q] at hc2; exact absurd rfl hc2
      obtain ⟨L, S, G, U, hM, hL, hZ⟩ := id hm
      refine mv_aload_n B dX3_root_14 rfl (lv_at hl 0 rfl) ?_
      refine mw_get (C := RX3) (T := TX3) (N := 4) B hI hM.1 uin_X3 rfl 1 (by decide) kw_382 rfl dX3_root_15 ?_
      refine mv_iload_n B dX3_root_18 rfl (lv_at hl 1 rfl) ?_
      refine mw_iald B hI 0 hM.2.2.1 rfl (a.toNat) (by omega) (by omega) (by decide) dX3_root_19 ?_
      rw [(hZ (a.toNat) (by omega)).2]
      have sg_ := c3_sg (Z (a.toNat))
      refine mv_if_ge (tgt := 25) B dX3_root_20 (by decide) (by omega) (fun hd1 => ?_) (fun hd1 => ?_)
      · have ha0 : 0 ≤ Z a.toNat := by omega
        have hBa := hB a.toNat (by omega)
        have hab : ((Z a.toNat).natAbs : Int) = Z a.toNat := by omega
        rw [hab] at hBa
        refine mv_aload_n B dX3_root_25 rfl (lv_at hl 0 rfl) ?_
        refine mv_bipush B dX3_root_26 (by decide) ?_
        refine mv_lconst0 B dX3_root_28 ?_
        obtain ⟨L, S, G, U, hM, hL, hZ⟩ := id hm
        refine mw_callv hI hA (va_runV (As := [.int (iI (16)), .long (lI (0))]) (rest := []) B.fix (t_X3_put l D kA H.size f (t := 16) hM.self hL (by omega) (by omega) (by omega)) (cwV 2 B.2.2.2.2.1 (gV kw_362 kw_364 ks_16 kw_4 kw_365) rfl rfl rfl (by decide +kernel) ⟨Nat.le_of_ble_eq_true rfl, Nat.le_of_ble_eq_true rfl⟩) ⟨mw_blind st_S.blind, mw_recv B hI hM.1 rfl, mw_pre B hI (hSt.call hI hA)⟩ rfl rfl hl.1 rfl (lv_room (Nat.le_of_ble_eq_true rfl)) dX3_root_29 ⟨Nat.le_of_ble_eq_true rfl, Nat.le_of_ble_eq_true rfl⟩) (fun f H locs hp hI2 => ?_)
        clear hI
        have hI := hI2
        clear hI2
        obtain ⟨L1, hM1, hL1, ro1, hv1⟩ := hp
        obtain ⟨Z1, hZ1, hm⟩ : ∃ Z', Z' = upI Z (16) (0) ∧ MM kA f0 f o li si su di Z' := ⟨_, rfl, MM.u hZ (hM.tr hM1) hL1 ro1 hv1 rfl⟩
        have v1 : Z1 (16) = 0 := by rw [hZ1, upI_self]
        have r1 : ∀ i, i ≠ 16 → Z1 i = Z i := fun i hi => by rw [hZ1, upI_ne _ _ hi]
        have hsl : ∀ i, i < 16 → Z1 i = Z i := fun i hi => (r1 i (by omega)).trans (hsl i hi)
        have h24 : Z1 24 = 1000000 ^ 50 := (r1 24 (by omega)).trans h24
        obtain ⟨L, S, G, U, hM, hL, hZ⟩ := hm
        have k16 := hZ 16 (by decide)
        unfold hz at k16
        rw [v1] at k16
        refine mv_sipush B dX3_root_32 (by decide) ?_
        refine mv_istore_n (lv' := [(3, .int (iI (511))), (0, .ref o), (1, .int (iI (a))), (2, .int (iI (t)))]) B dX3_root_35 rfl hl (by decide) rfl (fun ls hl => ?_)
        have loop : ∀ (μ : Nat) (j : Nat) (i R q : Int) (L' S' G U Zc : Nat → Int) (f : mw_M) (H : Heap) (locs : List Loc) (ls : Array Slot), j < μ → i = (j : Int) - 1 → j ≤ 512 → lr L' → (∀ r, r < 25 → r ≠ 16 → hz L' S' r (Zc r)) → (∀ r, r ≠ 16 → r ≠ 17 → Zc r = Z r) → mg L' 16 = R → 0 ≤ R → R = q * 2 ^ j → R * R ≤ Z a.toNat → Z a.toNat < (R + 2 ^ j) * (R + 2 ^ j) → R + 2 ^ j ≤ 2 ^ 512 → MS kA f0 f o li si su di L' S' G U → mw_I D vwCl A s H locs f → lv_has ls 4 [(3, .int (iI (i))), (0, .ref o), (1, .int (iI (a))), (2, .int (iI (t)))] → W p l e rm_X3_root s m ([.ref o, .int (iI (a)), .int (iI (t))] : List Value).toArray below meth c H locs 0 0 Q (F0 m 36 ls []) := by
          intro μ
          induction μ with
          | zero => intro j i R q L' S' G U Zc f H locs ls hμ; exact absurd hμ (Nat.not_lt_zero _)
          | succ μ ih =>
            intro j i R q L' S' G U Zc f H locs ls hμ hi hj hL' hZ hr hR R0 hq h3 h4 h5 hM hI hl
            refine mv_iload_n B dX3_root_36 rfl (lv_at hl 0 rfl) ?_
            refine mv_if_lt (tgt := 118) B dX3_root_37 (by decide) (by omega) (fun hd0 => ?_) (fun hd0 => ?_)
            · obtain rfl : j = 0 := by omega
              rw [Int.pow_zero] at h4
              have hs := sqr_uniq R0 h3 h4
              refine mv_aload_n B dX3_root_118 rfl (lv_at hl 1 rfl) ?_
              refine mv_bipush B dX3_root_119 (by decide) ?_
              refine mv_iconst B dX3_root_121 ?_
              refine mw_callv hI hA (va_runV (As := [.int (iI (16)), .int (iI (1))]) (rest := []) B.fix (t_X3_settle l D kA H.size f (r := 16) hM.self hL' (by omega) (by omega)) (cwV 2 B.2.2.2.2.1 (gV kw_367 kw_369 ks_17 kw_4 kw_370) rfl rfl rfl (by decide +kernel) ⟨Nat.le_of_ble_eq_true rfl, Nat.le_of_ble_eq_true rfl⟩) ⟨mw_blind st_S.blind, mw_recv B hI hM.1 rfl, mw_pre B hI (hSt.call hI hA)⟩ rfl rfl hl.1 rfl (lv_room (Nat.le_of_ble_eq_true rfl)) dX3_root_122 ⟨Nat.le_of_ble_eq_true rfl, Nat.le_of_ble_eq_true rfl⟩) (fun f H locs hp hI2 => ?_)
              clear hI
              have hI := hI2
              clear hI2
              have hM := hM.tr hp
              have hm := MM.fix (z := R) hZ hM hL' (fun _ _ _ => rfl) (fun _ _ h => upI_ne _ _ h) (by rw [hR]; omega) (by
                rw [upI_self, hR]
                by_cases q : R = 0
                · rw [if_pos q, c3_eq q]
                · rw [if_neg q, c3_gt (by omega)])
              obtain ⟨Z9, hZ9, hm⟩ : ∃ Z', Z' = upI Zc 16 R ∧ MM kA f0 f o li si su di Z' := ⟨_, rfl, hm⟩
              have v9 : Z9 16 = R := by rw [hZ9, upI_self]
              have hsl : ∀ i, i < 16 → Z9 i = Z i := fun i hi => by rw [hZ9, upI_ne _ _ (by omega)]; exact hr i (by omega) (by omega)
              have h24 : Z9 24 = 1000000 ^ 50 := by rw [hZ9, upI_ne _ _ (by decide), hr 24 (by decide) (by decide)]; exact h240
              refine mv_aload_n B dX3_root_125 rfl (lv_at hl 1 rfl) ?_
              refine mv_iload_n B dX3_root_126 rfl (lv_at hl 3 rfl) ?_
              refine mv_bipush B dX3_root_127 (by decide) ?_
              refine mw_calli hI hA (va_runV (As := [.int (iI (t)), .int (iI (16))]) (rest := []) B.fix (t_X3_keep l D kA H.size f (x := t) (r := 16) hm.self (by omega) h24 h2 (by omega)) (cwV 2 B.2.2.2.2.1 (gV kw_422 kw_424 ks_24 kw_4 kw_425) rfl rfl rfl (by decide +kernel) ⟨Nat.le_of_ble_eq_true rfl, Nat.le_of_ble_eq_true rfl⟩) ⟨mw_blind st_S.blind, mw_recv B hI (by obtain ⟨_, _, _, _, q, _⟩ := hm; exact q.1) rfl, mw_pre B hI (hSt.call hI hA)⟩ rfl rfl hl.1 rfl (lv_room (Nat.le_of_ble_eq_true rfl)) dX3_root_129 ⟨Nat.le_of_ble_eq_true rfl, Nat.le_of_ble_eq_true rfl⟩) (fun r f H locs hp hI2 => ?_)
              clear hI
              have hI := hI2
              clear hI2
              obtain ⟨rfl, hp⟩ := hp
              have hm := hm.tr hp
              clear hp
              have e9 : sp_root Z a t = kp Z t (sqr (Z a.toNat)) := by unfold sp_root; rw [if_pos ⟨h1, h2, ha0⟩]
              have e7 : Z9 (16) = sqr (Z a.toNat) := by rw [v9]; exact hs
              have e8 := kp_same (Y := Z) (Y1 := Z9) (x := t) e7 hsl
              rw [← e9] at e8
              exact mw_iret B hQ hrt hI ⟨by rw [e8.1], _, hm, kp_24 h2 h24, e8.2⟩ dX3_root_132
            · obtain ⟨k, rfl⟩ : ∃ k, j = k + 1 := ⟨j - 1, by omega⟩
              have pk := p2_pos k
              have ps := p2_s k
              have la := hL' (140 * 16 + k / 16) (by omega)
              have hlb : L' (140 * 16 + k / 16) / 2 ^ (k % 16) % 2 = 0 := (ev_bit (g := fun i => L' (140 * 16 + i)) (hL'.row (show 16 < 25 by decide) (Nat.le_refl 140)) (by omega)).trans (clear_bit q (hR.trans hq))
              have p16 := p16_le (Nat.mod_lt k (show 16 > 0 by decide))
              have hfit := sb_lt (Nat.mod_lt k (show 16 > 0 by decide)) la hlb
              refine mv_aload_n B dX3_root_40 rfl (lv_at hl 1 rfl) ?_
              refine mw_get (C := RX3) (T := TX3) (N := 4) B hI hM.1 uin_X3 rfl 0 (by decide) kw_381 rfl dX3_root_41 ?_
              refine mv_sipush B dX3_root_44 (by decide) ?_
              refine mv_iload_n B dX3_root_47 rfl (lv_at hl 0 rfl) ?_
              refine mv_bipush B dX3_root_48 (by decide) ?_
              refine mv_idiv B dX3_root_50 (by omega) ?_
              refine mv_iadd B dX3_root_51 ?_
              refine mv_dup2 B dX3_root_52 rfl rfl ?_
              refine mw_iald B hI 0 hM.2.1 rfl (140 * 16 + k / 16) (by omega) (by omega) (by decide) dX3_root_53 ?_
              refine mv_iconst B dX3_root_54 ?_
              refine mv_iload_n B dX3_root_55 rfl (lv_at hl 0 rfl) ?_
              refine mv_bipush B dX3_root_56 (by decide) ?_
              refine mv_irem B dX3_root_58 (by omega) ?_
              refine mv_shl (k % 16) B dX3_root_59 (by omega) (by omega) (by omega) ?_
              refine mv_setb (k % 16) B dX3_root_60 (by omega) hlb ?_
              refine md_L B hI hM (140 * 16 + k / 16) (by omega) (by omega) dX3_root_61 (fun f H locs hM hI => ?_)
              refine mv_aload_n B dX3_root_62 rfl (lv_at hl 1 rfl) ?_
              refine mw_get (C := RX3) (T := TX3) (N := 4) B hI hM.1 uin_X3 rfl 1 (by decide) kw_382 rfl dX3_root_63 ?_
              refine mv_bipush B dX3_root_66 (by decide) ?_
              refine mv_iconst B dX3_root_68 ?_
              refine md_S B hI hM (16) (by omega) (by omega) dX3_root_69 (fun f H locs hM hI => ?_)
              have hm := MM.fix (z := R + 2 ^ k) hZ hM (hL'.up (by omega)) (fun r _ h => mg_up_ne h (by omega)) (fun _ _ h => upI_ne _ _ h) (by rw [sb_val (by omega), hR]; omega) (by rw [upI_self, c3_gt (by omega)])
              obtain ⟨Z9, hZ9, hm⟩ : ∃ Z', Z' = upI Zc 16 (R + 2 ^ k) ∧ MM kA f0 f o li si su di Z' := ⟨_, rfl, hm⟩
              have v9 : Z9 16 = R + 2 ^ k := by rw [hZ9, upI_self]
              have r9 : ∀ i, i ≠ 16 → Z9 i = Zc i := fun i hi => by rw [hZ9, upI_ne _ _ hi]
              clear hM hZ
              refine mv_aload_n B dX3_root_70 rfl (lv_at hl 1 rfl) ?_
              refine mv_bipush B dX3_root_71 (by decide) ?_
              refine mv_bipush B dX3_root_73 (by decide) ?_
              refine mv_bipush B dX3_root_75 (by decide) ?_
              obtain ⟨L, S, G, U, hM, hL, hZ⟩ := id hm
              have em : mg L (16) * mg L (16) = ((Z9 (16) * Z9 (16)).natAbs : Int) := by rw [(hZ (16) (by omega)).1, abs_mul2]
              have hbd : mg L (16) * mg L (16) < 65536 ^ 140 := by rw [em]; exact (by rw [v9]; exact sq140 (by omega) (by omega))
              refine mw_callv hI hA (va_runV (As := [.int (iI (17)), .int (iI (16)), .int (iI (16))]) (rest := []) B.fix (t_X3_multiply l D kA H.size f (t := 17) (a := 16) (b := 16) hM.self hL (by omega) (by omega) (by omega) (by omega) (by omega) (by omega) hbd) (cwV 3 B.2.2.2.2.1 (gV kw_376 kw_378 ks_19 kw_4 kw_379) rfl rfl rfl (by decide +kernel) ⟨Nat.le_of_ble_eq_true rfl, Nat.le_of_ble_eq_true rfl⟩) ⟨mw_blind st_S.blind, mw_recv B hI hM.1 rfl, mw_pre B hI (hSt.call hI hA)⟩ rfl rfl hl.1 rfl (lv_room (Nat.le_of_ble_eq_true rfl)) dX3_root_77 ⟨Nat.le_of_ble_eq_true rfl, Nat.le_of_ble_eq_true rfl⟩) (fun f H locs hp hI2 => ?_)
              clear hI
              have hI := hI2
              clear hI2
              obtain ⟨L1, U1, hM1, hL1, ro1, hv1⟩ := hp
              obtain ⟨Z10, hZ10, hm⟩ : ∃ Z', Z' = upI Z9 (17) (Z9 (16) * Z9 (16)) ∧ MM kA f0 f o li si su di Z' := ⟨_, rfl, MM.u hZ (hM.tr hM1) hL1 ro1 (hv1.trans em) (by rw [(hZ (16) (by omega)).1, (hZ (16) (by omega)).2]; exact c3_mul _ _)⟩
              have v10 : Z10 (17) = Z9 (16) * Z9 (16) := by rw [hZ10, upI_self]
              have r10 : ∀ i, i ≠ 17 → Z10 i = Z9 i := fun i hi => by rw [hZ10, upI_ne _ _ hi]
              have ea : Z10 a.toNat = Z a.toNat := by rw [r10 _ (by omega), r9 _ (by omega), hr _ (by omega) (by omega)]
              refine mv_aload_n B dX3_root_80 rfl (lv_at hl 1 rfl) ?_
              refine mv_bipush B dX3_root_81 (by decide) ?_
              refine mv_iload_n B dX3_root_83 rfl (lv_at hl 2 rfl) ?_
              obtain ⟨L, S, G, U, hM, hL, hZ⟩ := id hm
              refine mw_calli hI hA (va_runV (As := [.int (iI (17)), .int (iI (a))]) (rest := []) B.fix (t_X3_sizes l D kA H.size f (a := 17) (b := a.toNat) hM.self hL (by omega) (by omega) (by omega) (by omega)) (cwV 2 B.2.2.2.2.1 (gV kw_414 kw_416 ks_22 kw_4 kw_417) rfl rfl rfl (by decide +kernel) ⟨Nat.le_of_ble_eq_true rfl, Nat.le_of_ble_eq_true rfl⟩) ⟨mw_blind st_S.blind, mw_recv B hI hM.1 rfl, mw_pre B hI (hSt.call hI hA)⟩ rfl rfl hl.1 rfl (lv_room (Nat.le_of_ble_eq_true rfl)) dX3_root_84 ⟨Nat.le_of_ble_eq_true rfl, Nat.le_of_ble_eq_true rfl⟩) (fun r f H locs hp hI2 => ?_)
              clear hI
              have hI := hI2
              clear hI2
              obtain ⟨rfl, rfl⟩ := hp
              rw [(hZ (17) (by omega)).1, (hZ (a.toNat) (by omega)).1]
              have cc_ := c3_in ((Z10 (17)).natAbs : Int) ((Z10 (a.toNat)).natAbs : Int)
              rw [v10, v9, ea, sq_abs, hab] at cc_
              rw [v10, v9, ea, sq_abs, hab]
              have hr2 : ∀ r, r ≠ 16 → r ≠ 17 → Z10 r = Z r := fun r a1 a2 => by rw [r10 r a2, r9 r a1]; exact hr r a1 a2
              have k16 := hZ 16 (by decide)
              unfold hz at k16
              rw [r10 16 (by decide), v9] at k16
              have e4 : R + 2 ^ k + 2 ^ k = R + 2 ^ (k + 1) := by omega
              refine mv_if_le (tgt := 112) B dX3_root_87 (by decide) (by omega) (fun hd7 => ?_) (fun hd7 => ?_)
              · refine mv_iinc (k := 0) (lv' := [(3, .int (iI (i + (-1)))), (0, .ref o), (1, .int (iI (a))), (2, .int (iI (t)))]) B dX3_root_112 hl rfl (by decide) rfl (fun ls hl => ?_)
                refine mv_goto (tgt := 36) B dX3_root_115 (by decide) ?_
                exact ih k _ (R + 2 ^ k) (2 * q + 1) L S G U Z10 f H locs ls (by omega) (by omega) (by omega) hL (fun r a1 _ => hZ r a1) hr2 (by rw [k16.1]; omega) (by omega) (by rw [hq, p2_s]; grind) (by omega) (by rw [e4]; exact h4) (by omega) hM hI (lv_sub hl [0, 1, 2, 3] rfl)
              · obtain ⟨L', hLe⟩ : ∃ L', L' = L := ⟨_, rfl⟩
                rw [← hLe] at hM hL hZ k16
                have hL' := hL
                have m16 : mg L' 16 = R + 2 ^ k := by rw [k16.1]; omega
                have la := hL' (140 * 16 + k / 16) (by omega)
                have hsb : L' (140 * 16 + k / 16) / 2 ^ (k % 16) % 2 = 1 := (ev_bit (g := fun i => L' (140 * 16 + i)) (hL'.row (show 16 < 25 by decide) (Nat.le_refl 140)) (by omega)).trans (by rw [show ev (fun i => L' (140 * 16 + i)) 140 = R + 2 ^ k from m16]; exact set_bit hq)
                have hcb := clr_bit la.1 hsb
                obtain ⟨lx, hlx0⟩ : ∃ lx, lx = L' (140 * 16 + k / 16) - 2 ^ (k % 16) := ⟨_, rfl⟩
                rw [← hlx0] at hcb
                have hlb := hcb.2
                have hlx : L' (140 * 16 + k / 16) = lx + 2 ^ (k % 16) := by omega
                refine mv_aload_n B dX3_root_90 rfl (lv_at hl 1 rfl) ?_
                refine mw_get (C := RX3) (T := TX3) (N := 4) B hI hM.1 uin_X3 rfl 0 (by decide) kw_381 rfl dX3_root_91 ?_
                refine mv_sipush B dX3_root_94 (by decide) ?_
                refine mv_iload_n B dX3_root_97 rfl (lv_at hl 0 rfl) ?_
                refine mv_bipush B dX3_root_98 (by decide) ?_
                refine mv_idiv B dX3_root_100 (by omega) ?_
                refine mv_iadd B dX3_root_101 ?_
                refine mv_dup2 B dX3_root_102 rfl rfl ?_
                refine mw_iald B hI 0 hM.2.1 rfl (140 * 16 + k / 16) (by omega) (by omega) (by decide) dX3_root_103 ?_
                refine mv_iconst B dX3_root_104 ?_
                refine mv_iload_n B dX3_root_105 rfl (lv_at hl 0 rfl) ?_
                refine mv_bipush B dX3_root_106 (by decide) ?_
                refine mv_irem B dX3_root_108 (by omega) ?_
                refine mv_shl (k % 16) B dX3_root_109 (by omega) (by omega) (by omega) ?_
                refine mv_clrb (k % 16) (x := lx) B dX3_root_110 (by omega) hlb hlx ?_
                refine md_L B hI hM (140 * 16 + k / 16) (by omega) (by omega) dX3_root_111 (fun f H locs hM hI => ?_)
                refine mv_iinc (k := 0) (lv' := [(3, .int (iI (i + (-1)))), (0, .ref o), (1, .int (iI (a))), (2, .int (iI (t)))]) B dX3_root_112 hl rfl (by decide) rfl (fun ls hl => ?_)
                refine mv_goto (tgt := 36) B dX3_root_115 (by decide) ?_
                exact ih k _ R (2 * q) _ S G U Z10 f H locs ls (by omega) (by omega) (by omega) (hL'.up (by omega)) (fun r a1 a2 => ⟨(mg_up_ne a2 (by omega)).trans (hZ r a1).1, (hZ r a1).2⟩) hr2 (by rw [cb_val (by omega) hlx, m16]; omega) R0 (by rw [hq, p2_s]; grind) h3 (by omega) (by omega) hM hI (lv_sub hl [0, 1, 2, 3] rfl)
        have e0 : (0 : Int) + 2 ^ 512 = 2 ^ 512 := Int.zero_add _
        exact loop 513 512 _ 0 0 L S G U Z1 f H locs ls (by decide) rfl (by decide) hL (fun r a1 _ => hZ r a1) (fun r a1 _ => r1 r a1) (by rw [k16.1]; rfl) (Int.le_refl 0) (Int.zero_mul _).symm (by rw [Int.mul_zero]; exact ha0) (by rw [e0]; exact Int.lt_trans hBa b512.1) (Int.le_of_eq e0) hM hI (lv_sub hl [0, 1, 2, 3] rfl)
      · have e9 : sp_root Z a t = (-1, Z) := by unfold sp_root; rw [if_neg (fun q => by omega)]
        refine mv_iconst B dX3_root_23 ?_
        exact mw_iret B hQ hrt hI ⟨by rw [e9], _, hm, h24, fun i hi => (hsl i hi).trans (congrFun (congrArg Prod.snd e9) i).symm⟩ dX3_root_24
abbrev rm_X3_power : Room := { frames := 4, cells := 0, slots := 0, locals := 88 }
set_option maxHeartbeats 4000000 in
set_option maxRecDepth 100000 in
/-- power -/
theorem t_X3_power (l : Launch) (D : va_G) (kA : Nat → ClassId) (sz : Nat) (f0 : mw_M) {o li si su di : Nat} {Z : Nat → Int}{a e_ t : Int} (hm : MM kA f0 f0 o li si su di Z) (h24 : Z 24 = 1000000 ^ 50) (hB : ∀ i, i < 16 → ((Z i).natAbs : Int) < 1000000 ^ 50) (ha : -2147483648 ≤ a ∧ a ≤ 2147483647) (he_ : -2147483648 ≤ e_ ∧ e_ ≤ 2147483647) (ht : -2147483648 ≤ t ∧ t ≤ 2147483647) : mw_Mi l yX3_power (Cond.code yX3_power cX3_power 5 ((some .int)) :: gw) rm_X3_power D vwCl (tyL kA) st_S [.ref o, .int (iI (a)), .int (iI (e_)), .int (iI (t))] f0 sz (fun v f => v = iI (sp_power Z a e_ t).1 ∧ ∃ Z', MM kA f0 f o li si su di Z' ∧ Z' 24 = 1000000 ^ 50 ∧ ∀ i, i < 16 → Z' i = (sp_power Z a e_ t).2 i) 0 0 := by
  refine mw_ofi (cc := cX3_power) (maxL := 5) (ret := (some .int)) (by decide) rfl (Nat.le_of_ble_eq_true rfl) ?_
  intro p e s m below meth c A ls Q hQ B hrt hnm hA hI hSt hl
  have hl : lv_has ls 5 [(0, .ref o), (1, .int (iI (a))), (2, .int (iI (e_))), (3, .int (iI (t)))] := hl
  obtain ⟨f, hI, hm, hf⟩ : ∃ f, mw_I D vwCl A s s.heap [] f ∧ MM kA f0 f o li si su di Z ∧ f = f0 := ⟨f0, hI, hm, rfl⟩
  have hsl : ∀ i, i < 16 → Z i = Z i := fun _ _ => rfl
  have h240 := h24
  refine mv_iload_n B dX3_power_0 rfl (lv_at hl 1 rfl) ?_
  refine mw_calli hI hA (va_runS (As := [.int (iI (a))]) (rest := []) B.fix (t_X3_isSlot l D kA s.heap.size f ha) (cwS 1 B.2.2.2.2.1 (gS kw_399 kw_400 kw_4 kw_401) rfl rfl rfl (by decide +kernel) ⟨Nat.le_of_ble_eq_true rfl, Nat.le_of_ble_eq_true rfl⟩) ⟨mw_blind st_S.blind, mw_pre B hI (hSt.call hI hA)⟩ rfl rfl hl.1 rfl (lv_room (Nat.le_of_ble_eq_true rfl)) dX3_power_1 ⟨Nat.le_of_ble_eq_true rfl, Nat.le_of_ble_eq_true rfl⟩) (fun r f H locs hp hI2 => ?_)
  clear hI
  have hI := hI2
  clear hI2
  obtain ⟨rfl, rfl⟩ := hp
  refine mv_if_eq (tgt := 25) B dX3_power_4 (by decide) (by split <;> omega) (fun hc => ?_) (fun hc => ?_)
  · have h1 : ¬ (sOk a) := fun q => by rw [if_pos q] at hc; exact absurd hc (by decide)
    have e9 : sp_power Z a e_ t = (-1, Z) := by unfold sp_power; rw [if_neg (fun q => h1 q.1)]
    refine mv_iconst B dX3_power_25 ?_
    exact mw_iret B hQ hrt hI ⟨by rw [e9], _, hm, h24, fun i hi => (hsl i hi).trans (congrFun (congrArg Prod.snd e9) i).symm⟩ dX3_power_26
  · have h1 : sOk a := by
      by_cases q : sOk a
      · exact q
      · rw [if_neg q] at hc; exact absurd rfl hc
    refine mv_iload_n B dX3_power_7 rfl (lv_at hl 3 rfl) ?_
    refine mw_calli hI hA (va_runS (As := [.int (iI (t))]) (rest := []) B.fix (t_X3_isSlot l D kA H.size f ht) (cwS 1 B.2.2.2.2.1 (gS kw_399 kw_400 kw_4 kw_401) rfl rfl rfl (by decide +kernel) ⟨Nat.le_of_ble_eq_true rfl, Nat.le_of_ble_eq_true rfl⟩) ⟨mw_blind st_S.blind, mw_pre B hI (hSt.call hI hA)⟩ rfl rfl hl.1 rfl (lv_room (Nat.le_of_ble_eq_true rfl)) dX3_power_8 ⟨Nat.le_of_ble_eq_true rfl, Nat.le_of_ble_eq_true rfl⟩) (fun r f H locs hp hI2 => ?_)
    clear hI
    have hI := hI2
    clear hI2
    obtain ⟨rfl, rfl⟩ := hp
    refine mv_if_eq (tgt := 25) B dX3_power_11 (by decide) (by split <;> omega) (fun hc2 => ?_) (fun hc2 => ?_)
    · have h2 : ¬ (sOk t) := fun q => by rw [if_pos q] at hc2; exact absurd hc2 (by decide)
      have e9 : sp_power Z a e_ t = (-1, Z) := by unfold sp_power; rw [if_neg (fun q => h2 q.2.1)]
      refine mv_iconst B dX3_power_25 ?_
      exact mw_iret B hQ hrt hI ⟨by rw [e9], _, hm, h24, fun i hi => (hsl i hi).trans (congrFun (congrArg Prod.snd e9) i).symm⟩ dX3_power_26
    · have h2 : sOk t := by
        by_cases q : sOk t
        · exact q
        · rw [if_neg q] at hc2; exact absurd rfl hc2
      refine mv_iload_n B dX3_power_14 rfl (lv_at hl 2 rfl) ?_
      refine mv_if_lt (tgt := 25) B dX3_power_15 (by decide) (by omega) (fun hd3 => ?_) (fun hd3 => ?_)
      · have e9 : sp_power Z a e_ t = (-1, Z) := by unfold sp_power; rw [if_neg (fun q => by omega)]
        refine mv_iconst B dX3_power_25 ?_
        exact mw_iret B hQ hrt hI ⟨by rw [e9], _, hm, h24, fun i hi => (hsl i hi).trans (congrFun (congrArg Prod.snd e9) i).symm⟩ dX3_power_26
      · refine mv_iload_n B dX3_power_18 rfl (lv_at hl 2 rfl) ?_
        refine mv_sipush B dX3_power_19 (by decide) ?_
        refine mv_icmp_le (tgt := 27) B dX3_power_22 (by decide) (by omega) (fun hd4 => ?_) (fun hd4 => ?_)
        · have he : 0 ≤ e_ ∧ e_ ≤ 1000 := by omega
          refine mv_aload_n B dX3_power_27 rfl (lv_at hl 0 rfl) ?_
          refine mv_bipush B dX3_power_28 (by decide) ?_
          refine mv_lconst1 B dX3_power_30 ?_
          obtain ⟨L, S, G, U, hM, hL, hZ⟩ := id hm
          refine mw_callv hI hA (va_runV (As := [.int (iI (16)), .long (lI (1))]) (rest := []) B.fix (t_X3_put l D kA H.size f (t := 16) hM.self hL (by omega) (by omega) (by omega)) (cwV 2 B.2.2.2.2.1 (gV kw_362 kw_364 ks_16 kw_4 kw_365) rfl rfl rfl (by decide +kernel) ⟨Nat.le_of_ble_eq_true rfl, Nat.le_of_ble_eq_true rfl⟩) ⟨mw_blind st_S.blind, mw_recv B hI hM.1 rfl, mw_pre B hI (hSt.call hI hA)⟩ rfl rfl hl.1 rfl (lv_room (Nat.le_of_ble_eq_true rfl)) dX3_power_31 ⟨Nat.le_of_ble_eq_true rfl, Nat.le_of_ble_eq_true rfl⟩) (fun f H locs hp hI2 => ?_)
          clear hI
          have hI := hI2
          clear hI2
          obtain ⟨L1, hM1, hL1, ro1, hv1⟩ := hp
          obtain ⟨Z1, hZ1, hm⟩ : ∃ Z', Z' = upI Z (16) (1) ∧ MM kA f0 f o li si su di Z' := ⟨_, rfl, MM.u hZ (hM.tr hM1) hL1 ro1 hv1 rfl⟩
          have v1 : Z1 (16) = 1 := by rw [hZ1, upI_self]
          have r1 : ∀ i, i ≠ 16 → Z1 i = Z i := fun i hi => by rw [hZ1, upI_ne _ _ hi]
          have hsl : ∀ i, i < 16 → Z1 i = Z i := fun i hi => (r1 i (by omega)).trans (hsl i hi)
          have h24 : Z1 24 = 1000000 ^ 50 := (r1 24 (by omega)).trans h24
          refine mv_iconst B dX3_power_34 ?_
          refine mv_istore (lv' := [(4, .int (iI (0))), (0, .ref o), (1, .int (iI (a))), (2, .int (iI (e_))), (3, .int (iI (t)))]) B dX3_power_35 hl (by decide) rfl (fun ls hl => ?_)
          have loop : ∀ (μ : Nat) (k : Nat) (i : Int) (Zc : Nat → Int) (f : mw_M) (H : Heap) (locs : List Loc) (ls : Array Slot), 1001 - k < μ → i = (k : Int) → k ≤ e_.toNat → Zc 16 = Z a.toNat ^ k → (∀ r, r ≠ 16 → Zc r = Z r) → MM kA f0 f o li si su di Zc → mw_I D vwCl A s H locs f → lv_has ls 5 [(4, .int (iI (i))), (0, .ref o), (1, .int (iI (a))), (2, .int (iI (e_))), (3, .int (iI (t)))] → W p l e rm_X3_power s m ([.ref o, .int (iI (a)), .int (iI (e_)), .int (iI (t))] : List Value).toArray below meth c H locs 0 0 Q (F0 m 37 ls []) := by
            intro μ
            induction μ with
            | zero => intro k i Zc f H locs ls hμ; exact absurd hμ (Nat.not_lt_zero _)
            | succ μ ih =>
              intro k i Zc f H locs ls hμ hi hk hv hr hm hI hl
              have hsl : ∀ i, i < 16 → Zc i = Z i := fun i hi => hr i (by omega)
              have h24 : Zc 24 = 1000000 ^ 50 := (hr 24 (by decide)).trans h240
              refine mv_iload B dX3_power_37 (lv_at hl 0 rfl) ?_
              refine mv_iload_n B dX3_power_39 rfl (lv_at hl 3 rfl) ?_
              refine mv_icmp_ge (tgt := 67) B dX3_power_40 (by decide) (by omega) (fun hd0 => ?_) (fun hd0 => ?_)
              · obtain rfl : k = e_.toNat := by omega
                refine mv_aload_n B dX3_power_67 rfl (lv_at hl 1 rfl) ?_
                refine mv_iload_n B dX3_power_68 rfl (lv_at hl 4 rfl) ?_
                refine mv_bipush B dX3_power_69 (by decide) ?_
                refine mw_calli hI hA (va_runV (As := [.int (iI (t)), .int (iI (16))]) (rest := []) B.fix (t_X3_keep l D kA H.size f (x := t) (r := 16) hm.self (by omega) h24 h2 (by omega)) (cwV 2 B.2.2.2.2.1 (gV kw_422 kw_424 ks_24 kw_4 kw_425) rfl rfl rfl (by decide +kernel) ⟨Nat.le_of_ble_eq_true rfl, Nat.le_of_ble_eq_true rfl⟩) ⟨mw_blind st_S.blind, mw_recv B hI (by obtain ⟨_, _, _, _, q, _⟩ := hm; exact q.1) rfl, mw_pre B hI (hSt.call hI hA)⟩ rfl rfl hl.1 rfl (lv_room (Nat.le_of_ble_eq_true rfl)) dX3_power_71 ⟨Nat.le_of_ble_eq_true rfl, Nat.le_of_ble_eq_true rfl⟩) (fun r f H locs hp hI2 => ?_)
                clear hI
                have hI := hI2
                clear hI2
                obtain ⟨rfl, hp⟩ := hp
                have hm := hm.tr hp
                clear hp
                have e9 : sp_power Z a e_ t = kp Z t (Z a.toNat ^ e_.toNat) := by unfold sp_power; rw [if_pos ⟨h1, h2, he.1, he.2⟩]
                have e7 : Zc (16) = Z a.toNat ^ e_.toNat := by exact hv
                have e8 := kp_same (Y := Z) (Y1 := Zc) (x := t) e7 hsl
                rw [← e9] at e8
                exact mw_iret B hQ hrt hI ⟨by rw [e8.1], _, hm, kp_24 h2 h24, e8.2⟩ dX3_power_74
              · refine mv_aload_n B dX3_power_43 rfl (lv_at hl 1 rfl) ?_
                refine mv_bipush B dX3_power_44 (by decide) ?_
                refine mw_calli hI hA (va_runV (As := [.int (iI (16))]) (rest := []) B.fix (t_X3_isLong l D kA H.size f (r := 16) hm.self (by omega) h24 (by omega)) (cwV 1 B.2.2.2.2.1 (gV kw_426 kw_428 ks_25 kw_4 kw_429) rfl rfl rfl (by decide +kernel) ⟨Nat.le_of_ble_eq_true rfl, Nat.le_of_ble_eq_true rfl⟩) ⟨mw_blind st_S.blind, mw_recv B hI (by obtain ⟨_, _, _, _, q, _⟩ := hm; exact q.1) rfl, mw_pre B hI (hSt.call hI hA)⟩ rfl rfl hl.1 rfl (lv_room (Nat.le_of_ble_eq_true rfl)) dX3_power_46 ⟨Nat.le_of_ble_eq_true rfl, Nat.le_of_ble_eq_true rfl⟩) (fun r f H locs hp hI2 => ?_)
                clear hI
                have hI := hI2
                clear hI2
                obtain ⟨rfl, rfl⟩ := hp
                refine mv_if_ne (tgt := 67) B dX3_power_49 (by decide) (by split <;> omega) (fun hd1 => ?_) (fun hd1 => ?_)
                · have hl0 : ¬ ((Zc 16).natAbs : Int) < 1000000 ^ 50 := fun q => by rw [if_pos q] at hd1; exact hd1 rfl
                  have hl1 : ¬ ((Z a.toNat ^ e_.toNat).natAbs : Int) < 1000000 ^ 50 := pow_long hk (by rw [← hv]; exact hl0)
                  refine mv_aload_n B dX3_power_67 rfl (lv_at hl 1 rfl) ?_
                  refine mv_iload_n B dX3_power_68 rfl (lv_at hl 4 rfl) ?_
                  refine mv_bipush B dX3_power_69 (by decide) ?_
                  refine mw_calli hI hA (va_runV (As := [.int (iI (t)), .int (iI (16))]) (rest := []) B.fix (t_X3_keep l D kA H.size f (x := t) (r := 16) hm.self (by omega) h24 h2 (by omega)) (cwV 2 B.2.2.2.2.1 (gV kw_422 kw_424 ks_24 kw_4 kw_425) rfl rfl rfl (by decide +kernel) ⟨Nat.le_of_ble_eq_true rfl, Nat.le_of_ble_eq_true rfl⟩) ⟨mw_blind st_S.blind, mw_recv B hI (by obtain ⟨_, _, _, _, q, _⟩ := hm; exact q.1) rfl, mw_pre B hI (hSt.call hI hA)⟩ rfl rfl hl.1 rfl (lv_room (Nat.le_of_ble_eq_true rfl)) dX3_power_71 ⟨Nat.le_of_ble_eq_true rfl, Nat.le_of_ble_eq_true rfl⟩) (fun r f H locs hp hI2 => ?_)
                  clear hI
                  have hI := hI2
                  clear hI2
                  obtain ⟨rfl, hp⟩ := hp
                  have hm := hm.tr hp
                  clear hp
                  have e9 : sp_power Z a e_ t = (-1, Z) := by unfold sp_power; rw [if_pos ⟨h1, h2, he.1, he.2⟩, kp_n hl1]
                  rw [kp_n hl0] at hm
                  rw [kp_n hl0]
                  exact mw_iret B hQ hrt hI ⟨by rw [e9], _, hm, h24, fun i hi => (hsl i hi).trans (congrFun (congrArg Prod.snd e9) i).symm⟩ dX3_power_74
                · have hfit : ((Zc 16).natAbs : Int) < 1000000 ^ 50 := by
                    by_cases q : ((Zc 16).natAbs : Int) < 1000000 ^ 50
                    · exact q
                    · rw [if_neg q] at hd1; exact absurd hd1 (by decide)
                  refine mv_aload_n B dX3_power_52 rfl (lv_at hl 1 rfl) ?_
                  refine mv_bipush B dX3_power_53 (by decide) ?_
                  refine mv_bipush B dX3_power_55 (by decide) ?_
                  refine mv_iload_n B dX3_power_57 rfl (lv_at hl 2 rfl) ?_
                  obtain ⟨L, S, G, U, hM, hL, hZ⟩ := id hm
                  have em : mg L (16) * mg L (a.toNat) = ((Zc (16) * Zc (a.toNat)).natAbs : Int) := by rw [(hZ (16) (by omega)).1, (hZ (a.toNat) (by omega)).1, abs_mul2]
                  have hbd : mg L (16) * mg L (a.toNat) < 65536 ^ 140 := by rw [em]; exact (mul140 hfit (by rw [hsl _ (by omega)]; exact hB _ (by omega)))
                  refine mw_callv hI hA (va_runV (As := [.int (iI (16)), .int (iI (16)), .int (iI (a))]) (rest := []) B.fix (t_X3_multiply l D kA H.size f (t := 16) (a := 16) (b := a.toNat) hM.self hL (by omega) (by omega) (by omega) (by omega) (by omega) (by omega) hbd) (cwV 3 B.2.2.2.2.1 (gV kw_376 kw_378 ks_19 kw_4 kw_379) rfl rfl rfl (by decide +kernel) ⟨Nat.le_of_ble_eq_true rfl, Nat.le_of_ble_eq_true rfl⟩) ⟨mw_blind st_S.blind, mw_recv B hI hM.1 rfl, mw_pre B hI (hSt.call hI hA)⟩ rfl rfl hl.1 rfl (lv_room (Nat.le_of_ble_eq_true rfl)) dX3_power_58 ⟨Nat.le_of_ble_eq_true rfl, Nat.le_of_ble_eq_true rfl⟩) (fun f H locs hp hI2 => ?_)
                  clear hI
                  have hI := hI2
                  clear hI2
                  obtain ⟨L1, U1, hM1, hL1, ro1, hv1⟩ := hp
                  obtain ⟨Z11, hZ11, hm⟩ : ∃ Z', Z' = upI Zc (16) (Zc (16) * Zc (a.toNat)) ∧ MM kA f0 f o li si su di Z' := ⟨_, rfl, MM.u hZ (hM.tr hM1) hL1 ro1 (hv1.trans em) (by rw [(hZ (16) (by omega)).1, (hZ (a.toNat) (by omega)).1, (hZ (16) (by omega)).2, (hZ (a.toNat) (by omega)).2]; exact c3_mul _ _)⟩
                  have v11 : Z11 (16) = Zc (16) * Zc (a.toNat) := by rw [hZ11, upI_self]
                  have r11 : ∀ i, i ≠ 16 → Z11 i = Zc i := fun i hi => by rw [hZ11, upI_ne _ _ hi]
                  have hsl : ∀ i, i < 16 → Z11 i = Z i := fun i hi => (r11 i (by omega)).trans (hsl i hi)
                  have h24 : Z11 24 = 1000000 ^ 50 := (r11 24 (by omega)).trans h24
                  refine mv_iinc (k := 0) (lv' := [(4, .int (iI (i + 1))), (0, .ref o), (1, .int (iI (a))), (2, .int (iI (e_))), (3, .int (iI (t)))]) B dX3_power_61 hl rfl (by decide) rfl (fun ls hl => ?_)
                  refine mv_goto (tgt := 37) B dX3_power_64 (by decide) ?_
                  exact ih (k + 1) _ Z11 f H locs ls (by omega) (by omega) (by omega) (by rw [v11, hv, hr _ (by omega), Int.pow_succ]) (fun r h => (r11 r h).trans (hr r h)) hm hI (lv_sub hl [0, 1, 2, 3, 4] rfl)
          exact loop 1002 0 _ Z1 f H locs ls (by omega) rfl (by omega) (by rw [v1, Int.pow_zero]) r1 hm hI (lv_sub hl [0, 1, 2, 3, 4] rfl)
        · have e9 : sp_power Z a e_ t = (-1, Z) := by unfold sp_power; rw [if_neg (fun q => by omega)]
          refine mv_iconst B dX3_power_25 ?_
          exact mw_iret B hQ hrt hI ⟨by rw [e9], _, hm, h24, fun i hi => (hsl i hi).trans (congrFun (congrArg Prod.snd e9) i).symm⟩ dX3_power_26
