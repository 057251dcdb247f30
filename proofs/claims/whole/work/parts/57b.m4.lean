abbrev rm_X3_common : Room := { frames := 3, cells := 0, slots := 0, locals := 70 }
set_option maxHeartbeats 4000000 in
set_option maxRecDepth 100000 in
/-- common -/
theorem t_X3_common (l : Launch) (D : va_G) (kA : Nat → ClassId) (sz : Nat) (f0 : mw_M) {o li si su di : Nat} {Z : Nat → Int} {a b : Nat} {xa : Int} {xb : Int} (hm : MM kA f0 f0 o li si su di Z) (hxa : xa = (a : Int)) (hxb : xb = (b : Int)) (ha : a < 25) (hb : b < 25) (ha1 : a ≠ 20 ∧ a ≠ 21) (hb1 : b ≠ 20 ∧ b ≠ 21) : mw_Mv l yX3_common (Cond.code yX3_common cX3_common 5 (none) :: gw) rm_X3_common D vwCl (tyL kA) st_S [.ref o, .int (iI (xa)), .int (iI (xb))] f0 sz (fun f => ∃ Z', MM kA f0 f o li si su di Z' ∧ Z' 20 = (Int.gcd (Z a) (Z b) : Int) ∧ ∀ r, r ≠ 20 → r ≠ 21 → Z' r = Z r) 0 0 := by
  refine mw_ofv (cc := cX3_common) (maxL := 5) (ret := none) (by decide) rfl (Nat.le_of_ble_eq_true rfl) ?_
  intro p e s m below meth c A ls Q hQ B hrt hnm hA hI hSt hl
  have hl : lv_has ls 5 [(0, .ref o), (1, .int (iI (xa))), (2, .int (iI (xb)))] := hl
  subst hxa
  subst hxb
  obtain ⟨f, hI, hm, hf⟩ : ∃ f, mw_I D vwCl A s s.heap [] f ∧ MM kA f0 f o li si su di Z ∧ f = f0 := ⟨f0, hI, hm, rfl⟩
  have lta := hm.lt ha
  refine mv_aload_n B dX3_common_0 rfl (lv_at hl 0 rfl) ?_
  refine mv_bipush B dX3_common_1 (by decide) ?_
  refine mv_iload_n B dX3_common_3 rfl (lv_at hl 1 rfl) ?_
  refine mw_callv hI hA (va_runV (As := [.int (iI (20)), .int (iI ((a : Int)))]) (rest := []) B.fix (t_X3_size l D kA s.heap.size f (t := 20) (a := a) hm.self (by omega) (by omega) (by omega) (by omega)) (cwV 2 B.2.2.2.2.1 (gV kw_481 kw_483 ks_31 kw_4 kw_484) rfl rfl rfl (by decide +kernel) ⟨Nat.le_of_ble_eq_true rfl, Nat.le_of_ble_eq_true rfl⟩) ⟨mw_blind st_S.blind, mw_recv B hI (by obtain ⟨_, _, _, _, q, _⟩ := hm; exact q.1) rfl, mw_pre B hI (hSt.call hI hA)⟩ rfl rfl hl.1 rfl (lv_room (Nat.le_of_ble_eq_true rfl)) dX3_common_4 ⟨Nat.le_of_ble_eq_true rfl, Nat.le_of_ble_eq_true rfl⟩) (fun f H locs hp hI2 => ?_)
  clear hI
  have hI := hI2
  clear hI2
  obtain ⟨Z1, hZ1, hm⟩ : ∃ Z', Z' = upI Z (20) (((Z (a)).natAbs : Int)) ∧ MM kA f0 f o li si su di Z' := ⟨_, rfl, hm.tr hp⟩
  have v1 : Z1 (20) = ((Z (a)).natAbs : Int) := by rw [hZ1, upI_self]
  have r1 : ∀ i, i ≠ 20 → Z1 i = Z i := fun i hi => by rw [hZ1, upI_ne _ _ hi]
  refine mv_aload_n B dX3_common_7 rfl (lv_at hl 0 rfl) ?_
  refine mv_bipush B dX3_common_8 (by decide) ?_
  refine mv_iload_n B dX3_common_10 rfl (lv_at hl 2 rfl) ?_
  refine mw_callv hI hA (va_runV (As := [.int (iI (21)), .int (iI ((b : Int)))]) (rest := []) B.fix (t_X3_size l D kA H.size f (t := 21) (a := b) hm.self (by omega) (by omega) (by omega) (by omega)) (cwV 2 B.2.2.2.2.1 (gV kw_481 kw_483 ks_31 kw_4 kw_484) rfl rfl rfl (by decide +kernel) ⟨Nat.le_of_ble_eq_true rfl, Nat.le_of_ble_eq_true rfl⟩) ⟨mw_blind st_S.blind, mw_recv B hI (by obtain ⟨_, _, _, _, q, _⟩ := hm; exact q.1) rfl, mw_pre B hI (hSt.call hI hA)⟩ rfl rfl hl.1 rfl (lv_room (Nat.le_of_ble_eq_true rfl)) dX3_common_11 ⟨Nat.le_of_ble_eq_true rfl, Nat.le_of_ble_eq_true rfl⟩) (fun f H locs hp hI2 => ?_)
  clear hI
  have hI := hI2
  clear hI2
  obtain ⟨Z2, hZ2, hm⟩ : ∃ Z', Z' = upI Z1 (21) (((Z1 (b)).natAbs : Int)) ∧ MM kA f0 f o li si su di Z' := ⟨_, rfl, hm.tr hp⟩
  have v2 : Z2 (21) = ((Z1 (b)).natAbs : Int) := by rw [hZ2, upI_self]
  have r2 : ∀ i, i ≠ 21 → Z2 i = Z1 i := fun i hi => by rw [hZ2, upI_ne _ _ hi]
  have e20 : Z2 20 = ((Z a).natAbs : Int) := by rw [r2 20 (by decide), v1]
  have e21 : Z2 21 = ((Z b).natAbs : Int) := by rw [v2, r1 b (by omega)]
  have er : ∀ r, r ≠ 20 → r ≠ 21 → Z2 r = Z r := fun r h1 h2 => by rw [r2 r h2, r1 r h1]
  have gg : (Int.gcd (Z2 20) (Z2 21) : Int) = (Int.gcd (Z a) (Z b) : Int) := by rw [e20, e21, gcd_abs]
  obtain ⟨L, S, G, U, hM, hL, hZ⟩ := id hm
  refine mv_aload_n B dX3_common_14 rfl (lv_at hl 0 rfl) ?_
  refine mw_get (C := RX3) (T := TX3) (N := 4) B hI hM.1 uin_X3 rfl 1 (by decide) kw_382 rfl dX3_common_15 ?_
  refine mv_bipush B dX3_common_18 (by decide) ?_
  refine mw_iald B hI 0 hM.2.2.1 rfl (20) (by omega) (by omega) (by decide) dX3_common_20 ?_
  rw [(hZ (20) (by omega)).2]
  have sg_ := c3_sg (Z2 (20))
  refine mv_if_eq (tgt := 34) B dX3_common_21 (by decide) (by omega) (fun hd0 => ?_) (fun hd0 => ?_)
  · refine mv_aload_n B dX3_common_34 rfl (lv_at hl 0 rfl) ?_
    refine mw_get (C := RX3) (T := TX3) (N := 4) B hI hM.1 uin_X3 rfl 1 (by decide) kw_382 rfl dX3_common_35 ?_
    refine mv_bipush B dX3_common_38 (by decide) ?_
    refine mw_iald B hI 0 hM.2.2.1 rfl (20) (by omega) (by omega) (by decide) dX3_common_40 ?_
    rw [(hZ (20) (by omega)).2]
    have sg_ := c3_sg (Z2 (20))
    refine mv_if_ne (tgt := 52) B dX3_common_41 (by decide) (by omega) (fun hd2 => ?_) (fun hd2 => ?_)
    · have hz2 : Z2 21 = 0 := by omega
      have g2 : Z2 20 = (Int.gcd (Z a) (Z b) : Int) := by
        rw [← gg, hz2, Int.gcd_zero_right]
        omega
      exact mw_vret B hQ hrt hI ⟨_, hm, g2, er⟩ dX3_common_52
    · have hz2 : Z2 20 = 0 := by omega
      refine mv_aload_n B dX3_common_44 rfl (lv_at hl 0 rfl) ?_
      refine mv_bipush B dX3_common_45 (by decide) ?_
      refine mv_bipush B dX3_common_47 (by decide) ?_
      obtain ⟨L, S, G, U, hM, hL, hZ⟩ := id hm
      refine mw_callv hI hA (va_runV (As := [.int (iI (20)), .int (iI (21))]) (rest := []) B.fix (t_X3_move l D kA H.size f (t := 20) (a := 21) hM.self hL (by omega) (by omega) (by omega) (by omega)) (cwV 2 B.2.2.2.2.1 (gV kw_430 kw_432 ks_26 kw_4 kw_433) rfl rfl rfl (by decide +kernel) ⟨Nat.le_of_ble_eq_true rfl, Nat.le_of_ble_eq_true rfl⟩) ⟨mw_blind st_S.blind, mw_recv B hI hM.1 rfl, mw_pre B hI (hSt.call hI hA)⟩ rfl rfl hl.1 rfl (lv_room (Nat.le_of_ble_eq_true rfl)) dX3_common_49 ⟨Nat.le_of_ble_eq_true rfl, Nat.le_of_ble_eq_true rfl⟩) (fun f H locs hp hI2 => ?_)
      clear hI
      have hI := hI2
      clear hI2
      obtain ⟨L1, hM1, hL1, ro1, hv1⟩ := hp
      obtain ⟨Z3, hZ3, hm⟩ : ∃ Z', Z' = upI Z2 (20) (Z2 (21)) ∧ MM kA f0 f o li si su di Z' := ⟨_, rfl, MM.u hZ (hM.tr hM1) hL1 ro1 (hv1.trans (hZ (21) (by omega)).1) (hZ (21) (by omega)).2⟩
      have v3 : Z3 (20) = Z2 (21) := by rw [hZ3, upI_self]
      have r3 : ∀ i, i ≠ 20 → Z3 i = Z2 i := fun i hi => by rw [hZ3, upI_ne _ _ hi]
      have g2 : Z3 20 = (Int.gcd (Z a) (Z b) : Int) := by
        rw [v3, ← gg, hz2, Int.gcd_zero_left]
        omega
      exact mw_vret B hQ hrt hI ⟨_, hm, g2, fun r h1 h2 => by rw [r3 r h1]; exact er r h1 h2⟩ dX3_common_52
  · refine mv_aload_n B dX3_common_24 rfl (lv_at hl 0 rfl) ?_
    refine mw_get (C := RX3) (T := TX3) (N := 4) B hI hM.1 uin_X3 rfl 1 (by decide) kw_382 rfl dX3_common_25 ?_
    refine mv_bipush B dX3_common_28 (by decide) ?_
    refine mw_iald B hI 0 hM.2.2.1 rfl (21) (by omega) (by omega) (by decide) dX3_common_30 ?_
    rw [(hZ (21) (by omega)).2]
    have sg_ := c3_sg (Z2 (21))
    refine mv_if_ne (tgt := 53) B dX3_common_31 (by decide) (by omega) (fun hd1 => ?_) (fun hd1 => ?_)
    · have p20 : 1 ≤ Z2 20 := by omega
      have p21 : 1 ≤ Z2 21 := by omega
      have gle := gcd_le (a := Z a) (b := Z b) (by omega)
      have tA : Z2 20 < 2 ^ 2240 := by rw [e20, ← p2_140]; exact lta
      refine mv_iconst B dX3_common_53 ?_
      refine mv_istore_n (lv' := [(3, .int (iI (0))), (0, .ref o), (1, .int (iI ((a : Int)))), (2, .int (iI ((b : Int))))]) B dX3_common_54 rfl hl (by decide) rfl (fun ls hl => ?_)
      have loop1 : ∀ (μ : Nat) (j : Nat) (tw : Int) (Zc : Nat → Int) (f : mw_M) (H : Heap) (locs : List Loc) (ls : Array Slot), (Zc 20).toNat < μ → tw = (j : Int) → 1 ≤ Zc 20 → 1 ≤ Zc 21 → Zc 20 * 2 ^ j = Z2 20 → Zc 21 * 2 ^ j = Z2 21 → (∀ r, r ≠ 20 → r ≠ 21 → Zc r = Z r) → MM kA f0 f o li si su di Zc → mw_I D vwCl A s H locs f → lv_has ls 5 [(3, .int (iI (tw))), (0, .ref o), (1, .int (iI ((a : Int)))), (2, .int (iI ((b : Int))))] → W p l e rm_X3_common s m ([.ref o, .int (iI ((a : Int))), .int (iI ((b : Int)))] : List Value).toArray below meth c H locs 0 0 Q (F0 m 55 ls []) := by
        intro μ
        induction μ with
        | zero => intro j tw Zc f H locs ls hμ; exact absurd hμ (Nat.not_lt_zero _)
        | succ μ ih =>
          intro j tw Zc f H locs ls hμ htw p0 p1 q0 q1 hr hm hI hl
          have jl := tw_lt p0 q0 tA
          refine mv_aload_n B dX3_common_55 rfl (lv_at hl 1 rfl) ?_
          refine mv_bipush B dX3_common_56 (by decide) ?_
          refine mv_iconst B dX3_common_58 ?_
          obtain ⟨L, S, G, U, hM, hL, hZ⟩ := id hm
          refine mw_calli hI hA (va_runV (As := [.int (iI (20)), .int (iI (0))]) (rest := []) B.fix (t_X3_bit l D kA H.size f (r := 20) (k := 0) hM.self hL (by omega) (by omega) (by omega) (by omega)) (cwV 2 B.2.2.2.2.1 (gV kw_461 kw_463 ks_28 kw_4 kw_464) rfl rfl rfl (by decide +kernel) ⟨Nat.le_of_ble_eq_true rfl, Nat.le_of_ble_eq_true rfl⟩) ⟨mw_blind st_S.blind, mw_recv B hI hM.1 rfl, mw_pre B hI (hSt.call hI hA)⟩ rfl rfl hl.1 rfl (lv_room (Nat.le_of_ble_eq_true rfl)) dX3_common_59 ⟨Nat.le_of_ble_eq_true rfl, Nat.le_of_ble_eq_true rfl⟩) (fun r f H locs hp hI2 => ?_)
          clear hI
          have hI := hI2
          clear hI2
          obtain ⟨rfl, rfl⟩ := hp
          rw [(hZ (20) (by omega)).1]
          rw [Int.pow_zero, Int.ediv_one]
          refine mv_if_ne (tgt := 93) B dX3_common_62 (by decide) (by omega) (fun hd2 => ?_) (fun hd2 => ?_)
          · have gc : (Int.gcd (Zc 20) (Zc 21) : Int) * 2 ^ j = (Int.gcd (Z a) (Z b) : Int) := by rw [← gg]; exact g_pow q0 q1
            have hod : Zc 20 % 2 = 1 ∨ Zc 21 % 2 = 1 := by omega
            have loop2 : ∀ (μ : Nat) (Zd : Nat → Int) (f : mw_M) (H : Heap) (locs : List Loc) (ls : Array Slot), (Zd 20 + Zd 21).toNat < μ → 1 ≤ Zd 20 → 0 ≤ Zd 21 → (Zd 20 % 2 = 1 ∨ Zd 21 % 2 = 1) → (Int.gcd (Zd 20) (Zd 21) : Int) * 2 ^ j = (Int.gcd (Z a) (Z b) : Int) → (∀ r, r ≠ 20 → r ≠ 21 → Zd r = Z r) → MM kA f0 f o li si su di Zd → mw_I D vwCl A s H locs f → lv_has ls 5 [(3, .int (iI (tw))), (0, .ref o), (1, .int (iI ((a : Int)))), (2, .int (iI ((b : Int))))] → W p l e rm_X3_common s m ([.ref o, .int (iI ((a : Int))), .int (iI ((b : Int)))] : List Value).toArray below meth c H locs 0 0 Q (F0 m 93 ls []) := by
              intro μ
              induction μ with
              | zero => intro Zd f H locs ls hμ; exact absurd hμ (Nat.not_lt_zero _)
              | succ μ ih =>
                intro Zd f H locs ls hμ s0 s1 so sg hr hm hI hl
                obtain ⟨L, S, G, U, hM, hL, hZ⟩ := id hm
                refine mv_aload_n B dX3_common_93 rfl (lv_at hl 1 rfl) ?_
                refine mw_get (C := RX3) (T := TX3) (N := 4) B hI hM.1 uin_X3 rfl 1 (by decide) kw_382 rfl dX3_common_94 ?_
                refine mv_bipush B dX3_common_97 (by decide) ?_
                refine mw_iald B hI 0 hM.2.2.1 rfl (21) (by omega) (by omega) (by decide) dX3_common_99 ?_
                rw [(hZ (21) (by omega)).2]
                have sg_ := c3_sg (Zd (21))
                refine mv_if_eq (tgt := 192) B dX3_common_100 (by decide) (by omega) (fun hd4 => ?_) (fun hd4 => ?_)
                · have z21 : Zd 21 = 0 := by omega
                  rw [z21, Int.gcd_zero_right] at sg
                  have sg : Zd 20 * 2 ^ j = (Int.gcd (Z a) (Z b) : Int) := by
                    rw [← sg]
                    congr 1
                    omega
                  refine mv_iconst B dX3_common_192 ?_
                  refine mv_istore (lv' := [(4, .int (iI (0))), (3, .int (iI (tw))), (0, .ref o), (1, .int (iI ((a : Int)))), (2, .int (iI ((b : Int))))]) B dX3_common_193 hl (by decide) rfl (fun ls hl => ?_)
                  have loop3 : ∀ (μ : Nat) (k : Nat) (i : Int) (Ze : Nat → Int) (f : mw_M) (H : Heap) (locs : List Loc) (ls : Array Slot), j - k < μ → i = (k : Int) → k ≤ j → Ze 20 = Zd 20 * 2 ^ k → (∀ r, r ≠ 20 → r ≠ 21 → Ze r = Z r) → MM kA f0 f o li si su di Ze → mw_I D vwCl A s H locs f → lv_has ls 5 [(4, .int (iI (i))), (3, .int (iI (tw))), (0, .ref o), (1, .int (iI ((a : Int)))), (2, .int (iI ((b : Int))))] → W p l e rm_X3_common s m ([.ref o, .int (iI ((a : Int))), .int (iI ((b : Int)))] : List Value).toArray below meth c H locs 0 0 Q (F0 m 195 ls []) := by
                    intro μ
                    induction μ with
                    | zero => intro k i Ze f H locs ls hμ; exact absurd hμ (Nat.not_lt_zero _)
                    | succ μ ih =>
                      intro k i Ze f H locs ls hμ hi hk he hr hm hI hl
                      have jl2 : j < 2240 := jl
                      refine mv_iload B dX3_common_195 (lv_at hl 0 rfl) ?_
                      refine mv_iload_n B dX3_common_197 rfl (lv_at hl 1 rfl) ?_
                      refine mv_icmp_ge (tgt := 214) B dX3_common_198 (by decide) (by omega) (fun hd9 => ?_) (fun hd9 => ?_)
                      · obtain rfl : k = j := by omega
                        exact mw_vret B hQ hrt hI ⟨_, hm, he.trans sg, hr⟩ dX3_common_214
                      · have pk := p2_pos k
                        have e1 : 1 * 2 ^ k ≤ Zd 20 * 2 ^ k := Int.mul_le_mul_of_nonneg_right s0 (Int.le_of_lt pk)
                        have e2 : Zd 20 * 2 ^ (k + 1) ≤ Zd 20 * 2 ^ j := Int.mul_le_mul_of_nonneg_left (p2_le (by omega)) (by omega)
                        rw [sg, p2_s, ← Int.mul_assoc] at e2
                        refine mv_aload_n B dX3_common_201 rfl (lv_at hl 2 rfl) ?_
                        refine mv_bipush B dX3_common_202 (by decide) ?_
                        refine mv_iconst B dX3_common_204 ?_
                        obtain ⟨L, S, G, U, hM, hL, hZ⟩ := id hm
                        have k0 := hZ 20 (by decide)
                        unfold hz at k0
                        have tb : 2 * mg L 20 + 0 < 65536 ^ 140 := by rw [k0.1]; exact (by rw [he]; omega)
                        refine mw_callv hI hA (va_runV (As := [.int (iI (20)), .int (iI (0))]) (rest := []) B.fix (t_X3_twice l D kA H.size f (t := 20) hM.self hL (by omega) (by omega) (by decide) tb) (cwV 2 B.2.2.2.2.1 (gV kw_465 kw_467 ks_29 kw_4 kw_468) rfl rfl rfl (by decide +kernel) ⟨Nat.le_of_ble_eq_true rfl, Nat.le_of_ble_eq_true rfl⟩) ⟨mw_blind st_S.blind, mw_recv B hI hM.1 rfl, mw_pre B hI (hSt.call hI hA)⟩ rfl rfl hl.1 rfl (lv_room (Nat.le_of_ble_eq_true rfl)) dX3_common_205 ⟨Nat.le_of_ble_eq_true rfl, Nat.le_of_ble_eq_true rfl⟩) (fun f H locs hp hI2 => ?_)
                        clear hI
                        have hI := hI2
                        clear hI2
                        obtain ⟨L1, hM1, hL1, ro1, hv1⟩ := hp
                        rw [k0.1] at hv1 hM1
                        obtain ⟨Z31, hZ31, hm⟩ : ∃ Z', Z' = upI Ze (20) (2 * Ze (20)) ∧ MM kA f0 f o li si su di Z' := ⟨_, rfl, MM.u hZ (hM.tr hM1) hL1 ro1 (by rw [hv1]; omega) (by rw [if_neg (by omega), c3_gt (by omega)])⟩
                        have v31 : Z31 (20) = 2 * Ze (20) := by rw [hZ31, upI_self]
                        have r31 : ∀ i, i ≠ 20 → Z31 i = Ze i := fun i hi => by rw [hZ31, upI_ne _ _ hi]
                        refine mv_iinc (k := 0) (lv' := [(4, .int (iI (i + 1))), (3, .int (iI (tw))), (0, .ref o), (1, .int (iI ((a : Int)))), (2, .int (iI ((b : Int))))]) B dX3_common_208 hl rfl (by decide) rfl (fun ls hl => ?_)
                        refine mv_goto (tgt := 195) B dX3_common_211 (by decide) ?_
                        exact ih (k + 1) _ Z31 f H locs ls (by omega) (by omega) (by omega) (by rw [v31, he, p2_s]; grind) (fun r h1 h2 => by rw [r31 r h1]; exact hr r h1 h2) hm hI (lv_sub hl [0, 1, 2, 3, 4] rfl)
                  exact loop3 (j + 1) 0 _ Zd f H locs ls (by omega) rfl (by omega) (by rw [Int.pow_zero, Int.mul_one]) hr hm hI (lv_sub hl [0, 1, 2, 3, 4] rfl)
                · refine mv_aload_n B dX3_common_103 rfl (lv_at hl 1 rfl) ?_
                  refine mv_bipush B dX3_common_104 (by decide) ?_
                  refine mv_iconst B dX3_common_106 ?_
                  obtain ⟨L, S, G, U, hM, hL, hZ⟩ := id hm
                  refine mw_calli hI hA (va_runV (As := [.int (iI (20)), .int (iI (0))]) (rest := []) B.fix (t_X3_bit l D kA H.size f (r := 20) (k := 0) hM.self hL (by omega) (by omega) (by omega) (by omega)) (cwV 2 B.2.2.2.2.1 (gV kw_461 kw_463 ks_28 kw_4 kw_464) rfl rfl rfl (by decide +kernel) ⟨Nat.le_of_ble_eq_true rfl, Nat.le_of_ble_eq_true rfl⟩) ⟨mw_blind st_S.blind, mw_recv B hI hM.1 rfl, mw_pre B hI (hSt.call hI hA)⟩ rfl rfl hl.1 rfl (lv_room (Nat.le_of_ble_eq_true rfl)) dX3_common_107 ⟨Nat.le_of_ble_eq_true rfl, Nat.le_of_ble_eq_true rfl⟩) (fun r f H locs hp hI2 => ?_)
                  clear hI
                  have hI := hI2
                  clear hI2
                  obtain ⟨rfl, rfl⟩ := hp
                  rw [(hZ (20) (by omega)).1]
                  rw [Int.pow_zero, Int.ediv_one]
                  refine mv_if_ne (tgt := 122) B dX3_common_110 (by decide) (by omega) (fun hd5 => ?_) (fun hd5 => ?_)
                  · refine mv_aload_n B dX3_common_122 rfl (lv_at hl 1 rfl) ?_
                    refine mv_bipush B dX3_common_123 (by decide) ?_
                    refine mv_iconst B dX3_common_125 ?_
                    obtain ⟨L, S, G, U, hM, hL, hZ⟩ := id hm
                    refine mw_calli hI hA (va_runV (As := [.int (iI (21)), .int (iI (0))]) (rest := []) B.fix (t_X3_bit l D kA H.size f (r := 21) (k := 0) hM.self hL (by omega) (by omega) (by omega) (by omega)) (cwV 2 B.2.2.2.2.1 (gV kw_461 kw_463 ks_28 kw_4 kw_464) rfl rfl rfl (by decide +kernel) ⟨Nat.le_of_ble_eq_true rfl, Nat.le_of_ble_eq_true rfl⟩) ⟨mw_blind st_S.blind, mw_recv B hI hM.1 rfl, mw_pre B hI (hSt.call hI hA)⟩ rfl rfl hl.1 rfl (lv_room (Nat.le_of_ble_eq_true rfl)) dX3_common_126 ⟨Nat.le_of_ble_eq_true rfl, Nat.le_of_ble_eq_true rfl⟩) (fun r f H locs hp hI2 => ?_)
                    clear hI
                    have hI := hI2
                    clear hI2
                    obtain ⟨rfl, rfl⟩ := hp
                    rw [(hZ (21) (by omega)).1]
                    rw [Int.pow_zero, Int.ediv_one]
                    refine mv_if_ne (tgt := 141) B dX3_common_129 (by decide) (by omega) (fun hd6 => ?_) (fun hd6 => ?_)
                    · refine mv_aload_n B dX3_common_141 rfl (lv_at hl 1 rfl) ?_
                      refine mv_bipush B dX3_common_142 (by decide) ?_
                      refine mv_bipush B dX3_common_144 (by decide) ?_
                      obtain ⟨L, S, G, U, hM, hL, hZ⟩ := id hm
                      refine mw_calli hI hA (va_runV (As := [.int (iI (20)), .int (iI (21))]) (rest := []) B.fix (t_X3_sizes l D kA H.size f (a := 20) (b := 21) hM.self hL (by omega) (by omega) (by omega) (by omega)) (cwV 2 B.2.2.2.2.1 (gV kw_414 kw_416 ks_22 kw_4 kw_417) rfl rfl rfl (by decide +kernel) ⟨Nat.le_of_ble_eq_true rfl, Nat.le_of_ble_eq_true rfl⟩) ⟨mw_blind st_S.blind, mw_recv B hI hM.1 rfl, mw_pre B hI (hSt.call hI hA)⟩ rfl rfl hl.1 rfl (lv_room (Nat.le_of_ble_eq_true rfl)) dX3_common_146 ⟨Nat.le_of_ble_eq_true rfl, Nat.le_of_ble_eq_true rfl⟩) (fun r f H locs hp hI2 => ?_)
                      clear hI
                      have hI := hI2
                      clear hI2
                      obtain ⟨rfl, rfl⟩ := hp
                      rw [(hZ (20) (by omega)).1, (hZ (21) (by omega)).1]
                      have cc_ := c3_in ((Zd (20)).natAbs : Int) ((Zd (21)).natAbs : Int)
                      refine mv_if_le (tgt := 172) B dX3_common_149 (by decide) (by omega) (fun hd7 => ?_) (fun hd7 => ?_)
                      · refine mv_aload_n B dX3_common_172 rfl (lv_at hl 1 rfl) ?_
                        refine mv_bipush B dX3_common_173 (by decide) ?_
                        refine mv_bipush B dX3_common_175 (by decide) ?_
                        refine mv_bipush B dX3_common_177 (by decide) ?_
                        obtain ⟨L, S, G, U, hM, hL, hZ⟩ := id hm
                        have k0 := hZ 21 (by decide)
                        have k1 := hZ 20 (by decide)
                        unfold hz at k0 k1
                        have hle : mg L 20 ≤ mg L 21 := by rw [k0.1, k1.1]; omega
                        refine mw_callv hI hA (va_runV (As := [.int (iI (21)), .int (iI (21)), .int (iI (20))]) (rest := []) B.fix (t_X3_takeSizes l D kA H.size f (t := 21) (a := 21) (b := 20) hM.self hL (by omega) (by omega) (by omega) (by omega) (by omega) (by omega) hle) (cwV 3 B.2.2.2.2.1 (gV kw_418 kw_420 ks_23 kw_4 kw_421) rfl rfl rfl (by decide +kernel) ⟨Nat.le_of_ble_eq_true rfl, Nat.le_of_ble_eq_true rfl⟩) ⟨mw_blind st_S.blind, mw_recv B hI hM.1 rfl, mw_pre B hI (hSt.call hI hA)⟩ rfl rfl hl.1 rfl (lv_room (Nat.le_of_ble_eq_true rfl)) dX3_common_179 ⟨Nat.le_of_ble_eq_true rfl, Nat.le_of_ble_eq_true rfl⟩) (fun f H locs hp hI2 => ?_)
                        clear hI
                        have hI := hI2
                        clear hI2
                        obtain ⟨L1, hM1, hL1, ro1, hv1⟩ := hp
                        have hM := hM.tr hM1
                        rw [k0.1, k1.1] at hv1
                        refine mv_aload_n B dX3_common_182 rfl (lv_at hl 1 rfl) ?_
                        refine mv_bipush B dX3_common_183 (by decide) ?_
                        refine mv_iconst B dX3_common_185 ?_
                        refine mw_callv hI hA (va_runV (As := [.int (iI (21)), .int (iI (1))]) (rest := []) B.fix (t_X3_settle l D kA H.size f (r := 21) hM.self hL1 (by omega) (by omega)) (cwV 2 B.2.2.2.2.1 (gV kw_367 kw_369 ks_17 kw_4 kw_370) rfl rfl rfl (by decide +kernel) ⟨Nat.le_of_ble_eq_true rfl, Nat.le_of_ble_eq_true rfl⟩) ⟨mw_blind st_S.blind, mw_recv B hI hM.1 rfl, mw_pre B hI (hSt.call hI hA)⟩ rfl rfl hl.1 rfl (lv_room (Nat.le_of_ble_eq_true rfl)) dX3_common_186 ⟨Nat.le_of_ble_eq_true rfl, Nat.le_of_ble_eq_true rfl⟩) (fun f H locs hp hI2 => ?_)
                        clear hI
                        have hI := hI2
                        clear hI2
                        have hM := hM.tr hp
                        obtain ⟨Z21, hZ21, hm⟩ : ∃ Z', Z' = upI Zd (21) (Zd (21) - Zd (20)) ∧ MM kA f0 f o li si su di Z' := ⟨_, rfl, MM.st hZ hM hL1 ro1 (by rw [hv1]; omega) (fun h => by rw [c3_gt (by omega)])⟩
                        have v21 : Z21 (21) = Zd (21) - Zd (20) := by rw [hZ21, upI_self]
                        have r21 : ∀ i, i ≠ 21 → Z21 i = Zd i := fun i hi => by rw [hZ21, upI_ne _ _ hi]
                        refine mv_goto (tgt := 93) B dX3_common_189 (by decide) ?_
                        have a20 := r21 20 (by decide)
                        have a21 := v21
                        exact ih Z21 f H locs ls (by omega) (by omega) (by omega) (by omega) (by rw [a20, a21, g_sub2]; exact sg) (fun r h1 h2 => by rw [r21 r (by omega)]; exact hr r h1 h2) hm hI (lv_sub hl [0, 1, 2, 3] rfl)
                      · refine mv_aload_n B dX3_common_152 rfl (lv_at hl 1 rfl) ?_
                        refine mv_bipush B dX3_common_153 (by decide) ?_
                        refine mv_bipush B dX3_common_155 (by decide) ?_
                        refine mv_bipush B dX3_common_157 (by decide) ?_
                        obtain ⟨L, S, G, U, hM, hL, hZ⟩ := id hm
                        have k0 := hZ 20 (by decide)
                        have k1 := hZ 21 (by decide)
                        unfold hz at k0 k1
                        have hle : mg L 21 ≤ mg L 20 := by rw [k0.1, k1.1]; omega
                        refine mw_callv hI hA (va_runV (As := [.int (iI (20)), .int (iI (20)), .int (iI (21))]) (rest := []) B.fix (t_X3_takeSizes l D kA H.size f (t := 20) (a := 20) (b := 21) hM.self hL (by omega) (by omega) (by omega) (by omega) (by omega) (by omega) hle) (cwV 3 B.2.2.2.2.1 (gV kw_418 kw_420 ks_23 kw_4 kw_421) rfl rfl rfl (by decide +kernel) ⟨Nat.le_of_ble_eq_true rfl, Nat.le_of_ble_eq_true rfl⟩) ⟨mw_blind st_S.blind, mw_recv B hI hM.1 rfl, mw_pre B hI (hSt.call hI hA)⟩ rfl rfl hl.1 rfl (lv_room (Nat.le_of_ble_eq_true rfl)) dX3_common_159 ⟨Nat.le_of_ble_eq_true rfl, Nat.le_of_ble_eq_true rfl⟩) (fun f H locs hp hI2 => ?_)
                        clear hI
                        have hI := hI2
                        clear hI2
                        obtain ⟨L1, hM1, hL1, ro1, hv1⟩ := hp
                        have hM := hM.tr hM1
                        rw [k0.1, k1.1] at hv1
                        refine mv_aload_n B dX3_common_162 rfl (lv_at hl 1 rfl) ?_
                        refine mv_bipush B dX3_common_163 (by decide) ?_
                        refine mv_iconst B dX3_common_165 ?_
                        refine mw_callv hI hA (va_runV (As := [.int (iI (20)), .int (iI (1))]) (rest := []) B.fix (t_X3_settle l D kA H.size f (r := 20) hM.self hL1 (by omega) (by omega)) (cwV 2 B.2.2.2.2.1 (gV kw_367 kw_369 ks_17 kw_4 kw_370) rfl rfl rfl (by decide +kernel) ⟨Nat.le_of_ble_eq_true rfl, Nat.le_of_ble_eq_true rfl⟩) ⟨mw_blind st_S.blind, mw_recv B hI hM.1 rfl, mw_pre B hI (hSt.call hI hA)⟩ rfl rfl hl.1 rfl (lv_room (Nat.le_of_ble_eq_true rfl)) dX3_common_166 ⟨Nat.le_of_ble_eq_true rfl, Nat.le_of_ble_eq_true rfl⟩) (fun f H locs hp hI2 => ?_)
                        clear hI
                        have hI := hI2
                        clear hI2
                        have hM := hM.tr hp
                        obtain ⟨Z21, hZ21, hm⟩ : ∃ Z', Z' = upI Zd (20) (Zd (20) - Zd (21)) ∧ MM kA f0 f o li si su di Z' := ⟨_, rfl, MM.st hZ hM hL1 ro1 (by rw [hv1]; omega) (fun h => by rw [c3_gt (by omega)])⟩
                        have v21 : Z21 (20) = Zd (20) - Zd (21) := by rw [hZ21, upI_self]
                        have r21 : ∀ i, i ≠ 20 → Z21 i = Zd i := fun i hi => by rw [hZ21, upI_ne _ _ hi]
                        refine mv_goto (tgt := 93) B dX3_common_169 (by decide) ?_
                        have a20 := v21
                        have a21 := r21 21 (by decide)
                        exact ih Z21 f H locs ls (by omega) (by omega) (by omega) (by omega) (by rw [a20, a21, g_sub]; exact sg) (fun r h1 h2 => by rw [r21 r (by omega)]; exact hr r h1 h2) hm hI (lv_sub hl [0, 1, 2, 3] rfl)
                    · refine mv_aload_n B dX3_common_132 rfl (lv_at hl 1 rfl) ?_
                      refine mv_bipush B dX3_common_133 (by decide) ?_
                      obtain ⟨L, S, G, U, hM, hL, hZ⟩ := id hm
                      refine mw_callv hI hA (va_runV (As := [.int (iI (21))]) (rest := []) B.fix (t_X3_half l D kA H.size f (t := 21) hM.self hL (by omega) (by omega)) (cwV 1 B.2.2.2.2.1 (gV kw_485 kw_487 ks_32 kw_4 kw_488) rfl rfl rfl (by decide +kernel) ⟨Nat.le_of_ble_eq_true rfl, Nat.le_of_ble_eq_true rfl⟩) ⟨mw_blind st_S.blind, mw_recv B hI hM.1 rfl, mw_pre B hI (hSt.call hI hA)⟩ rfl rfl hl.1 rfl (lv_room (Nat.le_of_ble_eq_true rfl)) dX3_common_135 ⟨Nat.le_of_ble_eq_true rfl, Nat.le_of_ble_eq_true rfl⟩) (fun f H locs hp hI2 => ?_)
                      clear hI
                      have hI := hI2
                      clear hI2
                      obtain ⟨L1, hM1, hL1, ro1, hv1⟩ := hp
                      have k0 := hZ 21 (by decide)
                      unfold hz at k0
                      rw [k0.1] at hv1 hM1
                      rw [k0.2] at hM1
                      obtain ⟨Z21, hZ21, hm⟩ : ∃ Z', Z' = upI Zd (21) (Zd (21) / 2) ∧ MM kA f0 f o li si su di Z' := ⟨_, rfl, MM.u hZ (hM.tr hM1) hL1 ro1 (by rw [hv1]; omega) (half_c3 (by omega))⟩
                      have v21 : Z21 (21) = Zd (21) / 2 := by rw [hZ21, upI_self]
                      have r21 : ∀ i, i ≠ 21 → Z21 i = Zd i := fun i hi => by rw [hZ21, upI_ne _ _ hi]
                      refine mv_goto (tgt := 93) B dX3_common_138 (by decide) ?_
                      have a20 := r21 20 (by decide)
                      have a21 := v21
                      exact ih Z21 f H locs ls (by omega) (by omega) (by omega) (by omega) (by rw [a20, a21, g_half2 (by omega) (by omega)]; exact sg) (fun r h1 h2 => by rw [r21 r (by omega)]; exact hr r h1 h2) hm hI (lv_sub hl [0, 1, 2, 3] rfl)
                  · refine mv_aload_n B dX3_common_113 rfl (lv_at hl 1 rfl) ?_
                    refine mv_bipush B dX3_common_114 (by decide) ?_
                    obtain ⟨L, S, G, U, hM, hL, hZ⟩ := id hm
                    refine mw_callv hI hA (va_runV (As := [.int (iI (20))]) (rest := []) B.fix (t_X3_half l D kA H.size f (t := 20) hM.self hL (by omega) (by omega)) (cwV 1 B.2.2.2.2.1 (gV kw_485 kw_487 ks_32 kw_4 kw_488) rfl rfl rfl (by decide +kernel) ⟨Nat.le_of_ble_eq_true rfl, Nat.le_of_ble_eq_true rfl⟩) ⟨mw_blind st_S.blind, mw_recv B hI hM.1 rfl, mw_pre B hI (hSt.call hI hA)⟩ rfl rfl hl.1 rfl (lv_room (Nat.le_of_ble_eq_true rfl)) dX3_common_116 ⟨Nat.le_of_ble_eq_true rfl, Nat.le_of_ble_eq_true rfl⟩) (fun f H locs hp hI2 => ?_)
                    clear hI
                    have hI := hI2
                    clear hI2
                    obtain ⟨L1, hM1, hL1, ro1, hv1⟩ := hp
                    have k0 := hZ 20 (by decide)
                    unfold hz at k0
                    rw [k0.1] at hv1 hM1
                    rw [k0.2] at hM1
                    obtain ⟨Z21, hZ21, hm⟩ : ∃ Z', Z' = upI Zd (20) (Zd (20) / 2) ∧ MM kA f0 f o li si su di Z' := ⟨_, rfl, MM.u hZ (hM.tr hM1) hL1 ro1 (by rw [hv1]; omega) (half_c3 (by omega))⟩
                    have v21 : Z21 (20) = Zd (20) / 2 := by rw [hZ21, upI_self]
                    have r21 : ∀ i, i ≠ 20 → Z21 i = Zd i := fun i hi => by rw [hZ21, upI_ne _ _ hi]
                    refine mv_goto (tgt := 93) B dX3_common_119 (by decide) ?_
                    have a20 := v21
                    have a21 := r21 21 (by decide)
                    exact ih Z21 f H locs ls (by omega) (by omega) (by omega) (by omega) (by rw [a20, a21, g_half (by omega) (by omega)]; exact sg) (fun r h1 h2 => by rw [r21 r (by omega)]; exact hr r h1 h2) hm hI (lv_sub hl [0, 1, 2, 3] rfl)
            exact loop2 ((Zc 20 + Zc 21).toNat + 1) Zc f H locs ls (by omega) p0 (by omega) hod gc hr hm hI (lv_sub hl [0, 1, 2, 3] rfl)
          · refine mv_aload_n B dX3_common_65 rfl (lv_at hl 1 rfl) ?_
            refine mv_bipush B dX3_common_66 (by decide) ?_
            refine mv_iconst B dX3_common_68 ?_
            obtain ⟨L, S, G, U, hM, hL, hZ⟩ := id hm
            refine mw_calli hI hA (va_runV (As := [.int (iI (21)), .int (iI (0))]) (rest := []) B.fix (t_X3_bit l D kA H.size f (r := 21) (k := 0) hM.self hL (by omega) (by omega) (by omega) (by omega)) (cwV 2 B.2.2.2.2.1 (gV kw_461 kw_463 ks_28 kw_4 kw_464) rfl rfl rfl (by decide +kernel) ⟨Nat.le_of_ble_eq_true rfl, Nat.le_of_ble_eq_true rfl⟩) ⟨mw_blind st_S.blind, mw_recv B hI hM.1 rfl, mw_pre B hI (hSt.call hI hA)⟩ rfl rfl hl.1 rfl (lv_room (Nat.le_of_ble_eq_true rfl)) dX3_common_69 ⟨Nat.le_of_ble_eq_true rfl, Nat.le_of_ble_eq_true rfl⟩) (fun r f H locs hp hI2 => ?_)
            clear hI
            have hI := hI2
            clear hI2
            obtain ⟨rfl, rfl⟩ := hp
            rw [(hZ (21) (by omega)).1]
            rw [Int.pow_zero, Int.ediv_one]
            refine mv_if_ne (tgt := 93) B dX3_common_72 (by decide) (by omega) (fun hd3 => ?_) (fun hd3 => ?_)
            · have gc : (Int.gcd (Zc 20) (Zc 21) : Int) * 2 ^ j = (Int.gcd (Z a) (Z b) : Int) := by rw [← gg]; exact g_pow q0 q1
              have hod : Zc 20 % 2 = 1 ∨ Zc 21 % 2 = 1 := by omega
              have loop2 : ∀ (μ : Nat) (Zd : Nat → Int) (f : mw_M) (H : Heap) (locs : List Loc) (ls : Array Slot), (Zd 20 + Zd 21).toNat < μ → 1 ≤ Zd 20 → 0 ≤ Zd 21 → (Zd 20 % 2 = 1 ∨ Zd 21 % 2 = 1) → (Int.gcd (Zd 20) (Zd 21) : Int) * 2 ^ j = (Int.gcd (Z a) (Z b) : Int) → (∀ r, r ≠ 20 → r ≠ 21 → Zd r = Z r) → MM kA f0 f o li si su di Zd → mw_I D vwCl A s H locs f → lv_has ls 5 [(3, .int (iI (tw))), (0, .ref o), (1, .int (iI ((a : Int)))), (2, .int (iI ((b : Int))))] → W p l e rm_X3_common s m ([.ref o, .int (iI ((a : Int))), .int (iI ((b : Int)))] : List Value).toArray below meth c H locs 0 0 Q (F0 m 93 ls []) := by
                intro μ
                induction μ with
                | zero => intro Zd f H locs ls hμ; exact absurd hμ (Nat.not_lt_zero _)
                | succ μ ih =>
                  intro Zd f H locs ls hμ s0 s1 so sg hr hm hI hl
                  obtain ⟨L, S, G, U, hM, hL, hZ⟩ := id hm
                  refine mv_aload_n B dX3_common_93 rfl (lv_at hl 1 rfl) ?_
                  refine mw_get (C := RX3) (T := TX3) (N := 4) B hI hM.1 uin_X3 rfl 1 (by decide) kw_382 rfl dX3_common_94 ?_
                  refine mv_bipush B dX3_common_97 (by decide) ?_
                  refine mw_iald B hI 0 hM.2.2.1 rfl (21) (by omega) (by omega) (by decide) dX3_common_99 ?_
                  rw [(hZ (21) (by omega)).2]
                  have sg_ := c3_sg (Zd (21))
                  refine mv_if_eq (tgt := 192) B dX3_common_100 (by decide) (by omega) (fun hd4 => ?_) (fun hd4 => ?_)
                  · have z21 : Zd 21 = 0 := by omega
                    rw [z21, Int.gcd_zero_right] at sg
                    have sg : Zd 20 * 2 ^ j = (Int.gcd (Z a) (Z b) : Int) := by
                      rw [← sg]
                      congr 1
                      omega
                    refine mv_iconst B dX3_common_192 ?_
                    refine mv_istore (lv' := [(4, .int (iI (0))), (3, .int (iI (tw))), (0, .ref o), (1, .int (iI ((a : Int)))), (2, .int (iI ((b : Int))))]) B dX3_common_193 hl (by decide) rfl (fun ls hl => ?_)
                    have loop3 : ∀ (μ : Nat) (k : Nat) (i : Int) (Ze : Nat → Int) (f : mw_M) (H : Heap) (locs : List Loc) (ls : Array Slot), j - k < μ → i = (k : Int) → k ≤ j → Ze 20 = Zd 20 * 2 ^ k → (∀ r, r ≠ 20 → r ≠ 21 → Ze r = Z r) → MM kA f0 f o li si su di Ze → mw_I D vwCl A s H locs f → lv_has ls 5 [(4, .int (iI (i))), (3, .int (iI (tw))), (0, .ref o), (1, .int (iI ((a : Int)))), (2, .int (iI ((b : Int))))] → W p l e rm_X3_common s m ([.ref o, .int (iI ((a : Int))), .int (iI ((b : Int)))] : List Value).toArray below meth c H locs 0 0 Q (F0 m 195 ls []) := by
                      intro μ
                      induction μ with
                      | zero => intro k i Ze f H locs ls hμ; exact absurd hμ (Nat.not_lt_zero _)
                      | succ μ ih =>
                        intro k i Ze f H locs ls hμ hi hk he hr hm hI hl
                        have jl2 : j < 2240 := jl
                        refine mv_iload B dX3_common_195 (lv_at hl 0 rfl) ?_
                        refine mv_iload_n B dX3_common_197 rfl (lv_at hl 1 rfl) ?_
                        refine mv_icmp_ge (tgt := 214) B dX3_common_198 (by decide) (by omega) (fun hd9 => ?_) (fun hd9 => ?_)
                        · obtain rfl : k = j := by omega
                          exact mw_vret B hQ hrt hI ⟨_, hm, he.trans sg, hr⟩ dX3_common_214
                        · have pk := p2_pos k
                          have e1 : 1 * 2 ^ k ≤ Zd 20 * 2 ^ k := Int.mul_le_mul_of_nonneg_right s0 (Int.le_of_lt pk)
                          have e2 : Zd 20 * 2 ^ (k + 1) ≤ Zd 20 * 2 ^ j := Int.mul_le_mul_of_nonneg_left (p2_le (by omega)) (by omega)
                          rw [sg, p2_s, ← Int.mul_assoc] at e2
                          refine mv_aload_n B dX3_common_201 rfl (lv_at hl 2 rfl) ?_
                          refine mv_bipush B dX3_common_202 (by decide) ?_
                          refine mv_iconst B dX3_common_204 ?_
                          obtain ⟨L, S, G, U, hM, hL, hZ⟩ := id hm
                          have k0 := hZ 20 (by decide)
                          unfold hz at k0
                          have tb : 2 * mg L 20 + 0 < 65536 ^ 140 := by rw [k0.1]; exact (by rw [he]; omega)
                          refine mw_callv hI hA (va_runV (As := [.int (iI (20)), .int (iI (0))]) (rest := []) B.fix (t_X3_twice l D kA H.size f (t := 20) hM.self hL (by omega) (by omega) (by decide) tb) (cwV 2 B.2.2.2.2.1 (gV kw_465 kw_467 ks_29 kw_4 kw_468) rfl rfl rfl (by decide +kernel) ⟨Nat.le_of_ble_eq_true rfl, Nat.le_of_ble_eq_true rfl⟩) ⟨mw_blind st_S.blind, mw_recv B hI hM.1 rfl, mw_pre B hI (hSt.call hI hA)⟩ rfl rfl hl.1 rfl (lv_room (Nat.le_of_ble_eq_true rfl)) dX3_common_205 ⟨Nat.le_of_ble_eq_true rfl, Nat.le_of_ble_eq_true rfl⟩) (fun f H locs hp hI2 => ?_)
                          clear hI
                          have hI := hI2
                          clear hI2
                          obtain ⟨L1, hM1, hL1, ro1, hv1⟩ := hp
                          rw [k0.1] at hv1 hM1
                          obtain ⟨Z31, hZ31, hm⟩ : ∃ Z', Z' = upI Ze (20) (2 * Ze (20)) ∧ MM kA f0 f o li si su di Z' := ⟨_, rfl, MM.u hZ (hM.tr hM1) hL1 ro1 (by rw [hv1]; omega) (by rw [if_neg (by omega), c3_gt (by omega)])⟩
                          have v31 : Z31 (20) = 2 * Ze (20) := by rw [hZ31, upI_self]
                          have r31 : ∀ i, i ≠ 20 → Z31 i = Ze i := fun i hi => by rw [hZ31, upI_ne _ _ hi]
                          refine mv_iinc (k := 0) (lv' := [(4, .int (iI (i + 1))), (3, .int (iI (tw))), (0, .ref o), (1, .int (iI ((a : Int)))), (2, .int (iI ((b : Int))))]) B dX3_common_208 hl rfl (by decide) rfl (fun ls hl => ?_)
                          refine mv_goto (tgt := 195) B dX3_common_211 (by decide) ?_
                          exact ih (k + 1) _ Z31 f H locs ls (by omega) (by omega) (by omega) (by rw [v31, he, p2_s]; grind) (fun r h1 h2 => by rw [r31 r h1]; exact hr r h1 h2) hm hI (lv_sub hl [0, 1, 2, 3, 4] rfl)
                    exact loop3 (j + 1) 0 _ Zd f H locs ls (by omega) rfl (by omega) (by rw [Int.pow_zero, Int.mul_one]) hr hm hI (lv_sub hl [0, 1, 2, 3, 4] rfl)
                  · refine mv_aload_n B dX3_common_103 rfl (lv_at hl 1 rfl) ?_
                    refine mv_bipush B dX3_common_104 (by decide) ?_
                    refine mv_iconst B dX3_common_106 ?_
                    obtain ⟨L, S, G, U, hM, hL, hZ⟩ := id hm
                    refine mw_calli hI hA (va_runV (As := [.int (iI (20)), .int (iI (0))]) (rest := []) B.fix (t_X3_bit l D kA H.size f (r := 20) (k := 0) hM.self hL (by omega) (by omega) (by omega) (by omega)) (cwV 2 B.2.2.2.2.1 (gV kw_461 kw_463 ks_28 kw_4 kw_464) rfl rfl rfl (by decide +kernel) ⟨Nat.le_of_ble_eq_true rfl, Nat.le_of_ble_eq_true rfl⟩) ⟨mw_blind st_S.blind, mw_recv B hI hM.1 rfl, mw_pre B hI (hSt.call hI hA)⟩ rfl rfl hl.1 rfl (lv_room (Nat.le_of_ble_eq_true rfl)) dX3_common_107 ⟨Nat.le_of_ble_eq_true rfl, Nat.le_of_ble_eq_true rfl⟩) (fun r f H locs hp hI2 => ?_)
                    clear hI
                    have hI := hI2
                    clear hI2
                    obtain ⟨rfl, rfl⟩ := hp
                    rw [(hZ (20) (by omega)).1]
                    rw [Int.pow_zero, Int.ediv_one]
                    refine mv_if_ne (tgt := 122) B dX3_common_110 (by decide) (by omega) (fun hd5 => ?_) (fun hd5 => ?_)
                    · refine mv_aload_n B dX3_common_122 rfl (lv_at hl 1 rfl) ?_
                      refine mv_bipush B dX3_common_123 (by decide) ?_
                      refine mv_iconst B dX3_common_125 ?_
                      obtain ⟨L, S, G, U, hM, hL, hZ⟩ := id hm
                      refine mw_calli hI hA (va_runV (As := [.int (iI (21)), .int (iI (0))]) (rest := []) B.fix (t_X3_bit l D kA H.size f (r := 21) (k := 0) hM.self hL (by omega) (by omega) (by omega) (by omega)) (cwV 2 B.2.2.2.2.1 (gV kw_461 kw_463 ks_28 kw_4 kw_464) rfl rfl rfl (by decide +kernel) ⟨Nat.le_of_ble_eq_true rfl, Nat.le_of_ble_eq_true rfl⟩) ⟨mw_blind st_S.blind, mw_recv B hI hM.1 rfl, mw_pre B hI (hSt.call hI hA)⟩ rfl rfl hl.1 rfl (lv_room (Nat.le_of_ble_eq_true rfl)) dX3_common_126 ⟨Nat.le_of_ble_eq_true rfl, Nat.le_of_ble_eq_true rfl⟩) (fun r f H locs hp hI2 => ?_)
                      clear hI
                      have hI := hI2
                      clear hI2
                      obtain ⟨rfl, rfl⟩ := hp
                      rw [(hZ (21) (by omega)).1]
                      rw [Int.pow_zero, Int.ediv_one]
                      refine mv_if_ne (tgt := 141) B dX3_common_129 (by decide) (by omega) (fun hd6 => ?_) (fun hd6 => ?_)
                      · refine mv_aload_n B dX3_common_141 rfl (lv_at hl 1 rfl) ?_
                        refine mv_bipush B dX3_common_142 (by decide) ?_
                        refine mv_bipush B dX3_common_144 (by decide) ?_
                        obtain ⟨L, S, G, U, hM, hL, hZ⟩ := id hm
                        refine mw_calli hI hA (va_runV (As := [.int (iI (20)), .int (iI (21))]) (rest := []) B.fix (t_X3_sizes l D kA H.size f (a := 20) (b := 21) hM.self hL (by omega) (by omega) (by omega) (by omega)) (cwV 2 B.2.2.2.2.1 (gV kw_414 kw_416 ks_22 kw_4 kw_417) rfl rfl rfl (by decide +kernel) ⟨Nat.le_of_ble_eq_true rfl, Nat.le_of_ble_eq_true rfl⟩) ⟨mw_blind st_S.blind, mw_recv B hI hM.1 rfl, mw_pre B hI (hSt.call hI hA)⟩ rfl rfl hl.1 rfl (lv_room (Nat.le_of_ble_eq_true rfl)) dX3_common_146 ⟨Nat.le_of_ble_eq_true rfl, Nat.le_of_ble_eq_true rfl⟩) (fun r f H locs hp hI2 => ?_)
                        clear hI
                        have hI := hI2
                        clear hI2
                        obtain ⟨rfl, rfl⟩ := hp
                        rw [(hZ (20) (by omega)).1, (hZ (21) (by omega)).1]
                        have cc_ := c3_in ((Zd (20)).natAbs : Int) ((Zd (21)).natAbs : Int)
                        refine mv_if_le (tgt := 172) B dX3_common_149 (by decide) (by omega) (fun hd7 => ?_) (fun hd7 => ?_)
                        · refine mv_aload_n B dX3_common_172 rfl (lv_at hl 1 rfl) ?_
                          refine mv_bipush B dX3_common_173 (by decide) ?_
                          refine mv_bipush B dX3_common_175 (by decide) ?_
                          refine mv_bipush B dX3_common_177 (by decide) ?_
                          obtain ⟨L, S, G, U, hM, hL, hZ⟩ := id hm
                          have k0 := hZ 21 (by decide)
                          have k1 := hZ 20 (by decide)
                          unfold hz at k0 k1
                          have hle : mg L 20 ≤ mg L 21 := by rw [k0.1, k1.1]; omega
                          refine mw_callv hI hA (va_runV (As := [.int (iI (21)), .int (iI (21)), .int (iI (20))]) (rest := []) B.fix (t_X3_takeSizes l D kA H.size f (t := 21) (a := 21) (b := 20) hM.self hL (by omega) (by omega) (by omega) (by omega) (by omega) (by omega) hle) (cwV 3 B.2.2.2.2.1 (gV kw_418 kw_420 ks_23 kw_4 kw_421) rfl rfl rfl (by decide +kernel) ⟨Nat.le_of_ble_eq_true rfl, Nat.le_of_ble_eq_true rfl⟩) ⟨mw_blind st_S.blind, mw_recv B hI hM.1 rfl, mw_pre B hI (hSt.call hI hA)⟩ rfl rfl hl.1 rfl (lv_room (Nat.le_of_ble_eq_true rfl)) dX3_common_179 ⟨Nat.le_of_ble_eq_true rfl, Nat.le_of_ble_eq_true rfl⟩) (fun f H locs hp hI2 => ?_)
                          clear hI
                          have hI := hI2
                          clear hI2
                          obtain ⟨L1, hM1, hL1, ro1, hv1⟩ := hp
                          have hM := hM.tr hM1
                          rw [k0.1, k1.1] at hv1
                          refine mv_aload_n B dX3_common_182 rfl (lv_at hl 1 rfl) ?_
                          refine mv_bipush B dX3_common_183 (by decide) ?_
                          refine mv_iconst B dX3_common_185 ?_
                          refine mw_callv hI hA (va_runV (As := [.int (iI (21)), .int (iI (1))]) (rest := []) B.fix (t_X3_settle l D kA H.size f (r := 21) hM.self hL1 (by omega) (by omega)) (cwV 2 B.2.2.2.2.1 (gV kw_367 kw_369 ks_17 kw_4 kw_370) rfl rfl rfl (by decide +kernel) ⟨Nat.le_of_ble_eq_true rfl, Nat.le_of_ble_eq_true rfl⟩) ⟨mw_blind st_S.blind, mw_recv B hI hM.1 rfl, mw_pre B hI (hSt.call hI hA)⟩ rfl rfl hl.1 rfl (lv_room (Nat.le_of_ble_eq_true rfl)) dX3_common_186 ⟨Nat.le_of_ble_eq_true rfl, Nat.le_of_ble_eq_true rfl⟩) (fun f H locs hp hI2 => ?_)
                          clear hI
                          have hI := hI2
                          clear hI2
                          have hM := hM.tr hp
                          obtain ⟨Z21, hZ21, hm⟩ : ∃ Z', Z' = upI Zd (21) (Zd (21) - Zd (20)) ∧ MM kA f0 f o li si su di Z' := ⟨_, rfl, MM.st hZ hM hL1 ro1 (by rw [hv1]; omega) (fun h => by rw [c3_gt (by omega)])⟩
                          have v21 : Z21 (21) = Zd (21) - Zd (20) := by rw [hZ21, upI_self]
                          have r21 : ∀ i, i ≠ 21 → Z21 i = Zd i := fun i hi => by rw [hZ21, upI_ne _ _ hi]
                          refine mv_goto (tgt := 93) B dX3_common_189 (by decide) ?_
                          have a20 := r21 20 (by decide)
                          have a21 := v21
                          exact ih Z21 f H locs ls (by omega) (by omega) (by omega) (by omega) (by rw [a20, a21, g_sub2]; exact sg) (fun r h1 h2 => by rw [r21 r (by omega)]; exact hr r h1 h2) hm hI (lv_sub hl [0, 1, 2, 3] rfl)
                        · refine mv_aload_n B dX3_common_152 rfl (lv_at hl 1 rfl) ?_
                          refine mv_bipush B dX3_common_153 (by decide) ?_
                          refine mv_bipush B dX3_common_155 (by decide) ?_
                          refine mv_bipush B dX3_common_157 (by decide) ?_
                          obtain ⟨L, S, G, U, hM, hL, hZ⟩ := id hm
                          have k0 := hZ 20 (by decide)
                          have k1 := hZ 21 (by decide)
                          unfold hz at k0 k1
                          have hle : mg L 21 ≤ mg L 20 := by rw [k0.1, k1.1]; omega
                          refine mw_callv hI hA (va_runV (As := [.int (iI (20)), .int (iI (20)), .int (iI (21))]) (rest := []) B.fix (t_X3_takeSizes l D kA H.size f (t := 20) (a := 20) (b := 21) hM.self hL (by omega) (by omega) (by omega) (by omega) (by omega) (by omega) hle) (cwV 3 B.2.2.2.2.1 (gV kw_418 kw_420 ks_23 kw_4 kw_421) rfl rfl rfl (by decide +kernel) ⟨Nat.le_of_ble_eq_true rfl, Nat.le_of_ble_eq_true rfl⟩) ⟨mw_blind st_S.blind, mw_recv B hI hM.1 rfl, mw_pre B hI (hSt.call hI hA)⟩ rfl rfl hl.1 rfl (lv_room (Nat.le_of_ble_eq_true rfl)) dX3_common_159 ⟨Nat.le_of_ble_eq_true rfl, Nat.le_of_ble_eq_true rfl⟩) (fun f H locs hp hI2 => ?_)
                          clear hI
                          have hI := hI2
                          clear hI2
                          obtain ⟨L1, hM1, hL1, ro1, hv1⟩ := hp
                          have hM := hM.tr hM1
                          rw [k0.1, k1.1] at hv1
                          refine mv_aload_n B dX3_common_162 rfl (lv_at hl 1 rfl) ?_
                          refine mv_bipush B dX3_common_163 (by decide) ?_
                          refine mv_iconst B dX3_common_165 ?_
                          refine mw_callv hI hA (va_runV (As := [.int (iI (20)), .int (iI (1))]) (rest := []) B.fix (t_X3_settle l D kA H.size f (r := 20) hM.self hL1 (by omega) (by omega)) (cwV 2 B.2.2.2.2.1 (gV kw_367 kw_369 ks_17 kw_4 kw_370) rfl rfl rfl (by decide +kernel) ⟨Nat.le_of_ble_eq_true rfl, Nat.le_of_ble_eq_true rfl⟩) ⟨mw_blind st_S.blind, mw_recv B hI hM.1 rfl, mw_pre B hI (hSt.call hI hA)⟩ rfl rfl hl.1 rfl (lv_room (Nat.le_of_ble_eq_true rfl)) dX3_common_166 ⟨Nat.le_of_ble_eq_true rfl, Nat.le_of_ble_eq_true rfl⟩) (fun f H locs hp hI2 => ?_)
                          clear hI
                          have hI := hI2
                          clear hI2
                          have hM := hM.tr hp
                          obtain ⟨Z21, hZ21, hm⟩ : ∃ Z', Z' = upI Zd (20) (Zd (20) - Zd (21)) ∧ MM kA f0 f o li si su di Z' := ⟨_, rfl, MM.st hZ hM hL1 ro1 (by rw [hv1]; omega) (fun h => by rw [c3_gt (by omega)])⟩
                          have v21 : Z21 (20) = Zd (20) - Zd (21) := by rw [hZ21, upI_self]
                          have r21 : ∀ i, i ≠ 20 → Z21 i = Zd i := fun i hi => by rw [hZ21, upI_ne _ _ hi]
                          refine mv_goto (tgt := 93) B dX3_common_169 (by decide) ?_
                          have a20 := v21
                          have a21 := r21 21 (by decide)
                          exact ih Z21 f H locs ls (by omega) (by omega) (by omega) (by omega) (by rw [a20, a21, g_sub]; exact sg) (fun r h1 h2 => by rw [r21 r (by omega)]; exact hr r h1 h2) hm hI (lv_sub hl [0, 1, 2, 3] rfl)
                      · refine mv_aload_n B dX3_common_132 rfl (lv_at hl 1 rfl) ?_
                        refine mv_bipush B dX3_common_133 (by decide) ?_
                        obtain ⟨L, S, G, U, hM, hL, hZ⟩ := id hm
                        refine mw_callv hI hA (va_runV (As := [.int (iI (21))]) (rest := []) B.fix (t_X3_half l D kA H.size f (t := 21) hM.self hL (by omega) (by omega)) (cwV 1 B.2.2.2.2.1 (gV kw_485 kw_487 ks_32 kw_4 kw_488) rfl rfl rfl (by decide +kernel) ⟨Nat.le_of_ble_eq_true rfl, Nat.le_of_ble_eq_true rfl⟩) ⟨mw_blind st_S.blind, mw_recv B hI hM.1 rfl, mw_pre B hI (hSt.call hI hA)⟩ rfl rfl hl.1 rfl (lv_room (Nat.le_of_ble_eq_true rfl)) dX3_common_135 ⟨Nat.le_of_ble_eq_true rfl, Nat.le_of_ble_eq_true rfl⟩) (fun f H locs hp hI2 => ?_)
                        clear hI
                        have hI := hI2
                        clear hI2
                        obtain ⟨L1, hM1, hL1, ro1, hv1⟩ := hp
                        have k0 := hZ 21 (by decide)
                        unfold hz at k0
                        rw [k0.1] at hv1 hM1
                        rw [k0.2] at hM1
                        obtain ⟨Z21, hZ21, hm⟩ : ∃ Z', Z' = upI Zd (21) (Zd (21) / 2) ∧ MM kA f0 f o li si su di Z' := ⟨_, rfl, MM.u hZ (hM.tr hM1) hL1 ro1 (by rw [hv1]; omega) (half_c3 (by omega))⟩
                        have v21 : Z21 (21) = Zd (21) / 2 := by rw [hZ21, upI_self]
                        have r21 : ∀ i, i ≠ 21 → Z21 i = Zd i := fun i hi => by rw [hZ21, upI_ne _ _ hi]
                        refine mv_goto (tgt := 93) B dX3_common_138 (by decide) ?_
                        have a20 := r21 20 (by decide)
                        have a21 := v21
                        exact ih Z21 f H locs ls (by omega) (by omega) (by omega) (by omega) (by rw [a20, a21, g_half2 (by omega) (by omega)]; exact sg) (fun r h1 h2 => by rw [r21 r (by omega)]; exact hr r h1 h2) hm hI (lv_sub hl [0, 1, 2, 3] rfl)
                    · refine mv_aload_n B dX3_common_113 rfl (lv_at hl 1 rfl) ?_
                      refine mv_bipush B dX3_common_114 (by decide) ?_
                      obtain ⟨L, S, G, U, hM, hL, hZ⟩ := id hm
                      refine mw_callv hI hA (va_runV (As := [.int (iI (20))]) (rest := []) B.fix (t_X3_half l D kA H.size f (t := 20) hM.self hL (by omega) (by omega)) (cwV 1 B.2.2.2.2.1 (gV kw_485 kw_487 ks_32 kw_4 kw_488) rfl rfl rfl (by decide +kernel) ⟨Nat.le_of_ble_eq_true rfl, Nat.le_of_ble_eq_true rfl⟩) ⟨mw_blind st_S.blind, mw_recv B hI hM.1 rfl, mw_pre B hI (hSt.call hI hA)⟩ rfl rfl hl.1 rfl (lv_room (Nat.le_of_ble_eq_true rfl)) dX3_common_116 ⟨Nat.le_of_ble_eq_true rfl, Nat.le_of_ble_eq_true rfl⟩) (fun f H locs hp hI2 => ?_)
                      clear hI
                      have hI := hI2
                      clear hI2
                      obtain ⟨L1, hM1, hL1, ro1, hv1⟩ := hp
                      have k0 := hZ 20 (by decide)
                      unfold hz at k0
                      rw [k0.1] at hv1 hM1
                      rw [k0.2] at hM1
                      obtain ⟨Z21, hZ21, hm⟩ : ∃ Z', Z' = upI Zd (20) (Zd (20) / 2) ∧ MM kA f0 f o li si su di Z' := ⟨_, rfl, MM.u hZ (hM.tr hM1) hL1 ro1 (by rw [hv1]; omega) (half_c3 (by omega))⟩
                      have v21 : Z21 (20) = Zd (20) / 2 := by rw [hZ21, upI_self]
                      have r21 : ∀ i, i ≠ 20 → Z21 i = Zd i := fun i hi => by rw [hZ21, upI_ne _ _ hi]
                      refine mv_goto (tgt := 93) B dX3_common_119 (by decide) ?_
                      have a20 := v21
                      have a21 := r21 21 (by decide)
                      exact ih Z21 f H locs ls (by omega) (by omega) (by omega) (by omega) (by rw [a20, a21, g_half (by omega) (by omega)]; exact sg) (fun r h1 h2 => by rw [r21 r (by omega)]; exact hr r h1 h2) hm hI (lv_sub hl [0, 1, 2, 3] rfl)
              exact loop2 ((Zc 20 + Zc 21).toNat + 1) Zc f H locs ls (by omega) p0 (by omega) hod gc hr hm hI (lv_sub hl [0, 1, 2, 3] rfl)
            · refine mv_aload_n B dX3_common_75 rfl (lv_at hl 1 rfl) ?_
              refine mv_bipush B dX3_common_76 (by decide) ?_
              obtain ⟨L, S, G, U, hM, hL, hZ⟩ := id hm
              refine mw_callv hI hA (va_runV (As := [.int (iI (20))]) (rest := []) B.fix (t_X3_half l D kA H.size f (t := 20) hM.self hL (by omega) (by omega)) (cwV 1 B.2.2.2.2.1 (gV kw_485 kw_487 ks_32 kw_4 kw_488) rfl rfl rfl (by decide +kernel) ⟨Nat.le_of_ble_eq_true rfl, Nat.le_of_ble_eq_true rfl⟩) ⟨mw_blind st_S.blind, mw_recv B hI hM.1 rfl, mw_pre B hI (hSt.call hI hA)⟩ rfl rfl hl.1 rfl (lv_room (Nat.le_of_ble_eq_true rfl)) dX3_common_78 ⟨Nat.le_of_ble_eq_true rfl, Nat.le_of_ble_eq_true rfl⟩) (fun f H locs hp hI2 => ?_)
              clear hI
              have hI := hI2
              clear hI2
              obtain ⟨L1, hM1, hL1, ro1, hv1⟩ := hp
              have k0 := hZ 20 (by decide)
              unfold hz at k0
              rw [k0.1] at hv1 hM1
              rw [k0.2] at hM1
              obtain ⟨Z11, hZ11, hm⟩ : ∃ Z', Z' = upI Zc (20) (Zc (20) / 2) ∧ MM kA f0 f o li si su di Z' := ⟨_, rfl, MM.u hZ (hM.tr hM1) hL1 ro1 (by rw [hv1]; omega) (half_c3 (by omega))⟩
              have v11 : Z11 (20) = Zc (20) / 2 := by rw [hZ11, upI_self]
              have r11 : ∀ i, i ≠ 20 → Z11 i = Zc i := fun i hi => by rw [hZ11, upI_ne _ _ hi]
              have n21 := r11 21 (by decide)
              refine mv_aload_n B dX3_common_81 rfl (lv_at hl 1 rfl) ?_
              refine mv_bipush B dX3_common_82 (by decide) ?_
              obtain ⟨L, S, G, U, hM, hL, hZ⟩ := id hm
              refine mw_callv hI hA (va_runV (As := [.int (iI (21))]) (rest := []) B.fix (t_X3_half l D kA H.size f (t := 21) hM.self hL (by omega) (by omega)) (cwV 1 B.2.2.2.2.1 (gV kw_485 kw_487 ks_32 kw_4 kw_488) rfl rfl rfl (by decide +kernel) ⟨Nat.le_of_ble_eq_true rfl, Nat.le_of_ble_eq_true rfl⟩) ⟨mw_blind st_S.blind, mw_recv B hI hM.1 rfl, mw_pre B hI (hSt.call hI hA)⟩ rfl rfl hl.1 rfl (lv_room (Nat.le_of_ble_eq_true rfl)) dX3_common_84 ⟨Nat.le_of_ble_eq_true rfl, Nat.le_of_ble_eq_true rfl⟩) (fun f H locs hp hI2 => ?_)
              clear hI
              have hI := hI2
              clear hI2
              obtain ⟨L1, hM1, hL1, ro1, hv1⟩ := hp
              have k0 := hZ 21 (by decide)
              unfold hz at k0
              rw [k0.1] at hv1 hM1
              rw [k0.2] at hM1
              obtain ⟨Z12, hZ12, hm⟩ : ∃ Z', Z' = upI Z11 (21) (Z11 (21) / 2) ∧ MM kA f0 f o li si su di Z' := ⟨_, rfl, MM.u hZ (hM.tr hM1) hL1 ro1 (by rw [hv1]; omega) (half_c3 (by omega))⟩
              have v12 : Z12 (21) = Z11 (21) / 2 := by rw [hZ12, upI_self]
              have r12 : ∀ i, i ≠ 21 → Z12 i = Z11 i := fun i hi => by rw [hZ12, upI_ne _ _ hi]
              refine mv_iinc (k := 0) (lv' := [(3, .int (iI (tw + 1))), (0, .ref o), (1, .int (iI ((a : Int)))), (2, .int (iI ((b : Int))))]) B dX3_common_87 hl rfl (by decide) rfl (fun ls hl => ?_)
              refine mv_goto (tgt := 55) B dX3_common_90 (by decide) ?_
              have a1 : Z12 20 = Zc 20 / 2 := by rw [r12 20 (by decide), v11]
              have a2 : Z12 21 = Zc 21 / 2 := by rw [v12, r11 21 (by decide)]
              exact ih (j + 1) _ Z12 f H locs ls (by rw [a1]; omega) (by omega) (by rw [a1]; omega) (by rw [a2]; omega) (by rw [a1, ← q0]; exact hf_pow (by omega)) (by rw [a2, ← q1]; exact hf_pow (by omega)) (fun r h1 h2 => by rw [r12 r h2, r11 r h1]; exact hr r h1 h2) hm hI (lv_sub hl [0, 1, 2, 3] rfl)
      exact loop1 ((Z2 20).toNat + 1) 0 _ Z2 f H locs ls (by omega) rfl p20 p21 (by rw [Int.pow_zero, Int.mul_one]) (by rw [Int.pow_zero, Int.mul_one]) er hm hI (lv_sub hl [0, 1, 2, 3] rfl)
    · refine mv_aload_n B dX3_common_34 rfl (lv_at hl 0 rfl) ?_
      refine mw_get (C := RX3) (T := TX3) (N := 4) B hI hM.1 uin_X3 rfl 1 (by decide) kw_382 rfl dX3_common_35 ?_
      refine mv_bipush B dX3_common_38 (by decide) ?_
      refine mw_iald B hI 0 hM.2.2.1 rfl (20) (by omega) (by omega) (by decide) dX3_common_40 ?_
      rw [(hZ (20) (by omega)).2]
      have sg_ := c3_sg (Z2 (20))
      refine mv_if_ne (tgt := 52) B dX3_common_41 (by decide) (by omega) (fun hd2 => ?_) (fun hd2 => ?_)
      · have hz2 : Z2 21 = 0 := by omega
        have g2 : Z2 20 = (Int.gcd (Z a) (Z b) : Int) := by
          rw [← gg, hz2, Int.gcd_zero_right]
          omega
        exact mw_vret B hQ hrt hI ⟨_, hm, g2, er⟩ dX3_common_52
      · have hz2 : Z2 20 = 0 := by omega
        refine mv_aload_n B dX3_common_44 rfl (lv_at hl 0 rfl) ?_
        refine mv_bipush B dX3_common_45 (by decide) ?_
        refine mv_bipush B dX3_common_47 (by decide) ?_
        obtain ⟨L, S, G, U, hM, hL, hZ⟩ := id hm
        refine mw_callv hI hA (va_runV (As := [.int (iI (20)), .int (iI (21))]) (rest := []) B.fix (t_X3_move l D kA H.size f (t := 20) (a := 21) hM.self hL (by omega) (by omega) (by omega) (by omega)) (cwV 2 B.2.2.2.2.1 (gV kw_430 kw_432 ks_26 kw_4 kw_433) rfl rfl rfl (by decide +kernel) ⟨Nat.le_of_ble_eq_true rfl, Nat.le_of_ble_eq_true rfl⟩) ⟨mw_blind st_S.blind, mw_recv B hI hM.1 rfl, mw_pre B hI (hSt.call hI hA)⟩ rfl rfl hl.1 rfl (lv_room (Nat.le_of_ble_eq_true rfl)) dX3_common_49 ⟨Nat.le_of_ble_eq_true rfl, Nat.le_of_ble_eq_true rfl⟩) (fun f H locs hp hI2 => ?_)
        clear hI
        have hI := hI2
        clear hI2
        obtain ⟨L1, hM1, hL1, ro1, hv1⟩ := hp
        obtain ⟨Z3, hZ3, hm⟩ : ∃ Z', Z' = upI Z2 (20) (Z2 (21)) ∧ MM kA f0 f o li si su di Z' := ⟨_, rfl, MM.u hZ (hM.tr hM1) hL1 ro1 (hv1.trans (hZ (21) (by omega)).1) (hZ (21) (by omega)).2⟩
        have v3 : Z3 (20) = Z2 (21) := by rw [hZ3, upI_self]
        have r3 : ∀ i, i ≠ 20 → Z3 i = Z2 i := fun i hi => by rw [hZ3, upI_ne _ _ hi]
        have g2 : Z3 20 = (Int.gcd (Z a) (Z b) : Int) := by
          rw [v3, ← gg, hz2, Int.gcd_zero_left]
          omega
        exact mw_vret B hQ hrt hI ⟨_, hm, g2, fun r h1 h2 => by rw [r3 r h1]; exact er r h1 h2⟩ dX3_common_52
abbrev rm_X3_isSlot : Room := { frames := 0, cells := 0, slots := 0, locals := 0 }
set_option maxHeartbeats 4000000 in
set_option maxRecDepth 100000 in
/-- isSlot -/
theorem t_X3_isSlot (l : Launch) (D : va_G) (kA : Nat → ClassId) (sz : Nat) (f0 : mw_M) {x : Int}  (hx : -2147483648 ≤ x ∧ x ≤ 2147483647) : mw_Mi l yX3_isSlot (Cond.code yX3_isSlot cX3_isSlot 1 ((some .boolean)) :: gw) rm_X3_isSlot D vwCl (tyL kA) st_S [.int (iI (x))] f0 sz (fun v f => v = iI (if sOk x then 1 else 0) ∧ f = f0) 0 0 := by
  refine mw_ofi (cc := cX3_isSlot) (maxL := 1) (ret := (some .boolean)) (by decide) rfl (Nat.le_of_ble_eq_true rfl) ?_
  intro p e s m below meth c A ls Q hQ B hrt hnm hA hI hSt hl
  have hl : lv_has ls 1 [(0, .int (iI (x)))] := hl
  obtain ⟨f, hI, hf⟩ : ∃ f, mw_I D vwCl A s s.heap [] f ∧ f = f0 := ⟨f0, hI, rfl⟩
  refine mv_iload_n B dX3_isSlot_0 rfl (lv_at hl 0 rfl) ?_
  refine mv_if_lt (tgt := 14) B dX3_isSlot_1 (by decide) (by omega) (fun hc => ?_) (fun hc => ?_)
  · refine mv_iconst B dX3_isSlot_14 ?_
    exact mw_zret B hQ hrt (by decide) hI ⟨by rw [if_neg (by omega)], hf⟩ dX3_isSlot_15
  · refine mv_iload_n B dX3_isSlot_4 rfl (lv_at hl 0 rfl) ?_
    refine mv_bipush B dX3_isSlot_5 (by decide) ?_
    refine mv_icmp_ge (tgt := 14) B dX3_isSlot_7 (by decide) (by omega) (fun hc2 => ?_) (fun hc2 => ?_)
    · refine mv_iconst B dX3_isSlot_14 ?_
      exact mw_zret B hQ hrt (by decide) hI ⟨by rw [if_neg (by omega)], hf⟩ dX3_isSlot_15
    · refine mv_iconst B dX3_isSlot_10 ?_
      refine mv_goto (tgt := 15) B dX3_isSlot_11 (by decide) ?_
      exact mw_zret B hQ hrt (by decide) hI ⟨by rw [if_pos (by omega)], hf⟩ dX3_isSlot_15
abbrev rm_X3_are : Room := { frames := 1, cells := 0, slots := 0, locals := 20 }
set_option maxHeartbeats 4000000 in
set_option maxRecDepth 100000 in
/-- are -/
theorem t_X3_are (l : Launch) (D : va_G) (kA : Nat → ClassId) (sz : Nat) (f0 : mw_M) {x y z : Int}  (hx : -2147483648 ≤ x ∧ x ≤ 2147483647) (hy : -2147483648 ≤ y ∧ y ≤ 2147483647) (hz : -2147483648 ≤ z ∧ z ≤ 2147483647) : mw_Mi l yX3_are (Cond.code yX3_are cX3_are 3 ((some .boolean)) :: gw) rm_X3_are D vwCl (tyL kA) st_S [.int (iI (x)), .int (iI (y)), .int (iI (z))] f0 sz (fun v f => v = iI (if sOk x ∧ sOk y ∧ sOk z then 1 else 0) ∧ f = f0) 0 0 := by
  refine mw_ofi (cc := cX3_are) (maxL := 3) (ret := (some .boolean)) (by decide) rfl (Nat.le_of_ble_eq_true rfl) ?_
  intro p e s m below meth c A ls Q hQ B hrt hnm hA hI hSt hl
  have hl : lv_has ls 3 [(0, .int (iI (x))), (1, .int (iI (y))), (2, .int (iI (z)))] := hl
  obtain ⟨f, hI, hf⟩ : ∃ f, mw_I D vwCl A s s.heap [] f ∧ f = f0 := ⟨f0, hI, rfl⟩
  refine mv_iload_n B dX3_are_0 rfl (lv_at hl 0 rfl) ?_
  refine mw_calli hI hA (va_runS (As := [.int (iI (x))]) (rest := []) B.fix (t_X3_isSlot l D kA s.heap.size f hx) (cwS 1 B.2.2.2.2.1 (gS kw_399 kw_400 kw_4 kw_401) rfl rfl rfl (by decide +kernel) ⟨Nat.le_of_ble_eq_true rfl, Nat.le_of_ble_eq_true rfl⟩) ⟨mw_blind st_S.blind, mw_pre B hI (hSt.call hI hA)⟩ rfl rfl hl.1 rfl (lv_room (Nat.le_of_ble_eq_true rfl)) dX3_are_1 ⟨Nat.le_of_ble_eq_true rfl, Nat.le_of_ble_eq_true rfl⟩) (fun r f H locs hp hI2 => ?_)
  clear hI
  have hI := hI2
  clear hI2
  obtain ⟨rfl, rfl⟩ := hp
  refine mv_if_eq (tgt := 25) B dX3_are_4 (by decide) (by split <;> omega) (fun hcx => ?_) (fun hcx => ?_)
  · have hx : ¬ (sOk x) := fun q => by rw [if_pos q] at hcx; exact absurd hcx (by decide)
    refine mv_iconst B dX3_are_25 ?_
    exact mw_zret B hQ hrt (by decide) hI ⟨by rw [if_neg (fun q => hx q.1)], hf⟩ dX3_are_26
  · have h1 : sOk x := by
      by_cases q : sOk x
      · exact q
      · rw [if_neg q] at hcx; exact absurd rfl hcx
    refine mv_iload_n B dX3_are_7 rfl (lv_at hl 1 rfl) ?_
    refine mw_calli hI hA (va_runS (As := [.int (iI (y))]) (rest := []) B.fix (t_X3_isSlot l D kA H.size f hy) (cwS 1 B.2.2.2.2.1 (gS kw_399 kw_400 kw_4 kw_401) rfl rfl rfl (by decide +kernel) ⟨Nat.le_of_ble_eq_true rfl, Nat.le_of_ble_eq_true rfl⟩) ⟨mw_blind st_S.blind, mw_pre B hI (hSt.call hI hA)⟩ rfl rfl hl.1 rfl (lv_room (Nat.le_of_ble_eq_true rfl)) dX3_are_8 ⟨Nat.le_of_ble_eq_true rfl, Nat.le_of_ble_eq_true rfl⟩) (fun r f H locs hp hI2 => ?_)
    clear hI
    have hI := hI2
    clear hI2
    obtain ⟨rfl, rfl⟩ := hp
    refine mv_if_eq (tgt := 25) B dX3_are_11 (by decide) (by split <;> omega) (fun hcy => ?_) (fun hcy => ?_)
    · have hy : ¬ (sOk y) := fun q => by rw [if_pos q] at hcy; exact absurd hcy (by decide)
      refine mv_iconst B dX3_are_25 ?_
      exact mw_zret B hQ hrt (by decide) hI ⟨by rw [if_neg (fun q => hy q.2.1)], hf⟩ dX3_are_26
    · have h2 : sOk y := by
        by_cases q : sOk y
        · exact q
        · rw [if_neg q] at hcy; exact absurd rfl hcy
      refine mv_iload_n B dX3_are_14 rfl (lv_at hl 2 rfl) ?_
      refine mw_calli hI hA (va_runS (As := [.int (iI (z))]) (rest := []) B.fix (t_X3_isSlot l D kA H.size f hz) (cwS 1 B.2.2.2.2.1 (gS kw_399 kw_400 kw_4 kw_401) rfl rfl rfl (by decide +kernel) ⟨Nat.le_of_ble_eq_true rfl, Nat.le_of_ble_eq_true rfl⟩) ⟨mw_blind st_S.blind, mw_pre B hI (hSt.call hI hA)⟩ rfl rfl hl.1 rfl (lv_room (Nat.le_of_ble_eq_true rfl)) dX3_are_15 ⟨Nat.le_of_ble_eq_true rfl, Nat.le_of_ble_eq_true rfl⟩) (fun r f H locs hp hI2 => ?_)
      clear hI
      have hI := hI2
      clear hI2
      obtain ⟨rfl, rfl⟩ := hp
      refine mv_if_eq (tgt := 25) B dX3_are_18 (by decide) (by split <;> omega) (fun hcz => ?_) (fun hcz => ?_)
      · have hz : ¬ (sOk z) := fun q => by rw [if_pos q] at hcz; exact absurd hcz (by decide)
        refine mv_iconst B dX3_are_25 ?_
        exact mw_zret B hQ hrt (by decide) hI ⟨by rw [if_neg (fun q => hz q.2.2)], hf⟩ dX3_are_26
      · have h3 : sOk z := by
          by_cases q : sOk z
          · exact q
          · rw [if_neg q] at hcz; exact absurd rfl hcz
        refine mv_iconst B dX3_are_21 ?_
        refine mv_goto (tgt := 26) B dX3_are_22 (by decide) ?_
        exact mw_zret B hQ hrt (by decide) hI ⟨by rw [if_pos ⟨h1, h2, h3⟩], hf⟩ dX3_are_26
abbrev rm_X3_isLong : Room := { frames := 2, cells := 0, slots := 0, locals := 45 }
set_option maxHeartbeats 4000000 in
set_option maxRecDepth 100000 in
/-- isLong -/
theorem t_X3_isLong (l : Launch) (D : va_G) (kA : Nat → ClassId) (sz : Nat) (f0 : mw_M) {o li si su di : Nat} {Z : Nat → Int} {r : Nat} {xr : Int} (hm : MM kA f0 f0 o li si su di Z) (hxr : xr = (r : Int)) (h24 : Z 24 = 1000000 ^ 50) (hr : r < 25) : mw_Mi l yX3_isLong (Cond.code yX3_isLong cX3_isLong 2 ((some .boolean)) :: gw) rm_X3_isLong D vwCl (tyL kA) st_S [.ref o, .int (iI (xr))] f0 sz (fun v f => v = iI (if ((Z r).natAbs : Int) < 1000000 ^ 50 then 0 else 1) ∧ f = f0) 0 0 := by
  refine mw_ofi (cc := cX3_isLong) (maxL := 2) (ret := (some .boolean)) (by decide) rfl (Nat.le_of_ble_eq_true rfl) ?_
  intro p e s m below meth c A ls Q hQ B hrt hnm hA hI hSt hl
  have hl : lv_has ls 2 [(0, .ref o), (1, .int (iI (xr)))] := hl
  subst hxr
  obtain ⟨f, hI, hm, hf⟩ : ∃ f, mw_I D vwCl A s s.heap [] f ∧ MM kA f0 f o li si su di Z ∧ f = f0 := ⟨f0, hI, hm, rfl⟩
  refine mv_aload_n B dX3_isLong_0 rfl (lv_at hl 0 rfl) ?_
  refine mv_iload_n B dX3_isLong_1 rfl (lv_at hl 1 rfl) ?_
  refine mv_bipush B dX3_isLong_2 (by decide) ?_
  obtain ⟨L, S, G, U, hM, hL, hZ⟩ := id hm
  refine mw_calli hI hA (va_runV (As := [.int (iI ((r : Int))), .int (iI (24))]) (rest := []) B.fix (t_X3_sizes l D kA s.heap.size f (a := r) (b := 24) hM.self hL (by omega) (by omega) (by omega) (by omega)) (cwV 2 B.2.2.2.2.1 (gV kw_414 kw_416 ks_22 kw_4 kw_417) rfl rfl rfl (by decide +kernel) ⟨Nat.le_of_ble_eq_true rfl, Nat.le_of_ble_eq_true rfl⟩) ⟨mw_blind st_S.blind, mw_recv B hI hM.1 rfl, mw_pre B hI (hSt.call hI hA)⟩ rfl rfl hl.1 rfl (lv_room (Nat.le_of_ble_eq_true rfl)) dX3_isLong_4 ⟨Nat.le_of_ble_eq_true rfl, Nat.le_of_ble_eq_true rfl⟩) (fun r f H locs hp hI2 => ?_)
  clear hI
  have hI := hI2
  clear hI2
  obtain ⟨rfl, rfl⟩ := hp
  rw [(hZ (r) (by omega)).1, (hZ (24) (by omega)).1]
  have cc_ := c3_in ((Z (r)).natAbs : Int) ((Z (24)).natAbs : Int)
  rw [h24] at cc_
  rw [h24]
  have e24 : (((1000000 : Int) ^ 50).natAbs : Int) = 1000000 ^ 50 := by decide
  rw [e24] at cc_
  rw [e24]
  refine mv_if_lt (tgt := 14) B dX3_isLong_7 (by decide) (by omega) (fun hd0 => ?_) (fun hd0 => ?_)
  · refine mv_iconst B dX3_isLong_14 ?_
    exact mw_zret B hQ hrt (by decide) hI ⟨by rw [if_pos (cc_.2.2.1.mp hd0)], hf⟩ dX3_isLong_15
  · refine mv_iconst B dX3_isLong_10 ?_
    refine mv_goto (tgt := 15) B dX3_isLong_11 (by decide) ?_
    exact mw_zret B hQ hrt (by decide) hI ⟨by rw [if_neg (fun q => hd0 (cc_.2.2.1.mpr q))], hf⟩ dX3_isLong_15
abbrev rm_X3_keep : Room := { frames := 3, cells := 0, slots := 0, locals := 66 }
set_option maxHeartbeats 4000000 in
set_option maxRecDepth 100000 in
/-- keep -/
theorem t_X3_keep (l : Launch) (D : va_G) (kA : Nat → ClassId) (sz : Nat) (f0 : mw_M) {o li si su di : Nat} {Z : Nat → Int} {x : Int} {r : Nat} {xr : Int} (hm : MM kA f0 f0 o li si su di Z) (hxr : xr = (r : Int)) (h24 : Z 24 = 1000000 ^ 50) (hx : sOk x) (hr : r < 25) : mw_Mi l yX3_keep (Cond.code yX3_keep cX3_keep 3 ((some .int)) :: gw) rm_X3_keep D vwCl (tyL kA) st_S [.ref o, .int (iI (x)), .int (iI (xr))] f0 sz (fun v f => v = iI (kp Z x (Z r)).1 ∧ MM kA f0 f o li si su di (kp Z x (Z r)).2) 0 0 := by
  refine mw_ofi (cc := cX3_keep) (maxL := 3) (ret := (some .int)) (by decide) rfl (Nat.le_of_ble_eq_true rfl) ?_
  intro p e s m below meth c A ls Q hQ B hrt hnm hA hI hSt hl
  have hl : lv_has ls 3 [(0, .ref o), (1, .int (iI (x))), (2, .int (iI (xr)))] := hl
  subst hxr
  obtain ⟨f, hI, hm, hf⟩ : ∃ f, mw_I D vwCl A s s.heap [] f ∧ MM kA f0 f o li si su di Z ∧ f = f0 := ⟨f0, hI, hm, rfl⟩
  refine mv_aload_n B dX3_keep_0 rfl (lv_at hl 0 rfl) ?_
  refine mv_iload_n B dX3_keep_1 rfl (lv_at hl 2 rfl) ?_
  refine mw_calli hI hA (va_runV (As := [.int (iI ((r : Int)))]) (rest := []) B.fix (t_X3_isLong l D kA s.heap.size f (r := r) hm.self (by omega) h24 (by omega)) (cwV 1 B.2.2.2.2.1 (gV kw_426 kw_428 ks_25 kw_4 kw_429) rfl rfl rfl (by decide +kernel) ⟨Nat.le_of_ble_eq_true rfl, Nat.le_of_ble_eq_true rfl⟩) ⟨mw_blind st_S.blind, mw_recv B hI (by obtain ⟨_, _, _, _, q, _⟩ := hm; exact q.1) rfl, mw_pre B hI (hSt.call hI hA)⟩ rfl rfl hl.1 rfl (lv_room (Nat.le_of_ble_eq_true rfl)) dX3_keep_2 ⟨Nat.le_of_ble_eq_true rfl, Nat.le_of_ble_eq_true rfl⟩) (fun r f H locs hp hI2 => ?_)
  clear hI
  have hI := hI2
  clear hI2
  obtain ⟨rfl, rfl⟩ := hp
  refine mv_if_eq (tgt := 10) B dX3_keep_5 (by decide) (by split <;> omega) (fun hd0 => ?_) (fun hd0 => ?_)
  · have hfit : ((Z r).natAbs : Int) < 1000000 ^ 50 := by
      by_cases q : ((Z r).natAbs : Int) < 1000000 ^ 50
      · exact q
      · rw [if_neg q] at hd0; exact absurd hd0 (by decide)
    refine mv_aload_n B dX3_keep_10 rfl (lv_at hl 0 rfl) ?_
    refine mv_iload_n B dX3_keep_11 rfl (lv_at hl 1 rfl) ?_
    refine mv_iload_n B dX3_keep_12 rfl (lv_at hl 2 rfl) ?_
    obtain ⟨L, S, G, U, hM, hL, hZ⟩ := id hm
    refine mw_callv hI hA (va_runV (As := [.int (iI (x)), .int (iI ((r : Int)))]) (rest := []) B.fix (t_X3_move l D kA H.size f (t := x.toNat) (a := r) hM.self hL (by omega) (by omega) (by omega) (by omega)) (cwV 2 B.2.2.2.2.1 (gV kw_430 kw_432 ks_26 kw_4 kw_433) rfl rfl rfl (by decide +kernel) ⟨Nat.le_of_ble_eq_true rfl, Nat.le_of_ble_eq_true rfl⟩) ⟨mw_blind st_S.blind, mw_recv B hI hM.1 rfl, mw_pre B hI (hSt.call hI hA)⟩ rfl rfl hl.1 rfl (lv_room (Nat.le_of_ble_eq_true rfl)) dX3_keep_13 ⟨Nat.le_of_ble_eq_true rfl, Nat.le_of_ble_eq_true rfl⟩) (fun f H locs hp hI2 => ?_)
    clear hI
    have hI := hI2
    clear hI2
    obtain ⟨L1, hM1, hL1, ro1, hv1⟩ := hp
    obtain ⟨Z1, hZ1, hm⟩ : ∃ Z', Z' = upI Z (x.toNat) (Z (r)) ∧ MM kA f0 f o li si su di Z' := ⟨_, rfl, MM.u hZ (hM.tr hM1) hL1 ro1 (hv1.trans (hZ (r) (by omega)).1) (hZ (r) (by omega)).2⟩
    have v1 : Z1 (x.toNat) = Z (r) := by rw [hZ1, upI_self]
    have r1 : ∀ i, i ≠ x.toNat → Z1 i = Z i := fun i hi => by rw [hZ1, upI_ne _ _ hi]
    refine mv_iconst B dX3_keep_16 ?_
    rw [hZ1] at hm
    exact mw_iret B hQ hrt hI ⟨by rw [kp_y hfit], by rw [kp_y hfit]; exact hm⟩ dX3_keep_17
  · have hfit : ¬ ((Z r).natAbs : Int) < 1000000 ^ 50 := fun q => by rw [if_pos q] at hd0; exact hd0 rfl
    refine mv_iconst B dX3_keep_8 ?_
    exact mw_iret B hQ hrt hI ⟨by rw [kp_n hfit], by rw [kp_n hfit]; exact hm⟩ dX3_keep_9
