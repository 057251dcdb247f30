abbrev rm_X1_divideBy : Room := { frames := 2, cells := 0, slots := 0, locals := 59 }
set_option maxHeartbeats 4000000 in
set_option maxRecDepth 100000 in
/-- divideBy -/
theorem t_X1_divideBy (l : Launch) (D : va_G) (kA : Nat → ClassId) (sz : Nat) (f0 : mw_M) {h r x rx t rt : Nat} {za zb : Int} (hh : Rp (kA 0) f0 h r za) (hx : Rp (kA 0) f0 x rx zb) (hw : Rw (kA 0) f0 t rt) (x1 : x ≠ h) (x2 : rx ≠ r) (t1 : t ≠ h) (t2 : rt ≠ r) (u1 : t ≠ x) (u2 : rt ≠ rx) (hzb : zb ≠ 0) (ka : (za.natAbs : Int) < 1000000 ^ 103) : mw_Mv l yX1_divideBy (Cond.code yX1_divideBy cX1_divideBy 7 (none) :: gw) rm_X1_divideBy D vwCl (tyL kA) st_S [.ref h, .ref x, .ref t] f0 sz (fun f => Rp (kA 0) f h r (za.tmod zb) ∧ Rp (kA 0) f t rt (za.tdiv zb) ∧ fo2 f0 f h r t rt) 0 0 := by
  refine mw_ofv (cc := cX1_divideBy) (maxL := 7) (ret := none) (by decide) rfl (Nat.le_of_ble_eq_true rfl) ?_
  intro p e s m below meth c A ls Q hQ B hrt hnm hA hI hSt hl
  have hl : lv_has ls 7 [(0, .ref h), (1, .ref x), (2, .ref t)] := hl
  obtain ⟨g, na, b, hh, hr, hz⟩ := hh
  obtain ⟨gx, nx, bx, hx, hxr, hzx⟩ := hx
  obtain ⟨gt, nt, bt, ht, htr⟩ := hw
  have m1 := (hz.size 103).mpr ka
  have m2 := hzx.1
  have q1 := hz.b0
  have q2 := hzx.b0
  have q3 := hz.nat
  have q4 := hzx.nat
  have nx1 : 1 ≤ nx := by have := hzx.zero; omega
  have x3 := wh_ne hx hr
  have x4 := Ne.symm (wh_ne hh hxr)
  have x5 := wh_ne hx htr
  have x6 := Ne.symm (wh_ne ht hxr)
  have i1 := ld2_in hzx.toCn
  have hV : 0 < dv gx nx := by have := hzx.pos (by omega); have := bp_pos (nx - 1); omega
  have hA0 := dv_nn hz.2.1
  have hA1 := dv_lt hz.2.1
  obtain ⟨f, hI, hT⟩ : ∃ f, mw_I D vwCl A s s.heap [] f ∧ d2 (kA 0) f0 h r t rt f g (na : Int) b gt nt bt := ⟨f0, hI, d2.self hh hr ht htr⟩
  refine mv_aload_n B dX1_divideBy_0 rfl (lv_at hl 0 rfl) ?_
  refine ww_size B hI hT.1 uin_X1 kw_24 dX1_divideBy_1 ?_
  refine mv_aload_n B dX1_divideBy_4 rfl (lv_at hl 1 rfl) ?_
  refine ww_size B hI (hT.get hx x1 x3 (Ne.symm u1) x5) uin_X1 kw_24 dX1_divideBy_5 ?_
  refine mv_isub B dX1_divideBy_8 ?_
  refine mv_iconst B dX1_divideBy_9 ?_
  refine mv_iadd B dX1_divideBy_10 ?_
  refine mv_istore_n (lv' := [(3, .int (iI ((((na : Int)) - ((nx : Int))) + (1)))), (0, .ref h), (1, .ref x), (2, .ref t)]) B dX1_divideBy_11 rfl hl (by decide) rfl (fun ls hl => ?_)
  refine mv_aload_n B dX1_divideBy_12 rfl (lv_at hl 2 rfl) ?_
  refine mw_calll hI hA (va_runV (As := []) (rest := []) B.fix (t_X1_leadOfTwo l D kA s.heap.size f (hT.get hx x1 x3 (Ne.symm u1) x5) (hT.get hxr x4 x2 x6 (Ne.symm u2)) hzx.toCn) (cwV 0 B.2.2.2.2.1 (gV kw_198 kw_200 ks_5 kw_2 kw_201) rfl rfl rfl (by decide +kernel) ⟨Nat.le_of_ble_eq_true rfl, Nat.le_of_ble_eq_true rfl⟩) ⟨mw_blind st_S.blind, mw_recv B hI (hT.get hx x1 x3 (Ne.symm u1) x5) rfl, mw_pre B hI (hSt.call hI hA)⟩ rfl rfl hl.1 rfl (lv_room (Nat.le_of_ble_eq_true rfl)) dX1_divideBy_13 ⟨Nat.le_of_ble_eq_true rfl, Nat.le_of_ble_eq_true rfl⟩) (fun r f H locs hp hI2 => ?_)
  clear hI
  have hI := hI2
  clear hI2
  obtain ⟨rfl, rfl⟩ := hp
  refine mv_lstore (lv' := [(4, .long (lI (ld2 gx nx))), (3, .int (iI ((((na : Int)) - ((nx : Int))) + (1)))), (0, .ref h), (1, .ref x), (2, .ref t)]) B dX1_divideBy_16 hl (by decide) rfl (fun ls hl => ?_)
  refine mv_lload B dX1_divideBy_18 (lv_at hl 0 rfl) ?_
  refine mv_lconst0 B dX1_divideBy_20 ?_
  refine mv_lcmp_eq (tgt := 38) B dX1_divideBy_21 dX1_divideBy_22 (by decide) (by omega) (fun hc => ?_) (fun hc => ?_)
  · exact absurd hc (by omega)
  · refine mv_iload_n B dX1_divideBy_25 rfl (lv_at hl 1 rfl) ?_
    refine mv_if_le (tgt := 38) B dX1_divideBy_26 (by decide) (by omega) (fun hc2 => ?_) (fun hc2 => ?_)
    · refine mv_aload_n B dX1_divideBy_38 rfl (lv_at hl 4 rfl) ?_
      refine mv_lconst0 B dX1_divideBy_39 ?_
      refine mw_callv hI hA (va_runV (As := [.long (lI (0))]) (rest := []) B.fix (t_X1_load l D kA H.size f (z := 0) ⟨gt, nt, bt, hT.2.2.1, hT.2.2.2.1⟩ (by decide)) (cwV 1 B.2.2.2.2.1 (gV kw_202 kw_97 kw_98 kw_2 kw_99) rfl rfl rfl (by decide +kernel) ⟨Nat.le_of_ble_eq_true rfl, Nat.le_of_ble_eq_true rfl⟩) ⟨mw_blind st_S.blind, mw_recv B hI hT.2.2.1 rfl, mw_pre B hI (hSt.call hI hA)⟩ rfl rfl hl.1 rfl (lv_room (Nat.le_of_ble_eq_true rfl)) dX1_divideBy_40 ⟨Nat.le_of_ble_eq_true rfl, Nat.le_of_ble_eq_true rfl⟩) (fun f H locs hp hI2 => ?_)
      clear hI
      have hI := hI2
      clear hI2
      obtain ⟨p1, p2⟩ := hp
      have lt1 := hz.toCn.lt hzx.toCn (by omega)
      have sg := td_sgn hz hzx (q := 0) (w := dv g na) (Int.ediv_eq_zero_of_lt hA0 lt1) (Int.emod_eq_of_lt hA0 lt1)
      have ez1 : za.tdiv zb = 0 := by have := sg.1; omega
      have ez2 : za.tmod zb = za := by have := sg.2; omega
      exact mw_vret B hQ hrt hI ⟨by rw [ez2]; exact Rp.keep ⟨g, na, b, hT.1, hT.2.1, hz⟩ p2 ⟨gt, nt, bt, hT.2.2.1, hT.2.2.2.1⟩ (Ne.symm t1) (Ne.symm t2), by rw [ez1]; exact p1, fun q a1 a2 a3 a4 => (p2 q a3 a4).trans (hT.2.2.2.2 q a1 a2 a3 a4)⟩ dX1_divideBy_43
    · refine mv_aload_n B dX1_divideBy_29 rfl (lv_at hl 2 rfl) ?_
      refine ww_size B hI hT.1 uin_X1 kw_24 dX1_divideBy_30 ?_
      refine mv_bipush B dX1_divideBy_33 (by decide) ?_
      refine mv_icmp_lt (tgt := 44) B dX1_divideBy_35 (by decide) (by omega) (fun hc3 => ?_) (fun hc3 => ?_)
      · refine mv_aload_n B dX1_divideBy_44 rfl (lv_at hl 2 rfl) ?_
        refine ww_parts B hI hT.1 uin_X1 kw_22 dX1_divideBy_45 ?_
        refine mv_aload_n B dX1_divideBy_48 rfl (lv_at hl 2 rfl) ?_
        refine ww_size B hI hT.1 uin_X1 kw_24 dX1_divideBy_49 ?_
        refine mv_iconst B dX1_divideBy_52 ?_
        refine ww_iast B hI (wSt.self hT.1 hT.2.1) (na) (by omega) (by omega) dX1_divideBy_53 (fun f H locs hS hI => ?_)
        have hT := hT.h t1 t2 hS
        obtain ⟨P, hP⟩ : ∃ P : Nat, (P : Int) = (na : Int) - (nx : Int) + 1 := ⟨na + 1 - nx, by omega⟩
        have dg0 : dg (upI g na 0) (na + 1) := hz.2.1.up_s (by decide)
        have ev0 : dv (upI g na 0) (na + 1) = dv g na := by rw [dv_up_s, Int.zero_mul, Int.add_zero]
        refine mv_iload_n B dX1_divideBy_54 rfl (lv_at hl 1 rfl) ?_
        refine mv_iconst B dX1_divideBy_55 ?_
        refine mv_isub B dX1_divideBy_56 ?_
        refine mv_istore (lv' := [(6, .int (iI (((((na : Int)) - ((nx : Int))) + (1)) - (1)))), (4, .long (lI (ld2 gx nx))), (3, .int (iI ((((na : Int)) - ((nx : Int))) + (1)))), (0, .ref h), (1, .ref x), (2, .ref t)]) B dX1_divideBy_57 hl (by decide) rfl (fun ls hl => ?_)
        have loop : ∀ (μ : Nat) (j : Nat) (y : Int) (g' gq : Nat → Int) (f : mw_M) (H : Heap) (locs : List Loc) (ls : Array Slot), j < μ → y = (j : Int) - 1 → j ≤ P → dg g' (na + 1) → (∀ i, j + nx ≤ i → i ≤ na → g' i = 0) → dv g' (na + 1) < dv gx nx * 1000000 ^ j → (∀ i, j ≤ i → i < P → 0 ≤ gq i ∧ gq i < 1000000) → dv g na = (dv gq P - dv gq j) * dv gx nx + dv g' (na + 1) → mw_I D vwCl A s H locs f → d2 (kA 0) f0 h r t rt f g' (na : Int) b gq nt bt → lv_has ls 7 [(6, .int (iI (y))), (4, .long (lI (ld2 gx nx))), (3, .int (iI ((((na : Int)) - ((nx : Int))) + (1)))), (0, .ref h), (1, .ref x), (2, .ref t)] → W p l e rm_X1_divideBy s m ([.ref h, .ref x, .ref t] : List Value).toArray below meth c H locs 0 0 Q (F0 m 59 ls []) := by
          intro μ
          induction μ with
          | zero => intro j y g' gq f H locs ls hμ; exact absurd hμ (Nat.not_lt_zero _)
          | succ μ ih =>
            intro j y g' gq f H locs ls hμ hy hj hg hzr hlt hq hv hI hT hl
            refine mv_iload B dX1_divideBy_59 (lv_at hl 0 rfl) ?_
            refine mv_if_lt (tgt := 86) B dX1_divideBy_61 (by decide) (by omega) (fun hd0 => ?_) (fun hd0 => ?_)
            · obtain rfl : j = 0 := by omega
              rw [dv_0, Int.sub_zero] at hv
              rw [Int.pow_zero, Int.mul_one] at hlt
              have er : dv g' (na + 1) = dv g' nx := dv_trim (by omega) (fun i h1 h2 => hzr i (by omega) (by omega))
              rw [er] at hv hlt
              have hr0 := dv_nn (hg.sub (show nx ≤ na + 1 by omega))
              obtain ⟨eq1, eq2⟩ := (Int.ediv_emod_unique hV).mpr ⟨show dv g' nx + dv gx nx * dv gq P = dv g na by rw [hv, Int.mul_comm (dv gx nx)]; omega, hr0, hlt⟩
              have sg := td_sgn hz hzx eq1 eq2
              have dgq : dg gq P := fun i hi => hq i (by omega) hi
              refine mv_aload_n B dX1_divideBy_86 rfl (lv_at hl 5 rfl) ?_
              refine mv_aload_n B dX1_divideBy_87 rfl (lv_at hl 3 rfl) ?_
              refine ww_below B hI hT.1 uin_X1 kw_26 dX1_divideBy_88 ?_
              refine mv_aload_n B dX1_divideBy_91 rfl (lv_at hl 4 rfl) ?_
              refine ww_below B hI (hT.get hx x1 x3 (Ne.symm u1) x5) uin_X1 kw_26 dX1_divideBy_92 ?_
              have j103 : ∀ (nb : Int), nb = (if b = bx then 0 else 1) → W p l e rm_X1_divideBy s m ([.ref h, .ref x, .ref t] : List Value).toArray below meth c H locs 0 0 Q (F0 m 103 ls [.int (iI (nb)), .ref t]) := by
                intro nb hnb
                refine ww_putb B hI (wSt.self hT.2.2.1 hT.2.2.2.1) (by omega) uin_X1 kw_26 dX1_divideBy_103 (fun f H locs hS hI => ?_)
                have hT := hT.t t1 t2 hS
                refine mv_aload_n B dX1_divideBy_106 rfl (lv_at hl 5 rfl) ?_
                refine mv_iload_n B dX1_divideBy_107 rfl (lv_at hl 2 rfl) ?_
                rw [← hP]
                refine mw_callv hI hA (va_runV (As := [.int (iI ((P : Int)))]) (rest := []) B.fix (t_X1_trimTo l D kA H.size f (k := P) hT.2.2.1 hT.2.2.2.1 (by omega) dgq) (cwV 1 B.2.2.2.2.1 (gV kw_104 kw_105 kw_106 kw_2 kw_107) rfl rfl rfl (by decide +kernel) ⟨Nat.le_of_ble_eq_true rfl, Nat.le_of_ble_eq_true rfl⟩) ⟨mw_blind st_S.blind, mw_recv B hI hT.2.2.1 rfl, mw_pre B hI (hSt.call hI hA)⟩ rfl rfl hl.1 rfl (lv_room (Nat.le_of_ble_eq_true rfl)) dX1_divideBy_108 ⟨Nat.le_of_ble_eq_true rfl, Nat.le_of_ble_eq_true rfl⟩) (fun f H locs hp hI2 => ?_)
                clear hI
                have hI := hI2
                clear hI2
                obtain ⟨nq, a1, a2, a3, hS⟩ := hp
                have hT := hT.t t1 t2 hS
                have e1 := dv_trim a1 a2
                refine mv_aload_n B dX1_divideBy_111 rfl (lv_at hl 3 rfl) ?_
                refine mv_aload_n B dX1_divideBy_112 rfl (lv_at hl 4 rfl) ?_
                refine ww_size B hI (hT.get hx x1 x3 (Ne.symm u1) x5) uin_X1 kw_24 dX1_divideBy_113 ?_
                refine mw_callv hI hA (va_runV (As := [.int (iI ((nx : Int)))]) (rest := []) B.fix (t_X1_trimTo l D kA H.size f (k := nx) hT.1 hT.2.1 (by omega) (hg.sub (by omega))) (cwV 1 B.2.2.2.2.1 (gV kw_104 kw_105 kw_106 kw_2 kw_107) rfl rfl rfl (by decide +kernel) ⟨Nat.le_of_ble_eq_true rfl, Nat.le_of_ble_eq_true rfl⟩) ⟨mw_blind st_S.blind, mw_recv B hI hT.1 rfl, mw_pre B hI (hSt.call hI hA)⟩ rfl rfl hl.1 rfl (lv_room (Nat.le_of_ble_eq_true rfl)) dX1_divideBy_116 ⟨Nat.le_of_ble_eq_true rfl, Nat.le_of_ble_eq_true rfl⟩) (fun f H locs hp hI2 => ?_)
                clear hI
                have hI := hI2
                clear hI2
                obtain ⟨nr, c1, c2, c3, hS⟩ := hp
                have hT := hT.h t1 t2 hS
                have e2 := dv_trim c1 c2
                have hsq : (nb = 0 ∧ za.tdiv zb = dv gq P) ∨ (nb = 1 ∧ za.tdiv zb = -dv gq P) := by
                  have k1 := sg.1
                  by_cases q : b = bx
                  · rw [if_pos q] at hnb; exact Or.inl ⟨hnb, k1.1 q⟩
                  · rw [if_neg q] at hnb; exact Or.inr ⟨hnb, k1.2 q⟩
                exact mw_vret B hQ hrt hI ⟨⟨g', nr, _, hT.1, hT.2.1, rp_of ⟨by omega, (hg.sub (by omega)), c3⟩ e2.symm sg.2⟩, ⟨gq, nq, _, hT.2.2.1, hT.2.2.2.1, rp_of ⟨by omega, dgq.sub a1, a3⟩ e1.symm hsq⟩, hT.2.2.2.2⟩ dX1_divideBy_119
              refine mv_icmp_eq (tgt := 102) B dX1_divideBy_95 (by decide) (by omega) (fun hd1 => ?_) (fun hd1 => ?_)
              · refine mv_iconst B dX1_divideBy_102 ?_
                exact j103 _ (by rw [if_pos hd1])
              · refine mv_iconst B dX1_divideBy_98 ?_
                refine mv_goto (tgt := 103) B dX1_divideBy_99 (by decide) ?_
                exact j103 _ (by rw [if_neg hd1])
            · obtain ⟨k, rfl⟩ : ∃ k, j = k + 1 := ⟨j - 1, by omega⟩
              obtain ⟨w1, w2⟩ := dd_win hg (show k + nx ≤ na by omega) hzr hlt
              obtain rfl : y = (k : Int) := by omega
              refine mv_aload_n B dX1_divideBy_64 rfl (lv_at hl 5 rfl) ?_
              refine ww_parts B hI hT.2.2.1 uin_X1 kw_22 dX1_divideBy_65 ?_
              refine mv_iload B dX1_divideBy_68 (lv_at hl 0 rfl) ?_
              refine mv_aload_n B dX1_divideBy_70 rfl (lv_at hl 3 rfl) ?_
              refine mv_aload_n B dX1_divideBy_71 rfl (lv_at hl 4 rfl) ?_
              refine mv_lload B dX1_divideBy_72 (lv_at hl 1 rfl) ?_
              refine mv_iload B dX1_divideBy_74 (lv_at hl 0 rfl) ?_
              refine mw_calli hI hA (va_runV (As := [.ref x, .long (lI (ld2 gx nx)), .int (iI ((k : Int)))]) (rest := [.int (iI ((k : Int))), .ref rt]) B.fix (t_X1_takeAway l D kA H.size f (pl := k) hT.1 hT.2.1 (hT.get hx x1 x3 (Ne.symm u1) x5) (hT.get hxr x4 x2 x6 (Ne.symm u2)) x1 x2 (by omega) nx1 hzx.toCn (hg.sub (by omega)) w1) (cwV 3 B.2.2.2.2.1 (gV kw_203 kw_205 ks_6 kw_2 kw_206) rfl rfl rfl (by decide +kernel) ⟨Nat.le_of_ble_eq_true rfl, Nat.le_of_ble_eq_true rfl⟩) ⟨mw_blind st_S.blind, mw_recv B hI hT.1 rfl, mw_pre B hI (hSt.call hI hA)⟩ rfl rfl hl.1 rfl (lv_room (Nat.le_of_ble_eq_true rfl)) dX1_divideBy_76 ⟨Nat.le_of_ble_eq_true rfl, Nat.le_of_ble_eq_true rfl⟩) (fun r f H locs hp hI2 => ?_)
              clear hI
              have hI := hI2
              clear hI2
              obtain ⟨rfl, g2, hS, a1, a2, a3, a4⟩ := hp
              have hT := hT.h t1 t2 hS
              have wn := wv_nn (show dw g' k (nx + 1) from fun i h1 h2 => hg i (by omega))
              have b1 := Int.ediv_nonneg wn (Int.le_of_lt hV)
              have b2 : wv g' k (nx + 1) / dv gx nx < 1000000 := Int.ediv_lt_of_lt_mul hV (by omega)
              have b3 := Int.emod_lt_of_pos (wv g' k (nx + 1)) hV
              have b4 := Int.mul_ediv_add_emod (wv g' k (nx + 1)) (dv gx nx)
              have hz2 : ∀ i, k + nx ≤ i → i ≤ na → g2 i = 0 := fun i h1 h2 => by
                rcases Nat.lt_or_ge (k + nx) i with q | q
                · rw [a2 i (Or.inr q)]; exact hzr i (by omega) h2
                · rw [show i = k + nx by omega]; exact a3
              have dg2 : dg g2 (na + 1) := fun i hi => by
                rcases Nat.lt_or_ge i (k + nx + 1) with q | q
                · exact a1 i q
                · rw [hz2 i (by omega) (by omega)]; decide
              obtain ⟨l1, l2⟩ := dd_low (show k + nx ≤ na by omega) hg (fun i h1 => a2 i (Or.inl h1)) hz2 a4 b3
              refine ww_iast B hI (wSt.self hT.2.2.1 hT.2.2.2.1) (k) (by omega) (by omega) dX1_divideBy_79 (fun f H locs hS hI => ?_)
              have hT := hT.t t1 t2 hS
              refine mv_iinc (k := 0) (lv' := [(6, .int (iI ((k : Int) + (-1)))), (4, .long (lI (ld2 gx nx))), (3, .int (iI ((((na : Int)) - ((nx : Int))) + (1)))), (0, .ref h), (1, .ref x), (2, .ref t)]) B dX1_divideBy_80 hl rfl (by decide) rfl (fun ls hl => ?_)
              refine mv_goto (tgt := 59) B dX1_divideBy_83 (by decide) ?_
              refine ih k _ g2 _ f H locs ls (by omega) (by omega) (by omega) dg2 hz2 l2 (fun i h1 h2 => ?_) ?_ hI hT (lv_sub hl [0, 1, 2, 3, 4, 5] rfl)
              · by_cases q : i = k
                · rw [q, upI_self]; exact ⟨b1, b2⟩
                · rw [upI_ne _ _ q]; exact hq i (by omega) h2
              · rw [l1, dv_up_ge (Nat.le_refl k)]
                rw [w2] at hv
                exact dd_step (lo2 := 0) hv b4 (dv_s gq k) (dv_up (by omega))
        exact loop (P + 1) P _ _ gt f H locs ls (Nat.lt_succ_self P) (by omega) (Nat.le_refl P) dg0 (fun i h1 h2 => by rw [show i = na by omega, upI_self]) (by rw [ev0]; exact dd_init hzx hA1 (by omega)) (fun i h1 h2 => absurd h1 (by omega)) (by rw [ev0, Int.sub_self, Int.zero_mul, Int.zero_add]) hI hT (lv_sub hl [0, 1, 2, 3, 4, 5] rfl)
      · exact absurd hc3 (by omega)
