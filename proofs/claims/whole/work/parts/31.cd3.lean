abbrev rm_X0_commonDivisor : Room := { frames := 3, cells := 0, slots := 0, locals := 85 }
set_option maxHeartbeats 4000000 in
set_option maxRecDepth 100000 in
/-- commonDivisor -/
theorem t_X0_commonDivisor (l : Launch) (D : va_G) (kA : Nat → ClassId) (sz : Nat) (f0 : mw_M) {q un run mo rmo fe rfe x rx y ry : Nat} {a_ b_ c_ d_ vu vm vf zx zy : Int} (hq : f0 q = some (prc un mo fe a_ b_ c_ d_)) (hun : Rp (kA 0) f0 un run vu) (hmo : Rp (kA 0) f0 mo rmo vm) (hfe : Rp (kA 0) f0 fe rfe vf) (hx : Rp (kA 0) f0 x rx zx) (hy : Rp (kA 0) f0 y ry zy) (n1 : mo ≠ fe) (n2 : rmo ≠ rfe) (n3 : un ≠ mo) (n4 : un ≠ fe) (n5 : run ≠ rmo) (n6 : run ≠ rfe) (x2 : x ≠ mo) (x3 : x ≠ fe) (x5 : rx ≠ rmo) (x6 : rx ≠ rfe) (y2 : y ≠ mo) (y3 : y ≠ fe) (y5 : ry ≠ rmo) (y6 : ry ≠ rfe) (k1 : (zx.natAbs : Int) < 1000000 ^ 103) (k2 : (zy.natAbs : Int) < 1000000 ^ 103) : mw_Mr l yX0_commonDivisor (Cond.code yX0_commonDivisor cX0_commonDivisor 4 ((some (.object "BigDesk$Whole"))) :: gw) rm_X0_commonDivisor D vwCl (tyL kA) st_S [.ref q, .ref x, .ref y] f0 sz (fun u => ∃ mo' rmo' fe' rfe' a b c d, swp mo rmo fe rfe mo' rmo' fe' rfe' ∧ u.1 = mo' ∧ u.2 q = some (prc un mo' fe' a b c d) ∧ Rp (kA 0) u.2 mo' rmo' (Int.gcd zx zy : Int) ∧ (∃ v, Rp (kA 0) u.2 fe' rfe' v) ∧ (∃ v, Rp (kA 0) u.2 un run v) ∧ ∀ k, ¬ pk_ q un run mo rmo fe rfe k → u.2 k = f0 k) 0 0 := by
  refine mw_ofr (cc := cX0_commonDivisor) (maxL := 4) (ret := (some (.object "BigDesk$Whole"))) (by decide) rfl (Nat.le_of_ble_eq_true rfl) ?_
  intro p e s m below meth c A ls Q hQ B hrt hnm hA hI hSt hl
  have hl : lv_has ls 4 [(0, .ref q), (1, .ref x), (2, .ref y)] := hl
  obtain ⟨f, hI, hf⟩ : ∃ f, mw_I D vwCl A s s.heap [] f ∧ f = f0 := ⟨f0, hI, rfl⟩
  have ho : ∀ k, ¬ pk_ q un run mo rmo fe rfe k → f k = f0 k := fun k _ => by rw [hf]
  rw [← hf] at hq hun hmo hfe hx hy
  have hpk : ∀ k, ¬ pk_ q un run mo rmo fe rfe k → k ≠ q ∧ k ≠ un ∧ k ≠ run ∧ k ≠ mo ∧ k ≠ rmo ∧ k ≠ fe ∧ k ≠ rfe := fun k h => pk_.ne h (Or.inl ⟨rfl, rfl, rfl, rfl⟩)
  refine mv_aload_n B dX0_commonDivisor_0 rfl (lv_at hl 0 rfl) ?_
  refine mw_get (C := RX0) (T := TX0) (N := 7) B hI hq uin_X0 rfl 1 (by decide) kw_46 rfl dX0_commonDivisor_1 ?_
  refine mv_aload_n B dX0_commonDivisor_4 rfl (lv_at hl 1 rfl) ?_
  obtain ⟨_, _, _, cmo, -, -⟩ := id hmo
  refine mw_callv hI hA (va_runV (As := [.ref x]) (rest := []) B.fix (t_X1_take l D kA s.heap.size f hmo.w hx (Or.inr ⟨x2, x5⟩)) (cwV 1 B.2.2.2.2.1 (gV kw_227 kw_153 kw_154 kw_2 kw_155) rfl rfl rfl (by decide +kernel) ⟨Nat.le_of_ble_eq_true rfl, Nat.le_of_ble_eq_true rfl⟩) ⟨mw_blind st_S.blind, mw_recv B hI cmo rfl, mw_pre B hI (hSt.call hI hA)⟩ rfl rfl hl.1 rfl (lv_room (Nat.le_of_ble_eq_true rfl)) dX0_commonDivisor_5 ⟨Nat.le_of_ble_eq_true rfl, Nat.le_of_ble_eq_true rfl⟩) (fun f H locs hp hI2 => ?_)
  clear hI
  have hI := hI2
  clear hI2
  obtain ⟨hmo', o1⟩ := hp
  have hun := hun.keep o1 hmo.w n3 n5
  have hfe := hfe.keep o1 hmo.w (Ne.symm n1) (Ne.symm n2)
  have hy := hy.keep o1 hmo.w y2 y5
  have hq := prc_fo hq hmo o1
  have ho : ∀ k, ¬ pk_ q un run mo rmo fe rfe k → f k = f0 k := fun k h => (o1 k (hpk k h).2.2.2.1 (hpk k h).2.2.2.2.1).trans (ho k h)
  have hmo := hmo'
  refine mv_aload_n B dX0_commonDivisor_8 rfl (lv_at hl 0 rfl) ?_
  refine mw_get (C := RX0) (T := TX0) (N := 7) B hI hq uin_X0 rfl 2 (by decide) kw_47 rfl dX0_commonDivisor_9 ?_
  refine mv_aload_n B dX0_commonDivisor_12 rfl (lv_at hl 2 rfl) ?_
  obtain ⟨_, _, _, cfe, -, -⟩ := id hfe
  refine mw_callv hI hA (va_runV (As := [.ref y]) (rest := []) B.fix (t_X1_take l D kA H.size f hfe.w hy (Or.inr ⟨y3, y6⟩)) (cwV 1 B.2.2.2.2.1 (gV kw_227 kw_153 kw_154 kw_2 kw_155) rfl rfl rfl (by decide +kernel) ⟨Nat.le_of_ble_eq_true rfl, Nat.le_of_ble_eq_true rfl⟩) ⟨mw_blind st_S.blind, mw_recv B hI cfe rfl, mw_pre B hI (hSt.call hI hA)⟩ rfl rfl hl.1 rfl (lv_room (Nat.le_of_ble_eq_true rfl)) dX0_commonDivisor_13 ⟨Nat.le_of_ble_eq_true rfl, Nat.le_of_ble_eq_true rfl⟩) (fun f H locs hp hI2 => ?_)
  clear hI
  have hI := hI2
  clear hI2
  obtain ⟨hfe', o1⟩ := hp
  have hun := hun.keep o1 hfe.w n4 n6
  have hmo := hmo.keep o1 hfe.w n1 n2
  have hq := prc_fo hq hfe o1
  have ho : ∀ k, ¬ pk_ q un run mo rmo fe rfe k → f k = f0 k := fun k h => (o1 k (hpk k h).2.2.2.2.2.1 (hpk k h).2.2.2.2.2.2).trans (ho k h)
  have hfe := hfe'
  refine mv_aload_n B dX0_commonDivisor_16 rfl (lv_at hl 0 rfl) ?_
  refine mw_get (C := RX0) (T := TX0) (N := 7) B hI hq uin_X0 rfl 1 (by decide) kw_46 rfl dX0_commonDivisor_17 ?_
  refine mv_iconst B dX0_commonDivisor_20 ?_
  obtain ⟨gm, nm, bm, c1, c2, c3_⟩ := id hmo
  refine ww_putb B hI (wSt.self c1 c2) (Or.inl rfl) uin_X1 kw_27 dX0_commonDivisor_21 (fun f H locs hS hI => ?_)
  have hN := hS.toRp c3_.abs
  have hun := hun.keep hN.2 hmo.w n3 n5
  have hfe := hfe.keep hN.2 hmo.w (Ne.symm n1) (Ne.symm n2)
  have hq := prc_fo hq hmo hN.2
  have ho : ∀ k, ¬ pk_ q un run mo rmo fe rfe k → f k = f0 k := fun k h => (hN.2 k (hpk k h).2.2.2.1 (hpk k h).2.2.2.2.1).trans (ho k h)
  have hmo := hN.1
  refine mv_aload_n B dX0_commonDivisor_24 rfl (lv_at hl 0 rfl) ?_
  refine mw_get (C := RX0) (T := TX0) (N := 7) B hI hq uin_X0 rfl 2 (by decide) kw_47 rfl dX0_commonDivisor_25 ?_
  refine mv_iconst B dX0_commonDivisor_28 ?_
  obtain ⟨gf, nf, bf, c1, c2, c3_⟩ := id hfe
  refine ww_putb B hI (wSt.self c1 c2) (Or.inl rfl) uin_X1 kw_27 dX0_commonDivisor_29 (fun f H locs hS hI => ?_)
  have hN := hS.toRp c3_.abs
  have hun := hun.keep hN.2 hfe.w n4 n6
  have hmo := hmo.keep hN.2 hfe.w n1 n2
  have hq := prc_fo hq hfe hN.2
  have ho : ∀ k, ¬ pk_ q un run mo rmo fe rfe k → f k = f0 k := fun k h => (hN.2 k (hpk k h).2.2.2.2.2.1 (hpk k h).2.2.2.2.2.2).trans (ho k h)
  have hfe := hN.1
  refine mv_aload_n B dX0_commonDivisor_32 rfl (lv_at hl 0 rfl) ?_
  refine mw_get (C := RX0) (T := TX0) (N := 7) B hI hq uin_X0 rfl 1 (by decide) kw_46 rfl dX0_commonDivisor_33 ?_
  refine mv_aload_n B dX0_commonDivisor_36 rfl (lv_at hl 0 rfl) ?_
  refine mw_get (C := RX0) (T := TX0) (N := 7) B hI hq uin_X0 rfl 2 (by decide) kw_47 rfl dX0_commonDivisor_37 ?_
  obtain ⟨g1, m1, b1, e1, e2, e3⟩ := id hmo
  obtain ⟨g2, m2, b2, e4, e5, e6⟩ := id hfe
  refine mw_calli hI hA (va_runV (As := [.ref fe]) (rest := []) B.fix (t_X1_compareParts l D kA H.size f e1 e2 e4 e5 e3.toCn e6.toCn) (cwV 1 B.2.2.2.2.1 (gV kw_228 kw_128 kw_129 kw_2 kw_130) rfl rfl rfl (by decide +kernel) ⟨Nat.le_of_ble_eq_true rfl, Nat.le_of_ble_eq_true rfl⟩) ⟨mw_blind st_S.blind, mw_recv B hI e1 rfl, mw_pre B hI (hSt.call hI hA)⟩ rfl rfl hl.1 rfl (lv_room (Nat.le_of_ble_eq_true rfl)) dX0_commonDivisor_40 ⟨Nat.le_of_ble_eq_true rfl, Nat.le_of_ble_eq_true rfl⟩) (fun r f H locs hp hI2 => ?_)
  clear hI
  have hI := hI2
  clear hI2
  obtain ⟨rfl, rfl⟩ := hp
  have q1 := e3.nat
  have q2 := e6.nat
  have q3 := c3_in (dv g1 m1) (dv g2 m2)
  have j50 : ∀ (mo1 rmo1 fe1 rfe1 : Nat) (U V : Int) (f : mw_M) (H : Heap) (locs : List Loc), cdI (kA 0) f0 f q un run mo rmo fe rfe (Int.gcd zx zy : Int) mo1 rmo1 fe1 rfe1 U V → mw_I D vwCl A s H locs f → W p l e rm_X0_commonDivisor s m ([.ref q, .ref x, .ref y] : List Value).toArray below meth c H locs 0 0 Q (F0 m 50 ls []) := by
    intro mo1 rmo1 fe1 rfe1 U V f H locs hC hI
    have hm0 := cd_start (U := U) (V := V) (by have := hC.2.2.2.2.2; omega) hC.2.2.2.2.2.1 hC.2.2.2.2.2.2.2.2.1 (by have := hC.2.2.2.2.2; omega)
    refine mv_iconst B dX0_commonDivisor_50 ?_
    refine mv_istore_n (lv' := [(3, .int (iI (0))), (0, .ref q), (1, .ref x), (2, .ref y)]) B dX0_commonDivisor_51 rfl hl (by decide) rfl (fun ls hl => ?_)
    have loop : ∀ (μ : Nat) (j : Nat) (i : Int) (mo1 rmo1 fe1 rfe1 : Nat) (U V : Int) (f : mw_M) (H : Heap) (locs : List Loc) (ls : Array Slot), 10000 - j < μ → i = (j : Int) → j ≤ 10000 → cdI (kA 0) f0 f q un run mo rmo fe rfe (Int.gcd zx zy : Int) mo1 rmo1 fe1 rfe1 U V → U * V * 2 ^ j ≤ 1000000 ^ 206 → mw_I D vwCl A s H locs f → lv_has ls 4 [(3, .int (iI (i))), (0, .ref q), (1, .ref x), (2, .ref y)] → W p l e rm_X0_commonDivisor s m ([.ref q, .ref x, .ref y] : List Value).toArray below meth c H locs 0 0 Q (F0 m 52 ls []) := by
      intro μ
      induction μ with
      | zero => intro j i mo1 rmo1 fe1 rfe1 U V f H locs ls hμ; exact absurd hμ (Nat.not_lt_zero _)
      | succ μ ih =>
        intro j i mo1 rmo1 fe1 rfe1 U V f H locs ls hμ hi hj hC hm hI hl
        obtain ⟨hsw, ⟨a, b, c_1, d, hq⟩, hmo, hfe, ⟨vu, hun⟩, V0, VU, hG, UB, ho⟩ := hC
        obtain ⟨n1, n2, n3, n4, n5, n6⟩ := hsw.ne n1 n2 n3 n4 n5 n6
        obtain ⟨g1, m1, b1, e1, e2, e3⟩ := id hmo
        obtain ⟨g2, m2, b2, e4, e5, e6⟩ := id hfe
        have q1 := e3.nat
        have q2 := e6.nat
        have l1 := e3.1
        have l2 := e6.1
        have z2 := e6.zero
        have z1 := e3.zero
        refine mv_iload_n B dX0_commonDivisor_52 rfl (lv_at hl 0 rfl) ?_
        refine mv_sipush B dX0_commonDivisor_53 (by decide) ?_
        refine mv_icmp_ge (tgt := 114) B dX0_commonDivisor_56 (by decide) (by omega) (fun hd0 => ?_) (fun hd0 => ?_)
        · have hV0 : V = 0 := cd_stop V0 VU (by rw [show j = 10000 by omega] at hm; exact hm)
          refine mv_aload_n B dX0_commonDivisor_114 rfl (lv_at hl 1 rfl) ?_
          refine mw_get (C := RX0) (T := TX0) (N := 7) B hI hq uin_X0 rfl 1 (by decide) kw_46 rfl dX0_commonDivisor_115 ?_
          exact mw_aret B hQ hrt hI ⟨mo1, rmo1, fe1, rfe1, a, b, c_1, d, hsw, rfl, hq, by rw [← cd_end hG hV0 (by omega)]; exact hmo, ⟨_, hfe⟩, ⟨_, hun⟩, ho⟩ dX0_commonDivisor_118
        · refine mv_aload_n B dX0_commonDivisor_59 rfl (lv_at hl 1 rfl) ?_
          refine mw_get (C := RX0) (T := TX0) (N := 7) B hI hq uin_X0 rfl 2 (by decide) kw_47 rfl dX0_commonDivisor_60 ?_
          refine mw_calli hI hA (va_runV (As := []) (rest := []) B.fix (t_X1_isZero l D kA H.size f e4 (by omega)) (cwV 0 B.2.2.2.2.1 (gV kw_233 kw_191 kw_192 kw_2 kw_193) rfl rfl rfl (by decide +kernel) ⟨Nat.le_of_ble_eq_true rfl, Nat.le_of_ble_eq_true rfl⟩) ⟨mw_blind st_S.blind, mw_recv B hI e4 rfl, mw_pre B hI (hSt.call hI hA)⟩ rfl rfl hl.1 rfl (lv_room (Nat.le_of_ble_eq_true rfl)) dX0_commonDivisor_63 ⟨Nat.le_of_ble_eq_true rfl, Nat.le_of_ble_eq_true rfl⟩) (fun r f H locs hp hI2 => ?_)
          clear hI
          have hI := hI2
          clear hI2
          obtain ⟨rfl, rfl⟩ := hp
          refine mv_if_ne (tgt := 114) B dX0_commonDivisor_66 (by decide) (by split <;> omega) (fun hd1 => ?_) (fun hd1 => ?_)
          · have hV0 : V = 0 := by
              by_cases q : (m2 : Int) = 0
              · omega
              · rw [if_neg q] at hd1; exact absurd rfl hd1
            refine mv_aload_n B dX0_commonDivisor_114 rfl (lv_at hl 1 rfl) ?_
            refine mw_get (C := RX0) (T := TX0) (N := 7) B hI hq uin_X0 rfl 1 (by decide) kw_46 rfl dX0_commonDivisor_115 ?_
            exact mw_aret B hQ hrt hI ⟨mo1, rmo1, fe1, rfe1, a, b, c_1, d, hsw, rfl, hq, by rw [← cd_end hG hV0 (by omega)]; exact hmo, ⟨_, hfe⟩, ⟨_, hun⟩, ho⟩ dX0_commonDivisor_118
          · have hm2 : ¬ (m2 : Int) = 0 := fun q => by rw [if_pos q] at hd1; omega
            have hV1 : 0 < V := by omega
            refine mv_aload_n B dX0_commonDivisor_69 rfl (lv_at hl 1 rfl) ?_
            refine mw_callv hI hA (va_runV (As := []) (rest := []) B.fix (t_X0_foretellSteps l D kA H.size f hq e1 e2 e4 e5 e3.toCn e6.toCn (by omega) (by omega)) (cwV 0 B.2.2.2.2.1 (gV kw_234 kw_236 ks_10 kw_3 kw_237) rfl rfl rfl (by decide +kernel) ⟨Nat.le_of_ble_eq_true rfl, Nat.le_of_ble_eq_true rfl⟩) ⟨mw_blind st_S.blind, mw_recv B hI hq rfl, mw_pre B hI (hSt.call hI hA)⟩ rfl rfl hl.1 rfl (lv_room (Nat.le_of_ble_eq_true rfl)) dX0_commonDivisor_70 ⟨Nat.le_of_ble_eq_true rfl, Nat.le_of_ble_eq_true rfl⟩) (fun f H locs hp hI2 => ?_)
            clear hI
            have hI := hI2
            clear hI2
            obtain ⟨a, b, c_1, d, hq', o1, hO⟩ := hp
            rw [show dv g1 m1 = U by omega, show dv g2 m2 = V by omega] at hO
            have hmo := hmo.keepq hq o1
            have hfe := hfe.keepq hq o1
            have hun := hun.keepq hq o1
            have ho : ∀ k, ¬ pk_ q un run mo rmo fe rfe k → f k = f0 k := fun k h => (o1 k (pk_.ne h hsw).1).trans (ho k h)
            have hq := hq'
            have hbb := hO.1
            refine mv_aload_n B dX0_commonDivisor_73 rfl (lv_at hl 1 rfl) ?_
            refine mw_get (C := RX0) (T := TX0) (N := 7) B hI hq uin_X0 rfl 4 (by decide) kw_49 rfl dX0_commonDivisor_74 ?_
            refine mv_lconst0 B dX0_commonDivisor_77 ?_
            refine mv_lcmp_ne (tgt := 104) B dX0_commonDivisor_78 dX0_commonDivisor_79 (by decide) (by omega) (fun hd2 => ?_) (fun hd2 => ?_)
            · refine mv_aload_n B dX0_commonDivisor_104 rfl (lv_at hl 1 rfl) ?_
              refine mw_callv hI hA (va_runV (As := []) (rest := []) B.fix (t_X0_takeForetoldSteps l D kA H.size f hq hmo hfe (Ne.symm n1) (Ne.symm n2) V0 VU hO) (cwV 0 B.2.2.2.2.1 (gV kw_245 kw_247 ks_12 kw_3 kw_248) rfl rfl rfl (by decide +kernel) ⟨Nat.le_of_ble_eq_true rfl, Nat.le_of_ble_eq_true rfl⟩) ⟨mw_blind st_S.blind, mw_recv B hI hq rfl, mw_pre B hI (hSt.call hI hA)⟩ rfl rfl hl.1 rfl (lv_room (Nat.le_of_ble_eq_true rfl)) dX0_commonDivisor_105 ⟨Nat.le_of_ble_eq_true rfl, Nat.le_of_ble_eq_true rfl⟩) (fun f H locs hp hI2 => ?_)
              clear hI
              have hI := hI2
              clear hI2
              obtain ⟨hmo', hfe', o1⟩ := hp
              have hun := hun.keep2 o1 hmo hfe n3 n5 n4 n6
              have hq := prc_fo2 hq hmo hfe o1
              have ho : ∀ k, ¬ pk_ q un run mo rmo fe rfe k → f k = f0 k := fun k h => (o1 k (pk_.ne h hsw).2.2.2.1 (pk_.ne h hsw).2.2.2.2.1 (pk_.ne h hsw).2.2.2.2.2.1 (pk_.ne h hsw).2.2.2.2.2.2).trans (ho k h)
              have hh2 : 2 * ((a * U + b * V) * (c_1 * U + d * V)) ≤ U * V := by
                rcases hO.2.2.2 with ⟨_, r2, _, _⟩ | r2
                · exact absurd r2 hd2
                · exact r2
              refine mv_iinc (k := 0) (lv' := [(3, .int (iI (i + 1))), (0, .ref q), (1, .ref x), (2, .ref y)]) B dX0_commonDivisor_108 hl rfl (by decide) rfl (fun ls hl => ?_)
              refine mv_goto (tgt := 52) B dX0_commonDivisor_111 (by decide) ?_
              exact ih (j + 1) _ mo1 rmo1 fe1 rfe1 _ _ f H locs ls (by omega) (by omega) (by omega) ⟨hsw, ⟨a, b, c_1, d, hq⟩, hmo', hfe', ⟨_, hun⟩, hO.2.1.1, hO.2.1.2.1, by rw [← hG, hO.2.2.1], by have := hO.2.1.2.2; omega, ho⟩ (cd_half hh2 hm) hI (lv_sub hl [0, 1, 2, 3] rfl)
            · refine mv_aload_n B dX0_commonDivisor_82 rfl (lv_at hl 1 rfl) ?_
              refine mw_get (C := RX0) (T := TX0) (N := 7) B hI hq uin_X0 rfl 1 (by decide) kw_46 rfl dX0_commonDivisor_83 ?_
              refine mv_aload_n B dX0_commonDivisor_86 rfl (lv_at hl 1 rfl) ?_
              refine mw_get (C := RX0) (T := TX0) (N := 7) B hI hq uin_X0 rfl 2 (by decide) kw_47 rfl dX0_commonDivisor_87 ?_
              refine mv_aload_n B dX0_commonDivisor_90 rfl (lv_at hl 1 rfl) ?_
              refine mw_get (C := RX0) (T := TX0) (N := 7) B hI hq uin_X0 rfl 0 (by decide) kw_45 rfl dX0_commonDivisor_91 ?_
              obtain ⟨_, _, _, cmo, -, -⟩ := id hmo
              refine mw_callv hI hA (va_runV (As := [.ref fe1, .ref un]) (rest := []) B.fix (t_X1_divideBy l D kA H.size f hmo hfe hun.w (Ne.symm n1) (Ne.symm n2) n3 n5 n4 n6 (by omega) (by omega)) (cwV 2 B.2.2.2.2.1 (gV kw_244 kw_195 kw_196 kw_2 kw_197) rfl rfl rfl (by decide +kernel) ⟨Nat.le_of_ble_eq_true rfl, Nat.le_of_ble_eq_true rfl⟩) ⟨mw_blind st_S.blind, mw_recv B hI cmo rfl, mw_pre B hI (hSt.call hI hA)⟩ rfl rfl hl.1 rfl (lv_room (Nat.le_of_ble_eq_true rfl)) dX0_commonDivisor_94 ⟨Nat.le_of_ble_eq_true rfl, Nat.le_of_ble_eq_true rfl⟩) (fun f H locs hp hI2 => ?_)
              clear hI
              have hI := hI2
              clear hI2
              obtain ⟨hmo', hun', o1⟩ := hp
              obtain ⟨t1, t2, t3, t4, t5⟩ := cd_div hV1 VU
              rw [t1] at hmo'
              have hfe := hfe.keep2 o1 hmo hun (Ne.symm n1) (Ne.symm n2) (Ne.symm n4) (Ne.symm n6)
              have hq := prc_fo2 hq hmo hun o1
              have ho : ∀ k, ¬ pk_ q un run mo rmo fe rfe k → f k = f0 k := fun k h => (o1 k (pk_.ne h hsw).2.2.2.1 (pk_.ne h hsw).2.2.2.2.1 (pk_.ne h hsw).2.1 (pk_.ne h hsw).2.2.1).trans (ho k h)
              refine mv_aload_n B dX0_commonDivisor_97 rfl (lv_at hl 1 rfl) ?_
              refine mw_callv hI hA (va_runV (As := []) (rest := []) B.fix (t_X0_change l D kA H.size f hq) (cwV 0 B.2.2.2.2.1 (gV kw_229 kw_231 ks_9 kw_3 kw_232) rfl rfl rfl (by decide +kernel) ⟨Nat.le_of_ble_eq_true rfl, Nat.le_of_ble_eq_true rfl⟩) ⟨mw_blind st_S.blind, mw_recv B hI hq rfl, mw_pre B hI (hSt.call hI hA)⟩ rfl rfl hl.1 rfl (lv_room (Nat.le_of_ble_eq_true rfl)) dX0_commonDivisor_98 ⟨Nat.le_of_ble_eq_true rfl, Nat.le_of_ble_eq_true rfl⟩) (fun f H locs hp hI2 => ?_)
              clear hI
              have hI := hI2
              clear hI2
              obtain ⟨hq', o2⟩ := hp
              have hmo := hmo'.keepq hq o2
              have hfe := hfe.keepq hq o2
              have hun := hun'.keepq hq o2
              have ho : ∀ k, ¬ pk_ q un run mo rmo fe rfe k → f k = f0 k := fun k h => (o2 k (pk_.ne h hsw).1).trans (ho k h)
              refine mv_goto (tgt := 108) B dX0_commonDivisor_101 (by decide) ?_
              refine mv_iinc (k := 0) (lv' := [(3, .int (iI (i + 1))), (0, .ref q), (1, .ref x), (2, .ref y)]) B dX0_commonDivisor_108 hl rfl (by decide) rfl (fun ls hl => ?_)
              refine mv_goto (tgt := 52) B dX0_commonDivisor_111 (by decide) ?_
              exact ih (j + 1) _ fe1 rfe1 mo1 rmo1 _ _ f H locs ls (by omega) (by omega) (by omega) ⟨hsw.sw, ⟨a, b, c_1, d, hq'⟩, hfe, hmo, ⟨_, hun⟩, t2, t3, by rw [t4]; exact hG, by omega, ho⟩ (cd_half t5 hm) hI (lv_sub hl [0, 1, 2, 3] rfl)
    exact loop 10001 0 _ mo1 rmo1 fe1 rfe1 U V f H locs ls (by decide) rfl (by decide) hC hm0 hI (lv_sub hl [0, 1, 2, 3] rfl)
  refine mv_if_ge (tgt := 50) B dX0_commonDivisor_43 (by decide) (by omega) (fun hd9 => ?_) (fun hd9 => ?_)
  · exact j50 mo rmo fe rfe _ _ f H locs ⟨Or.inl ⟨rfl, rfl, rfl, rfl⟩, ⟨_, _, _, _, hq⟩, hmo, hfe, ⟨_, hun⟩, by omega, by omega, by rw [gcd_abs], by omega, ho⟩ hI
  · refine mv_aload_n B dX0_commonDivisor_46 rfl (lv_at hl 0 rfl) ?_
    refine mw_callv hI hA (va_runV (As := []) (rest := []) B.fix (t_X0_change l D kA H.size f hq) (cwV 0 B.2.2.2.2.1 (gV kw_229 kw_231 ks_9 kw_3 kw_232) rfl rfl rfl (by decide +kernel) ⟨Nat.le_of_ble_eq_true rfl, Nat.le_of_ble_eq_true rfl⟩) ⟨mw_blind st_S.blind, mw_recv B hI hq rfl, mw_pre B hI (hSt.call hI hA)⟩ rfl rfl hl.1 rfl (lv_room (Nat.le_of_ble_eq_true rfl)) dX0_commonDivisor_47 ⟨Nat.le_of_ble_eq_true rfl, Nat.le_of_ble_eq_true rfl⟩) (fun f H locs hp hI2 => ?_)
    clear hI
    have hI := hI2
    clear hI2
    obtain ⟨hq', o2⟩ := hp
    have hmo := hmo.keepq hq o2
    have hfe := hfe.keepq hq o2
    have hun := hun.keepq hq o2
    have ho : ∀ k, ¬ pk_ q un run mo rmo fe rfe k → f k = f0 k := fun k h => (o2 k (hpk k h).1).trans (ho k h)
    exact j50 fe rfe mo rmo _ _ f H locs ⟨Or.inr ⟨rfl, rfl, rfl, rfl⟩, ⟨_, _, _, _, hq'⟩, hfe, hmo, ⟨_, hun⟩, by omega, by omega, by rw [gcd_abs, Int.gcd_comm], by omega, ho⟩ hI
