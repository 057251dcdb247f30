abbrev rm_X0_takeForetoldSteps : Room := { frames := 1, cells := 0, slots := 0, locals := 23 }
set_option maxHeartbeats 4000000 in
set_option maxRecDepth 100000 in
/-- takeForetoldSteps -/
theorem t_X0_takeForetoldSteps (l : Launch) (D : va_G) (kA : Nat → ClassId) (sz : Nat) (f0 : mw_M) {q un mo fe : Nat} {a_ b_ c_ d_ : Int} {rmo rfe : Nat} {U V : Int} (hq : f0 q = some (prc un mo fe a_ b_ c_ d_)) (hm : Rp (kA 0) f0 mo rmo U) (hf_ : Rp (kA 0) f0 fe rfe V) (t1 : fe ≠ mo) (t2 : rfe ≠ rmo) (hV0 : 0 ≤ V) (hle : V ≤ U) (ho : lhO U V a_ b_ c_ d_) : mw_Mv l yX0_takeForetoldSteps (Cond.code yX0_takeForetoldSteps cX0_takeForetoldSteps 17 (none) :: gw) rm_X0_takeForetoldSteps D vwCl (tyL kA) st_S [.ref q] f0 sz (fun f => Rp (kA 0) f mo rmo (a_ * U + b_ * V) ∧ Rp (kA 0) f fe rfe (c_ * U + d_ * V) ∧ fo2 f0 f mo rmo fe rfe) 0 0 := by
  refine mw_ofv (cc := cX0_takeForetoldSteps) (maxL := 17) (ret := none) (by decide) rfl (Nat.le_of_ble_eq_true rfl) ?_
  intro p e s m below meth c A ls Q hQ B hrt hnm hA hI hSt hl
  have hl : lv_has ls 17 [(0, .ref q)] := hl
  obtain ⟨gm, nm, bm, hm, hmr, hzm⟩ := hm
  obtain ⟨gf, nf, bf, hf1, hfr, hzf⟩ := hf_
  obtain ⟨f, hI, hT⟩ : ∃ f, mw_I D vwCl A s s.heap [] f ∧ d2 (kA 0) f0 mo rmo fe rfe f gm (nm : Int) bm gf (nf : Int) bf := ⟨f0, hI, d2.self hm hmr hf1 hfr⟩
  have m1 := hzm.1
  have m2 := hzf.1
  have q1 := hzm.b0
  have q2 := hzf.b0
  have q3 := hzm.nat
  have q4 := hzf.nat
  have eU : dv gm nm = U := by omega
  have eV : dv gf nf = V := by omega
  have n1 := prc_ne hq hm
  have n2 := prc_ne hq hf1
  have n3 := prc_neA hq hmr
  have n4 := prc_neA hq hfr
  have hnf : nf ≤ nm := bp_size hzm hzf (by omega)
  obtain ⟨⟨ba1, ba2, bb1, bb2, bc1, bc2, bd1, bd2⟩, ⟨o1, o2, o3⟩, -, -⟩ := ho
  have UP : U < 1000000 ^ nm := by rw [← eU]; exact dv_lt hzm.2.1
  refine mv_aload_n B dX0_takeForetoldSteps_0 rfl (lv_at hl 0 rfl) ?_
  refine mw_get (C := RX0) (T := TX0) (N := 7) B hI (hT.get hq (Ne.symm n1) (Ne.symm n3) (Ne.symm n2) (Ne.symm n4)) uin_X0 rfl 1 (by decide) kw_46 rfl dX0_takeForetoldSteps_1 ?_
  refine ww_size B hI hT.1 uin_X1 kw_25 dX0_takeForetoldSteps_4 ?_
  refine mv_istore_n (lv' := [(1, .int (iI ((nm : Int)))), (0, .ref q)]) B dX0_takeForetoldSteps_7 rfl hl (by decide) rfl (fun ls hl => ?_)
  refine mv_aload_n B dX0_takeForetoldSteps_8 rfl (lv_at hl 1 rfl) ?_
  refine mw_get (C := RX0) (T := TX0) (N := 7) B hI (hT.get hq (Ne.symm n1) (Ne.symm n3) (Ne.symm n2) (Ne.symm n4)) uin_X0 rfl 1 (by decide) kw_46 rfl dX0_takeForetoldSteps_9 ?_
  refine ww_parts B hI hT.1 uin_X1 kw_23 dX0_takeForetoldSteps_12 ?_
  refine mv_astore_n (lv' := [(2, .ref rmo), (1, .int (iI ((nm : Int)))), (0, .ref q)]) B dX0_takeForetoldSteps_15 rfl hl (by decide) rfl (fun ls hl => ?_)
  refine mv_aload_n B dX0_takeForetoldSteps_16 rfl (lv_at hl 2 rfl) ?_
  refine mw_get (C := RX0) (T := TX0) (N := 7) B hI (hT.get hq (Ne.symm n1) (Ne.symm n3) (Ne.symm n2) (Ne.symm n4)) uin_X0 rfl 2 (by decide) kw_47 rfl dX0_takeForetoldSteps_17 ?_
  refine ww_parts B hI hT.2.2.1 uin_X1 kw_23 dX0_takeForetoldSteps_20 ?_
  refine mv_astore_n (lv' := [(3, .ref rfe), (2, .ref rmo), (1, .int (iI ((nm : Int)))), (0, .ref q)]) B dX0_takeForetoldSteps_23 rfl hl (by decide) rfl (fun ls hl => ?_)
  refine mv_lconst0 B dX0_takeForetoldSteps_24 ?_
  refine mv_lstore (lv' := [(4, .long (lI (0))), (3, .ref rfe), (2, .ref rmo), (1, .int (iI ((nm : Int)))), (0, .ref q)]) B dX0_takeForetoldSteps_25 hl (by decide) rfl (fun ls hl => ?_)
  refine mv_lconst0 B dX0_takeForetoldSteps_27 ?_
  refine mv_lstore (lv' := [(6, .long (lI (0))), (4, .long (lI (0))), (3, .ref rfe), (2, .ref rmo), (1, .int (iI ((nm : Int)))), (0, .ref q)]) B dX0_takeForetoldSteps_28 hl (by decide) rfl (fun ls hl => ?_)
  refine mv_aload_n B dX0_takeForetoldSteps_30 rfl (lv_at hl 5 rfl) ?_
  refine mw_get (C := RX0) (T := TX0) (N := 7) B hI (hT.get hq (Ne.symm n1) (Ne.symm n3) (Ne.symm n2) (Ne.symm n4)) uin_X0 rfl 2 (by decide) kw_47 rfl dX0_takeForetoldSteps_31 ?_
  refine mv_aload_n B dX0_takeForetoldSteps_34 rfl (lv_at hl 5 rfl) ?_
  refine mw_get (C := RX0) (T := TX0) (N := 7) B hI (hT.get hq (Ne.symm n1) (Ne.symm n3) (Ne.symm n2) (Ne.symm n4)) uin_X0 rfl 2 (by decide) kw_47 rfl dX0_takeForetoldSteps_35 ?_
  refine ww_size B hI hT.2.2.1 uin_X1 kw_25 dX0_takeForetoldSteps_38 ?_
  refine mv_iload_n B dX0_takeForetoldSteps_41 rfl (lv_at hl 4 rfl) ?_
  refine mw_callv hI hA (va_runV (As := [.int (iI ((nf : Int))), .int (iI ((nm : Int)))]) (rest := []) B.fix (t_X1_clearParts l D kA s.heap.size f (a0 := nf) (b0 := nm) hT.2.2.1 hT.2.2.2.1 hnf m1) (cwV 2 B.2.2.2.2.1 (gV kw_249 kw_250 kw_251 kw_2 kw_252) rfl rfl rfl (by decide +kernel) ⟨Nat.le_of_ble_eq_true rfl, Nat.le_of_ble_eq_true rfl⟩) ⟨mw_blind st_S.blind, mw_recv B hI hT.2.2.1 rfl, mw_pre B hI (hSt.call hI hA)⟩ rfl rfl hl.1 rfl (lv_room (Nat.le_of_ble_eq_true rfl)) dX0_takeForetoldSteps_42 ⟨Nat.le_of_ble_eq_true rfl, Nat.le_of_ble_eq_true rfl⟩) (fun f H locs hp hI2 => ?_)
  clear hI
  have hI := hI2
  clear hI2
  obtain ⟨gz, hS, k2, k3⟩ := hp
  have hT := hT.t t1 t2 hS
  have dgz : dg gz nm := fun i hi => by
    rcases Nat.lt_or_ge i nf with q | q
    · rw [k3 i (Or.inl q)]; exact hzf.2.1 i q
    · rw [k2 i q hi]; decide
  have dvz : dv gz nm = V := by rw [dv_trim hnf (fun i h1 h2 => k2 i h1 h2), dv_congr (fun i hi => k3 i (Or.inl hi))]; exact eV
  refine mv_iconst B dX0_takeForetoldSteps_45 ?_
  refine mv_istore (lv' := [(8, .int (iI (0))), (6, .long (lI (0))), (4, .long (lI (0))), (3, .ref rfe), (2, .ref rmo), (1, .int (iI ((nm : Int)))), (0, .ref q)]) B dX0_takeForetoldSteps_46 hl (by decide) rfl (fun ls hl => ?_)
  have loop : ∀ (μ : Nat) (j : Nat) (i cm cf : Int) (g1 g2 : Nat → Int) (f : mw_M) (H : Heap) (locs : List Loc) (ls : Array Slot), nm - j < μ → i = (j : Int) → j ≤ nm → (-2000000000 ≤ cm ∧ cm ≤ 2000000000) → (-2000000000 ≤ cf ∧ cf ≤ 2000000000) → dg g1 nm → dg g2 nm → (∀ i, j ≤ i → g1 i = gm i) → (∀ i, j ≤ i → g2 i = gz i) → dv g1 j + cm * 1000000 ^ j = a_ * dv gm j + b_ * dv gz j → dv g2 j + cf * 1000000 ^ j = c_ * dv gm j + d_ * dv gz j → mw_I D vwCl A s H locs f → d2 (kA 0) f0 mo rmo fe rfe f g1 (nm : Int) bm g2 (nf : Int) bf → lv_has ls 17 [(8, .int (iI (i))), (6, .long (lI (cf))), (4, .long (lI (cm))), (3, .ref rfe), (2, .ref rmo), (1, .int (iI ((nm : Int)))), (0, .ref q)] → W p l e rm_X0_takeForetoldSteps s m ([.ref q] : List Value).toArray below meth c H locs 0 0 Q (F0 m 48 ls []) := by
    intro μ
    induction μ with
    | zero => intro j i cm cf g1 g2 f H locs ls hμ; exact absurd hμ (Nat.not_lt_zero _)
    | succ μ ih =>
      intro j i cm cf g1 g2 f H locs ls hμ hi hj hcm hcf dg1 dg2 s1 s2 v1 v2 hI hT hl
      refine mv_iload B dX0_takeForetoldSteps_48 (lv_at hl 0 rfl) ?_
      refine mv_iload_n B dX0_takeForetoldSteps_50 rfl (lv_at hl 5 rfl) ?_
      refine mv_icmp_ge (tgt := 168) B dX0_takeForetoldSteps_51 (by decide) (by omega) (fun hd0 => ?_) (fun hd0 => ?_)
      · obtain rfl : nm = j := by omega
        rw [eU, dvz] at v1 v2
        have p0 := bp_pos nm
        have w1 := dv_nn dg1
        have w2 := dv_lt dg1
        have w3 := dv_nn dg2
        have w4 := dv_lt dg2
        have z1 : cm = 0 := t_zero p0 (by omega) (by omega)
        have z2 : cf = 0 := t_zero p0 (by omega) (by omega)
        rw [z1, Int.zero_mul, Int.add_zero] at v1
        rw [z2, Int.zero_mul, Int.add_zero] at v2
        refine mv_aload_n B dX0_takeForetoldSteps_168 rfl (lv_at hl 6 rfl) ?_
        refine mw_get (C := RX0) (T := TX0) (N := 7) B hI (hT.get hq (Ne.symm n1) (Ne.symm n3) (Ne.symm n2) (Ne.symm n4)) uin_X0 rfl 1 (by decide) kw_46 rfl dX0_takeForetoldSteps_169 ?_
        refine mv_iload_n B dX0_takeForetoldSteps_172 rfl (lv_at hl 5 rfl) ?_
        refine mw_callv hI hA (va_runV (As := [.int (iI ((nm : Int)))]) (rest := []) B.fix (t_X1_trimTo l D kA H.size f (k := nm) hT.1 hT.2.1 m1 dg1) (cwV 1 B.2.2.2.2.1 (gV kw_255 kw_105 kw_106 kw_2 kw_107) rfl rfl rfl (by decide +kernel) ⟨Nat.le_of_ble_eq_true rfl, Nat.le_of_ble_eq_true rfl⟩) ⟨mw_blind st_S.blind, mw_recv B hI hT.1 rfl, mw_pre B hI (hSt.call hI hA)⟩ rfl rfl hl.1 rfl (lv_room (Nat.le_of_ble_eq_true rfl)) dX0_takeForetoldSteps_173 ⟨Nat.le_of_ble_eq_true rfl, Nat.le_of_ble_eq_true rfl⟩) (fun f H locs hp hI2 => ?_)
        clear hI
        have hI := hI2
        clear hI2
        obtain ⟨n1', a1, a2, a3, hS⟩ := hp
        have hT := hT.h t1 t2 hS
        have e1 := dv_trim a1 a2
        refine mv_aload_n B dX0_takeForetoldSteps_176 rfl (lv_at hl 6 rfl) ?_
        refine mw_get (C := RX0) (T := TX0) (N := 7) B hI (hT.get hq (Ne.symm n1) (Ne.symm n3) (Ne.symm n2) (Ne.symm n4)) uin_X0 rfl 2 (by decide) kw_47 rfl dX0_takeForetoldSteps_177 ?_
        refine mv_iload_n B dX0_takeForetoldSteps_180 rfl (lv_at hl 5 rfl) ?_
        refine mw_callv hI hA (va_runV (As := [.int (iI ((nm : Int)))]) (rest := []) B.fix (t_X1_trimTo l D kA H.size f (k := nm) hT.2.2.1 hT.2.2.2.1 m1 dg2) (cwV 1 B.2.2.2.2.1 (gV kw_255 kw_105 kw_106 kw_2 kw_107) rfl rfl rfl (by decide +kernel) ⟨Nat.le_of_ble_eq_true rfl, Nat.le_of_ble_eq_true rfl⟩) ⟨mw_blind st_S.blind, mw_recv B hI hT.2.2.1 rfl, mw_pre B hI (hSt.call hI hA)⟩ rfl rfl hl.1 rfl (lv_room (Nat.le_of_ble_eq_true rfl)) dX0_takeForetoldSteps_181 ⟨Nat.le_of_ble_eq_true rfl, Nat.le_of_ble_eq_true rfl⟩) (fun f H locs hp hI2 => ?_)
        clear hI
        have hI := hI2
        clear hI2
        obtain ⟨n2', c1, c2, c3, hS⟩ := hp
        have hT := hT.t t1 t2 hS
        have e2 := dv_trim c1 c2
        exact mw_vret B hQ hrt hI ⟨⟨g1, n1', _, hT.1, hT.2.1, rp_of ⟨by omega, dg1.sub a1, a3⟩ (e1.symm.trans v1) (Or.inl ⟨by omega, rfl⟩)⟩, ⟨g2, n2', _, hT.2.2.1, hT.2.2.2.1, rp_of ⟨by omega, dg2.sub c1, c3⟩ (e2.symm.trans v2) (Or.inl ⟨by omega, rfl⟩)⟩, hT.2.2.2.2⟩ dX0_takeForetoldSteps_184
      · have x1 := hzm.2.1 j (by omega)
        have y1 := dgz j (by omega)
        have r1 := s1 j (Nat.le_refl j)
        have r2 := s2 j (Nat.le_refl j)
        have g1x := ab_rng ⟨ba1, ba2⟩ ⟨bb1, bb2⟩ x1 y1
        have g2x := ab_rng ⟨bc1, bc2⟩ ⟨bd1, bd2⟩ x1 y1
        refine mv_aload_n B dX0_takeForetoldSteps_54 rfl (lv_at hl 4 rfl) ?_
        refine mv_iload B dX0_takeForetoldSteps_55 (lv_at hl 0 rfl) ?_
        refine mw_iald B hI 0 hT.2.1 rfl (j) (by omega) (by omega) (by decide) dX0_takeForetoldSteps_57 ?_
        rw [r1]
        refine mv_i2l B dX0_takeForetoldSteps_58 (by omega) ?_
        refine mv_lstore (lv' := [(9, .long (lI (gm j))), (8, .int (iI (i))), (6, .long (lI (cf))), (4, .long (lI (cm))), (3, .ref rfe), (2, .ref rmo), (1, .int (iI ((nm : Int)))), (0, .ref q)]) B dX0_takeForetoldSteps_59 hl (by decide) rfl (fun ls hl => ?_)
        refine mv_aload_n B dX0_takeForetoldSteps_61 rfl (lv_at hl 4 rfl) ?_
        refine mv_iload B dX0_takeForetoldSteps_62 (lv_at hl 1 rfl) ?_
        refine mw_iald B hI 0 hT.2.2.2.1 rfl (j) (by omega) (by omega) (by decide) dX0_takeForetoldSteps_64 ?_
        rw [r2]
        refine mv_i2l B dX0_takeForetoldSteps_65 (by omega) ?_
        refine mv_lstore (lv' := [(11, .long (lI (gz j))), (9, .long (lI (gm j))), (8, .int (iI (i))), (6, .long (lI (cf))), (4, .long (lI (cm))), (3, .ref rfe), (2, .ref rmo), (1, .int (iI ((nm : Int)))), (0, .ref q)]) B dX0_takeForetoldSteps_66 hl (by decide) rfl (fun ls hl => ?_)
        refine mv_aload_n B dX0_takeForetoldSteps_68 rfl (lv_at hl 8 rfl) ?_
        refine mw_get (C := RX0) (T := TX0) (N := 7) B hI (hT.get hq (Ne.symm n1) (Ne.symm n3) (Ne.symm n2) (Ne.symm n4)) uin_X0 rfl 3 (by decide) kw_48 rfl dX0_takeForetoldSteps_69 ?_
        refine mv_lload B dX0_takeForetoldSteps_72 (lv_at hl 1 rfl) ?_
        refine mv_lmul B dX0_takeForetoldSteps_74 ?_
        refine mv_aload_n B dX0_takeForetoldSteps_75 rfl (lv_at hl 8 rfl) ?_
        refine mw_get (C := RX0) (T := TX0) (N := 7) B hI (hT.get hq (Ne.symm n1) (Ne.symm n3) (Ne.symm n2) (Ne.symm n4)) uin_X0 rfl 4 (by decide) kw_49 rfl dX0_takeForetoldSteps_76 ?_
        refine mv_lload B dX0_takeForetoldSteps_79 (lv_at hl 0 rfl) ?_
        refine mv_lmul B dX0_takeForetoldSteps_81 ?_
        refine mv_ladd B dX0_takeForetoldSteps_82 ?_
        refine mv_lload B dX0_takeForetoldSteps_83 (lv_at hl 4 rfl) ?_
        refine mv_ladd B dX0_takeForetoldSteps_85 ?_
        refine mv_ldc2 (z := 1000000000000000000) B dX0_takeForetoldSteps_86 kw_253 (by decide) ?_
        refine mv_ladd B dX0_takeForetoldSteps_89 ?_
        refine mv_nml (fun na hna => ?_)
        refine mv_lstore (lv' := [(13, .long (lI (na))), (11, .long (lI (gz j))), (9, .long (lI (gm j))), (8, .int (iI (i))), (6, .long (lI (cf))), (4, .long (lI (cm))), (3, .ref rfe), (2, .ref rmo), (1, .int (iI ((nm : Int)))), (0, .ref q)]) B dX0_takeForetoldSteps_90 hl (by decide) rfl (fun ls hl => ?_)
        refine mv_aload_n B dX0_takeForetoldSteps_92 rfl (lv_at hl 9 rfl) ?_
        refine mw_get (C := RX0) (T := TX0) (N := 7) B hI (hT.get hq (Ne.symm n1) (Ne.symm n3) (Ne.symm n2) (Ne.symm n4)) uin_X0 rfl 5 (by decide) kw_50 rfl dX0_takeForetoldSteps_93 ?_
        refine mv_lload B dX0_takeForetoldSteps_96 (lv_at hl 2 rfl) ?_
        refine mv_lmul B dX0_takeForetoldSteps_98 ?_
        refine mv_aload_n B dX0_takeForetoldSteps_99 rfl (lv_at hl 9 rfl) ?_
        refine mw_get (C := RX0) (T := TX0) (N := 7) B hI (hT.get hq (Ne.symm n1) (Ne.symm n3) (Ne.symm n2) (Ne.symm n4)) uin_X0 rfl 6 (by decide) kw_51 rfl dX0_takeForetoldSteps_100 ?_
        refine mv_lload B dX0_takeForetoldSteps_103 (lv_at hl 1 rfl) ?_
        refine mv_lmul B dX0_takeForetoldSteps_105 ?_
        refine mv_ladd B dX0_takeForetoldSteps_106 ?_
        refine mv_lload B dX0_takeForetoldSteps_107 (lv_at hl 4 rfl) ?_
        refine mv_ladd B dX0_takeForetoldSteps_109 ?_
        refine mv_ldc2 (z := 1000000000000000000) B dX0_takeForetoldSteps_110 kw_253 (by decide) ?_
        refine mv_ladd B dX0_takeForetoldSteps_113 ?_
        refine mv_nml (fun nb hnb => ?_)
        refine mv_lstore (lv' := [(15, .long (lI (nb))), (13, .long (lI (na))), (11, .long (lI (gz j))), (9, .long (lI (gm j))), (8, .int (iI (i))), (6, .long (lI (cf))), (4, .long (lI (cm))), (3, .ref rfe), (2, .ref rmo), (1, .int (iI ((nm : Int)))), (0, .ref q)]) B dX0_takeForetoldSteps_114 hl (by decide) rfl (fun ls hl => ?_)
        refine mv_lload B dX0_takeForetoldSteps_116 (lv_at hl 1 rfl) ?_
        refine mv_ldc2 (z := 1000000) B dX0_takeForetoldSteps_118 kw_243 (by decide) ?_
        have na1 : 0 ≤ na ∧ na ≤ 2000000000000000000 := by omega
        have nb1 : 0 ≤ nb ∧ nb ≤ 2000000000000000000 := by omega
        refine mv_ldiv B dX0_takeForetoldSteps_121 (by omega) ?_
        refine mv_ldc2 (z := 1000000000000) B dX0_takeForetoldSteps_122 kw_254 (by decide) ?_
        refine mv_lsub B dX0_takeForetoldSteps_125 ?_
        refine mv_lstore (lv' := [(4, .long (lI (((na) / (1000000)) - (1000000000000)))), (15, .long (lI (nb))), (13, .long (lI (na))), (11, .long (lI (gz j))), (9, .long (lI (gm j))), (8, .int (iI (i))), (6, .long (lI (cf))), (3, .ref rfe), (2, .ref rmo), (1, .int (iI ((nm : Int)))), (0, .ref q)]) B dX0_takeForetoldSteps_126 hl (by decide) rfl (fun ls hl => ?_)
        refine mv_lload B dX0_takeForetoldSteps_128 (lv_at hl 1 rfl) ?_
        refine mv_ldc2 (z := 1000000) B dX0_takeForetoldSteps_130 kw_243 (by decide) ?_
        refine mv_ldiv B dX0_takeForetoldSteps_133 (by omega) ?_
        refine mv_ldc2 (z := 1000000000000) B dX0_takeForetoldSteps_134 kw_254 (by decide) ?_
        refine mv_lsub B dX0_takeForetoldSteps_137 ?_
        refine mv_lstore (lv' := [(6, .long (lI (((nb) / (1000000)) - (1000000000000)))), (4, .long (lI (((na) / (1000000)) - (1000000000000)))), (15, .long (lI (nb))), (13, .long (lI (na))), (11, .long (lI (gz j))), (9, .long (lI (gm j))), (8, .int (iI (i))), (3, .ref rfe), (2, .ref rmo), (1, .int (iI ((nm : Int)))), (0, .ref q)]) B dX0_takeForetoldSteps_138 hl (by decide) rfl (fun ls hl => ?_)
        refine mv_aload_n B dX0_takeForetoldSteps_140 rfl (lv_at hl 8 rfl) ?_
        refine mv_iload B dX0_takeForetoldSteps_141 (lv_at hl 6 rfl) ?_
        refine mv_lload B dX0_takeForetoldSteps_143 (lv_at hl 3 rfl) ?_
        refine mv_ldc2 (z := 1000000) B dX0_takeForetoldSteps_145 kw_243 (by decide) ?_
        refine mv_lrem B dX0_takeForetoldSteps_148 (by omega) ?_
        refine mv_l2i B dX0_takeForetoldSteps_149 ?_
        refine ww_iast B hI (wSt.self hT.1 hT.2.1) (j) (by omega) (by omega) dX0_takeForetoldSteps_150 (fun f H locs hS hI => ?_)
        have hT := hT.h t1 t2 hS
        refine mv_aload_n B dX0_takeForetoldSteps_151 rfl (lv_at hl 7 rfl) ?_
        refine mv_iload B dX0_takeForetoldSteps_152 (lv_at hl 6 rfl) ?_
        refine mv_lload B dX0_takeForetoldSteps_154 (lv_at hl 2 rfl) ?_
        refine mv_ldc2 (z := 1000000) B dX0_takeForetoldSteps_156 kw_243 (by decide) ?_
        refine mv_lrem B dX0_takeForetoldSteps_159 (by omega) ?_
        refine mv_l2i B dX0_takeForetoldSteps_160 ?_
        refine ww_iast B hI (wSt.self hT.2.2.1 hT.2.2.2.1) (j) (by omega) (by omega) dX0_takeForetoldSteps_161 (fun f H locs hS hI => ?_)
        have hT := hT.t t1 t2 hS
        refine mv_iinc (k := 6) (lv' := [(8, .int (iI (i + 1))), (6, .long (lI (((nb) / (1000000)) - (1000000000000)))), (4, .long (lI (((na) / (1000000)) - (1000000000000)))), (15, .long (lI (nb))), (13, .long (lI (na))), (11, .long (lI (gz j))), (9, .long (lI (gm j))), (3, .ref rfe), (2, .ref rmo), (1, .int (iI ((nm : Int)))), (0, .ref q)]) B dX0_takeForetoldSteps_162 hl rfl (by decide) rfl (fun ls hl => ?_)
        refine mv_goto (tgt := 48) B dX0_takeForetoldSteps_165 (by decide) ?_
        refine ih (j + 1) _ _ _ _ _ f H locs ls (by omega) (by omega) (by omega) (by omega) (by omega) (dg1.up (by omega)) (dg2.up (by omega)) (fun i h1 => by rw [upI_ne _ _ (by omega)]; exact s1 i (by omega)) (fun i h1 => by rw [upI_ne _ _ (by omega)]; exact s2 i (by omega)) ?_ ?_ hI hT (lv_sub hl [0, 1, 2, 7, 8, 9, 10] rfl)
        · rw [dv_up_s, dv_s, dv_s, bp_s]
          exact fs_step v1 (by omega)
        · rw [dv_up_s, dv_s, dv_s, bp_s]
          exact fs_step v2 (by omega)
  exact loop (nm + 1) 0 _ _ _ gm gz f H locs ls (by omega) rfl (by omega) (by decide) (by decide) hzm.2.1 dgz (fun _ _ => rfl) (fun _ _ => rfl) (by simp [dv_0]) (by simp [dv_0]) hI hT (lv_sub hl [0, 1, 2, 3, 4, 5, 6] rfl)
