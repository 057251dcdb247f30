abbrev rm_X2_squareRoot : Room := { frames := 3, cells := 0, slots := 0, locals := 85 }
set_option maxHeartbeats 4000000 in
set_option maxRecDepth 100000 in
/-- squareRoot -/
theorem t_X2_squareRoot (l : Launch) (D : va_G) (kA : Nat → ClassId) (sz : Nat) (f0 : mw_M) {d sl pa : Nat} {w ra : Nat → Nat} {Y : Nat → Int} {x : Nat} (hD : DK kA f0 d sl pa w ra Y) (hB : ∀ i, i < 16 → ((Y i).natAbs : Int) < 1000000 ^ 50) (hx : x < 16) (hx0 : 0 ≤ Y x) : mw_Mr l yX2_squareRoot (Cond.code yX2_squareRoot cX2_squareRoot 6 ((some (.object "BigDesk$Whole"))) :: gw) rm_X2_squareRoot D vwCl (tyL kA) st_S [.ref d, .ref ((w x))] f0 sz (fun u => ∃ (t : Nat) (Y' : Nat → Int), t < 24 ∧ u.1 = w t ∧ DK kA u.2 d sl pa w ra Y' ∧ (∀ i, i < 16 → Y' i = Y i) ∧ Y' t = sqr (Y x) ∧ ∀ k, ¬ dks d sl pa w ra k → u.2 k = f0 k) 0 0 := by
  refine mw_ofr (cc := cX2_squareRoot) (maxL := 6) (ret := (some (.object "BigDesk$Whole"))) (by decide) rfl (Nat.le_of_ble_eq_true rfl) ?_
  intro p e s m below meth c A ls Q hQ B hrt hnm hA hI hSt hl
  have hl : lv_has ls 6 [(0, .ref d), (1, .ref ((w x)))] := hl
  obtain ⟨f, hI, hf⟩ : ∃ f, mw_I D vwCl A s s.heap [] f ∧ f = f0 := ⟨f0, hI, rfl⟩
  rw [← hf] at hD
  have ho : ∀ k, ¬ dks d sl pa w ra k → f k = f0 k := fun k _ => by rw [hf]
  have hsl : ∀ i, i < 16 → Y i = Y i := fun _ _ => rfl
  refine mv_aload_n B dX2_squareRoot_0 rfl (lv_at hl 0 rfl) ?_
  refine mw_get (C := RX2) (T := TX2) (N := 7) B hI hD.1 uin_X2 rfl 3 (by decide) kw_70 rfl dX2_squareRoot_1 ?_
  refine mv_astore_n (lv' := [(2, .ref ((w 18))), (0, .ref d), (1, .ref ((w x)))]) B dX2_squareRoot_4 rfl hl (by decide) rfl (fun ls hl => ?_)
  refine mv_aload_n B dX2_squareRoot_5 rfl (lv_at hl 1 rfl) ?_
  refine mw_get (C := RX2) (T := TX2) (N := 7) B hI hD.1 uin_X2 rfl 4 (by decide) kw_71 rfl dX2_squareRoot_6 ?_
  refine mv_astore_n (lv' := [(3, .ref ((w 19))), (2, .ref ((w 18))), (0, .ref d), (1, .ref ((w x)))]) B dX2_squareRoot_9 rfl hl (by decide) rfl (fun ls hl => ?_)
  refine mv_aload_n B dX2_squareRoot_10 rfl (lv_at hl 3 rfl) ?_
  obtain ⟨g, n, b_, c1, c2, c3_⟩ := id (hD.rp (i := x) (by omega))
  have m1 := c3_.1
  have hz0 := c3_.zero
  refine mw_calli hI hA (va_runV (As := []) (rest := []) B.fix (t_X1_isZero l D kA s.heap.size f c1 (by omega)) (cwV 0 B.2.2.2.2.1 (gV kw_190 kw_191 kw_192 kw_2 kw_193) rfl rfl rfl (by decide +kernel) ⟨Nat.le_of_ble_eq_true rfl, Nat.le_of_ble_eq_true rfl⟩) ⟨mw_blind st_S.blind, mw_recv B hI c1 rfl, mw_pre B hI (hSt.call hI hA)⟩ rfl rfl hl.1 rfl (lv_room (Nat.le_of_ble_eq_true rfl)) dX2_squareRoot_11 ⟨Nat.le_of_ble_eq_true rfl, Nat.le_of_ble_eq_true rfl⟩) (fun r f H locs hp hI2 => ?_)
  clear hI
  have hI := hI2
  clear hI2
  obtain ⟨rfl, rfl⟩ := hp
  have b5 := b50
  have bx := hB x hx
  have sq := sqr_in hx0
  refine mv_if_eq (tgt := 19) B dX2_squareRoot_14 (by decide) (by split <;> omega) (fun hc => ?_) (fun hc => ?_)
  · have hnz : Y x ≠ 0 := fun q => by rw [if_pos (by have := hz0.mp q; omega)] at hc; exact absurd hc (by decide)
    have s1 : 1 ≤ sqr (Y x) := by
      rcases Int.lt_or_le 0 (sqr (Y x)) with q | q
      · omega
      · have q0 : sqr (Y x) = 0 := by omega
        rw [q0] at sq
        omega
    have s26 : sqr (Y x) < 1000000 ^ 26 := by
      refine sq_lt sq.1 (by decide) ?_
      have e52 : (1000000 : Int) ^ 26 * 1000000 ^ 26 = 1000000 ^ 52 := by decide
      have e50 : (1000000 : Int) ^ 50 < 1000000 ^ 52 := by decide
      omega
    refine mv_aload_n B dX2_squareRoot_19 rfl (lv_at hl 1 rfl) ?_
    refine mv_aload_n B dX2_squareRoot_20 rfl (lv_at hl 3 rfl) ?_
    obtain ⟨_, _, _, cg, -, -⟩ := id (hD.rp (i := 18) (by omega))
    refine mw_callv hI hA (va_runV (As := [.ref ((w x))]) (rest := []) B.fix (t_X1_loadAboveRoot l D kA H.size f (hD.rp (i := 18) (by omega)).w (hD.rp (i := x) (by omega)) (hD.ne (i := x) (j := 18) (by omega) (by omega) (by omega)).1 (hD.ne (i := x) (j := 18) (by omega) (by omega) (by omega)).2 (by omega) (by rw [hsl _ hx]; exact bx)) (cwV 1 B.2.2.2.2.1 (gV kw_264 kw_265 kw_266 kw_2 kw_267) rfl rfl rfl (by decide +kernel) ⟨Nat.le_of_ble_eq_true rfl, Nat.le_of_ble_eq_true rfl⟩) ⟨mw_blind st_S.blind, mw_recv B hI cg rfl, mw_pre B hI (hSt.call hI hA)⟩ rfl rfl hl.1 rfl (lv_room (Nat.le_of_ble_eq_true rfl)) dX2_squareRoot_21 ⟨Nat.le_of_ble_eq_true rfl, Nat.le_of_ble_eq_true rfl⟩) (fun f H locs hp hI2 => ?_)
    clear hI
    have hI := hI2
    clear hI2
    obtain ⟨⟨G0, hR, hG1, hG2⟩, o1⟩ := hp
    have hp := And.intro hR o1
    obtain ⟨hR, o1⟩ := hp
    have ho : ∀ k, ¬ dks d sl pa w ra k → f k = f0 k := fun k h => (o1 k (dks_w h (show 18 < 24 by omega)).1 (dks_w h (show 18 < 24 by omega)).2).trans (ho k h)
    obtain ⟨Y1, hY1, hD⟩ : ∃ Z, Z = upI Y (18) (G0) ∧ DK kA f d sl pa w ra Z := ⟨_, rfl, hD.upd (t := 18) (by omega) hR o1⟩
    have v1 : Y1 (18) = G0 := by rw [hY1, upI_self]
    have r1 : ∀ i, i ≠ 18 → Y1 i = Y i := fun i hi => by rw [hY1, upI_ne _ _ hi]
    have hsl : ∀ i, i < 16 → Y1 i = Y i := fun i hi => (r1 i (by omega)).trans (hsl i hi)
    have hG3 := hG2 _ sq.1 sq.2.1 sq.2.2
    refine mv_iconst B dX2_squareRoot_24 ?_
    refine mv_istore (lv' := [(4, .int (iI (0))), (3, .ref ((w 19))), (2, .ref ((w 18))), (0, .ref d), (1, .ref ((w x)))]) B dX2_squareRoot_25 hl (by decide) rfl (fun ls hl => ?_)
    have loop : ∀ (μ : Nat) (j : Nat) (i : Int) (gu nu : Nat) (Yc : Nat → Int) (f : mw_M) (H : Heap) (locs : List Loc) (ls : Array Slot), 64 - j < μ → i = (j : Int) → j ≤ 64 → (gu = 18 ∧ nu = 19 ∨ gu = 19 ∧ nu = 18) → DK kA f d sl pa w ra Yc → (∀ i, i < 16 → Yc i = Y i) → nwI (sqr (Y x)) (Yc gu - sqr (Y x)) j → Yc gu < 1000000 ^ 27 → (∀ k, ¬ dks d sl pa w ra k → f k = f0 k) → mw_I D vwCl A s H locs f → lv_has ls 6 [(4, .int (iI (i))), (3, .ref ((w nu))), (2, .ref ((w gu))), (0, .ref d), (1, .ref ((w x)))] → W p l e rm_X2_squareRoot s m ([.ref d, .ref ((w x))] : List Value).toArray below meth c H locs 0 0 Q (F0 m 27 ls []) := by
      intro μ
      induction μ with
      | zero => intro j i gu nu Yc f H locs ls hμ; exact absurd hμ (Nat.not_lt_zero _)
      | succ μ ih =>
        intro j i gu nu Yc f H locs ls hμ hi hj hgn hD hsl hnw hgb ho hI hl
        have g0 := hnw.1
        have e103 : (1000000 : Int) ^ 27 + 1000000 ^ 50 < 1000000 ^ 103 := by decide
        have e27 : (1000000 : Int) ^ 27 < 1000000 ^ 103 := by decide
        refine mv_iload B dX2_squareRoot_27 (lv_at hl 0 rfl) ?_
        refine mv_bipush B dX2_squareRoot_29 (by decide) ?_
        have hsl0 := hsl
        refine mv_icmp_ge (tgt := 92) B dX2_squareRoot_31 (by decide) (by omega) (fun hd0 => ?_) (fun hd0 => ?_)
        · exact (nwI_end hnw (by omega)).elim
        · refine mv_aload_n B dX2_squareRoot_34 rfl (lv_at hl 3 rfl) ?_
          refine mw_get (C := RX2) (T := TX2) (N := 7) B hI hD.1 uin_X2 rfl 1 (by decide) kw_68 rfl dX2_squareRoot_35 ?_
          refine mv_aload_n B dX2_squareRoot_38 rfl (lv_at hl 4 rfl) ?_
          obtain ⟨_, _, _, cc, -, -⟩ := id (hD.rp (i := 16) (by omega))
          refine mw_callv hI hA (va_runV (As := [.ref ((w x))]) (rest := []) B.fix (t_X1_take l D kA H.size f (hD.rp (i := 16) (by omega)).w (hD.rp (i := x) (by omega)) (Or.inr (hD.ne (i := x) (j := 16) (by omega) (by omega) (by omega)))) (cwV 1 B.2.2.2.2.1 (gV kw_152 kw_153 kw_154 kw_2 kw_155) rfl rfl rfl (by decide +kernel) ⟨Nat.le_of_ble_eq_true rfl, Nat.le_of_ble_eq_true rfl⟩) ⟨mw_blind st_S.blind, mw_recv B hI cc rfl, mw_pre B hI (hSt.call hI hA)⟩ rfl rfl hl.1 rfl (lv_room (Nat.le_of_ble_eq_true rfl)) dX2_squareRoot_39 ⟨Nat.le_of_ble_eq_true rfl, Nat.le_of_ble_eq_true rfl⟩) (fun f H locs hp hI2 => ?_)
          clear hI
          have hI := hI2
          clear hI2
          obtain ⟨hR, o1⟩ := hp
          have ho : ∀ k, ¬ dks d sl pa w ra k → f k = f0 k := fun k h => (o1 k (dks_w h (show 16 < 24 by omega)).1 (dks_w h (show 16 < 24 by omega)).2).trans (ho k h)
          obtain ⟨Y11, hY11, hD⟩ : ∃ Z, Z = upI Yc (16) (Yc (x)) ∧ DK kA f d sl pa w ra Z := ⟨_, rfl, hD.upd (t := 16) (by omega) hR o1⟩
          have v11 : Y11 (16) = Yc (x) := by rw [hY11, upI_self]
          have r11 : ∀ i, i ≠ 16 → Y11 i = Yc i := fun i hi => by rw [hY11, upI_ne _ _ hi]
          have hsl : ∀ i, i < 16 → Y11 i = Y i := fun i hi => (r11 i (by omega)).trans (hsl i hi)
          refine mv_aload_n B dX2_squareRoot_42 rfl (lv_at hl 3 rfl) ?_
          refine mw_get (C := RX2) (T := TX2) (N := 7) B hI hD.1 uin_X2 rfl 1 (by decide) kw_68 rfl dX2_squareRoot_43 ?_
          refine mv_aload_n B dX2_squareRoot_46 rfl (lv_at hl 2 rfl) ?_
          refine mv_aload_n B dX2_squareRoot_47 rfl (lv_at hl 3 rfl) ?_
          refine mw_get (C := RX2) (T := TX2) (N := 7) B hI hD.1 uin_X2 rfl 5 (by decide) kw_72 rfl dX2_squareRoot_48 ?_
          have eg1 : Y11 gu = Yc gu := r11 _ (by omega)
          obtain ⟨_, _, _, cc, -, -⟩ := id (hD.rp (i := 16) (by omega))
          refine mw_callv hI hA (va_runV (As := [.ref ((w gu)), .ref ((w 20))]) (rest := []) B.fix (t_X1_divideBy l D kA H.size f (hD.rp (i := 16) (by omega)) (hD.rp (i := gu) (by omega)) (hD.rp (i := 20) (by omega)).w (hD.ne (i := gu) (j := 16) (by omega) (by omega) (by omega)).1 (hD.ne (i := gu) (j := 16) (by omega) (by omega) (by omega)).2 (hD.ne (i := 20) (j := 16) (by omega) (by omega) (by omega)).1 (hD.ne (i := 20) (j := 16) (by omega) (by omega) (by omega)).2 (hD.ne (i := 20) (j := gu) (by omega) (by omega) (by omega)).1 (hD.ne (i := 20) (j := gu) (by omega) (by omega) (by omega)).2 (by rw [eg1]; omega) (by rw [v11, hsl0 x hx]; omega)) (cwV 2 B.2.2.2.2.1 (gV kw_194 kw_195 kw_196 kw_2 kw_197) rfl rfl rfl (by decide +kernel) ⟨Nat.le_of_ble_eq_true rfl, Nat.le_of_ble_eq_true rfl⟩) ⟨mw_blind st_S.blind, mw_recv B hI cc rfl, mw_pre B hI (hSt.call hI hA)⟩ rfl rfl hl.1 rfl (lv_room (Nat.le_of_ble_eq_true rfl)) dX2_squareRoot_51 ⟨Nat.le_of_ble_eq_true rfl, Nat.le_of_ble_eq_true rfl⟩) (fun f H locs hp hI2 => ?_)
          clear hI
          have hI := hI2
          clear hI2
          obtain ⟨hR, hR2, o1⟩ := hp
          have ho : ∀ k, ¬ dks d sl pa w ra k → f k = f0 k := fun k h => (o1 k (dks_w h (show 16 < 24 by omega)).1 (dks_w h (show 16 < 24 by omega)).2 (dks_w h (show 20 < 24 by omega)).1 (dks_w h (show 20 < 24 by omega)).2).trans (ho k h)
          obtain ⟨Y12, hY12, hD⟩ : ∃ Z, Z = upI (upI Y11 (16) ((Y11 (16)).tmod (Y11 (gu)))) (20) ((Y11 (16)).tdiv (Y11 (gu))) ∧ DK kA f d sl pa w ra Z := ⟨_, rfl, hD.upd2 (t := 16) (u := 20) (by omega) (by omega) (by omega) hR hR2 o1⟩
          have v12 : Y12 (16) = (Y11 (16)).tmod (Y11 (gu)) := by rw [hY12, upI_ne _ _ (by omega), upI_self]
          have u12 : Y12 (20) = (Y11 (16)).tdiv (Y11 (gu)) := by rw [hY12, upI_self]
          have r12 : ∀ i, i ≠ 16 → i ≠ 20 → Y12 i = Y11 i := fun i hi hj => by rw [hY12, upI_ne _ _ hj, upI_ne _ _ hi]
          have hsl : ∀ i, i < 16 → Y12 i = Y i := fun i hi => (r12 i (by omega) (by omega)).trans (hsl i hi)
          rw [v11, eg1] at u12
          have eg2 : Y12 gu = Yc gu := by rw [r12 _ (by omega) (by omega)]; exact eg1
          have u12 : Y12 20 = Y x / Yc gu := by rw [u12, hsl0 x hx]; exact Int.tdiv_eq_ediv_of_nonneg hx0
          have qb : 0 ≤ Y x / Yc gu ∧ Y x / Yc gu ≤ Y x := ⟨Int.ediv_nonneg hx0 (by omega), Int.ediv_le_self _ hx0⟩
          refine mv_aload_n B dX2_squareRoot_54 rfl (lv_at hl 1 rfl) ?_
          refine mv_aload_n B dX2_squareRoot_55 rfl (lv_at hl 2 rfl) ?_
          refine mv_aload_n B dX2_squareRoot_56 rfl (lv_at hl 3 rfl) ?_
          refine mw_get (C := RX2) (T := TX2) (N := 7) B hI hD.1 uin_X2 rfl 5 (by decide) kw_72 rfl dX2_squareRoot_57 ?_
          refine mv_iconst B dX2_squareRoot_60 ?_
          obtain ⟨_, _, _, cc, -, -⟩ := id (hD.rp (i := nu) (by omega))
          refine mw_callv hI hA (va_runV (As := [.ref ((w gu)), .ref ((w 20)), .int (iI (0))]) (rest := []) B.fix (t_X1_takeSum l D kA H.size f (hD.rp (i := nu) (by omega)).w (hD.rp (i := gu) (by omega)) (hD.rp (i := 20) (by omega)) (hD.ne (i := gu) (j := nu) (by omega) (by omega) (by omega)).1 (hD.ne (i := gu) (j := nu) (by omega) (by omega) (by omega)).2 (hD.ne (i := 20) (j := nu) (by omega) (by omega) (by omega)).1 (hD.ne (i := 20) (j := nu) (by omega) (by omega) (by omega)).2 (by omega) (by rw [eg2]; omega) (by rw [u12]; omega)) (cwV 3 B.2.2.2.2.1 (gV kw_123 kw_124 kw_125 kw_2 kw_126) rfl rfl rfl (by decide +kernel) ⟨Nat.le_of_ble_eq_true rfl, Nat.le_of_ble_eq_true rfl⟩) ⟨mw_blind st_S.blind, mw_recv B hI cc rfl, mw_pre B hI (hSt.call hI hA)⟩ rfl rfl hl.1 rfl (lv_room (Nat.le_of_ble_eq_true rfl)) dX2_squareRoot_61 ⟨Nat.le_of_ble_eq_true rfl, Nat.le_of_ble_eq_true rfl⟩) (fun f H locs hp hI2 => ?_)
          clear hI
          have hI := hI2
          clear hI2
          obtain ⟨hR, o1⟩ := hp
          have ho : ∀ k, ¬ dks d sl pa w ra k → f k = f0 k := fun k h => (o1 k (dks_w h (show nu < 24 by omega)).1 (dks_w h (show nu < 24 by omega)).2).trans (ho k h)
          obtain ⟨Y13, hY13, hD⟩ : ∃ Z, Z = upI Y12 (nu) (if (0 : Int) = 0 then Y12 (gu) + Y12 (20) else Y12 (gu) - Y12 (20)) ∧ DK kA f d sl pa w ra Z := ⟨_, rfl, hD.upd (t := nu) (by omega) hR o1⟩
          have v13 : Y13 (nu) = if (0 : Int) = 0 then Y12 (gu) + Y12 (20) else Y12 (gu) - Y12 (20) := by rw [hY13, upI_self]
          have r13 : ∀ i, i ≠ nu → Y13 i = Y12 i := fun i hi => by rw [hY13, upI_ne _ _ hi]
          have hsl : ∀ i, i < 16 → Y13 i = Y i := fun i hi => (r13 i (by omega)).trans (hsl i hi)
          have v13 : Y13 nu = Yc gu + Y x / Yc gu := by rw [v13, if_pos rfl, eg2, u12]
          have eg3 : Y13 gu = Yc gu := by rw [r13 _ (by omega)]; exact eg2
          refine mv_aload_n B dX2_squareRoot_64 rfl (lv_at hl 1 rfl) ?_
          obtain ⟨_, _, _, cc, -, -⟩ := id (hD.rp (i := nu) (by omega))
          refine mw_callv hI hA (va_runV (As := []) (rest := []) B.fix (t_X1_halve l D kA H.size f (hD.rp (i := nu) (by omega)) (by rw [v13]; omega)) (cwV 0 B.2.2.2.2.1 (gV kw_273 kw_274 kw_275 kw_2 kw_276) rfl rfl rfl (by decide +kernel) ⟨Nat.le_of_ble_eq_true rfl, Nat.le_of_ble_eq_true rfl⟩) ⟨mw_blind st_S.blind, mw_recv B hI cc rfl, mw_pre B hI (hSt.call hI hA)⟩ rfl rfl hl.1 rfl (lv_room (Nat.le_of_ble_eq_true rfl)) dX2_squareRoot_65 ⟨Nat.le_of_ble_eq_true rfl, Nat.le_of_ble_eq_true rfl⟩) (fun f H locs hp hI2 => ?_)
          clear hI
          have hI := hI2
          clear hI2
          obtain ⟨hR, o1⟩ := hp
          have ho : ∀ k, ¬ dks d sl pa w ra k → f k = f0 k := fun k h => (o1 k (dks_w h (show nu < 24 by omega)).1 (dks_w h (show nu < 24 by omega)).2).trans (ho k h)
          obtain ⟨Y14, hY14, hD⟩ : ∃ Z, Z = upI Y13 (nu) (Y13 nu / 2) ∧ DK kA f d sl pa w ra Z := ⟨_, rfl, hD.upd (t := nu) (by omega) hR o1⟩
          have v14 : Y14 (nu) = Y13 nu / 2 := by rw [hY14, upI_self]
          have r14 : ∀ i, i ≠ nu → Y14 i = Y13 i := fun i hi => by rw [hY14, upI_ne _ _ hi]
          have hsl : ∀ i, i < 16 → Y14 i = Y i := fun i hi => (r14 i (by omega)).trans (hsl i hi)
          have v14 : Y14 nu = (Yc gu + Y x / Yc gu) / 2 := by rw [v14, v13]
          have eg4 : Y14 gu = Yc gu := by rw [r14 _ (by omega)]; exact eg3
          refine mv_aload_n B dX2_squareRoot_68 rfl (lv_at hl 1 rfl) ?_
          refine mv_aload_n B dX2_squareRoot_69 rfl (lv_at hl 2 rfl) ?_
          obtain ⟨g1, m1, b1, e1, e2, e3⟩ := id (hD.rp (i := nu) (by omega))
          obtain ⟨g2, m2, b2, e4, e5, e6⟩ := id (hD.rp (i := gu) (by omega))
          refine mw_calli hI hA (va_runV (As := [.ref ((w gu))]) (rest := []) B.fix (t_X1_compareParts l D kA H.size f e1 e2 e4 e5 e3.toCn e6.toCn) (cwV 1 B.2.2.2.2.1 (gV kw_277 kw_128 kw_129 kw_2 kw_130) rfl rfl rfl (by decide +kernel) ⟨Nat.le_of_ble_eq_true rfl, Nat.le_of_ble_eq_true rfl⟩) ⟨mw_blind st_S.blind, mw_recv B hI e1 rfl, mw_pre B hI (hSt.call hI hA)⟩ rfl rfl hl.1 rfl (lv_room (Nat.le_of_ble_eq_true rfl)) dX2_squareRoot_70 ⟨Nat.le_of_ble_eq_true rfl, Nat.le_of_ble_eq_true rfl⟩) (fun r f H locs hp hI2 => ?_)
          clear hI
          have hI := hI2
          clear hI2
          obtain ⟨rfl, rfl⟩ := hp
          have n1 := e3.nat
          have n2 := e6.nat
          have cc3 := c3_in (dv g1 m1) (dv g2 m2)
          rw [v14] at n1
          rw [eg4] at n2
          have ge := nw_ge (x := Y x) (s := sqr (Y x)) (g := Yc gu) (by omega) sq.2.1 sq.1
          refine mv_if_lt (tgt := 78) B dX2_squareRoot_73 (by decide) (by omega) (fun hd3 => ?_) (fun hd3 => ?_)
          · refine mv_aload_n B dX2_squareRoot_78 rfl (lv_at hl 2 rfl) ?_
            refine mv_astore (lv' := [(5, .ref ((w gu))), (4, .int (iI (i))), (3, .ref ((w nu))), (2, .ref ((w gu))), (0, .ref d), (1, .ref ((w x)))]) B dX2_squareRoot_79 hl (by decide) rfl (fun ls hl => ?_)
            refine mv_aload_n B dX2_squareRoot_81 rfl (lv_at hl 2 rfl) ?_
            refine mv_astore_n (lv' := [(2, .ref ((w nu))), (5, .ref ((w gu))), (4, .int (iI (i))), (3, .ref ((w nu))), (0, .ref d), (1, .ref ((w x)))]) B dX2_squareRoot_82 rfl hl (by decide) rfl (fun ls hl => ?_)
            refine mv_aload B dX2_squareRoot_83 (lv_at hl 1 rfl) ?_
            refine mv_astore_n (lv' := [(3, .ref ((w gu))), (2, .ref ((w nu))), (5, .ref ((w gu))), (4, .int (iI (i))), (0, .ref d), (1, .ref ((w x)))]) B dX2_squareRoot_85 rfl hl (by decide) rfl (fun ls hl => ?_)
            refine mv_iinc (k := 3) (lv' := [(4, .int (iI (i + 1))), (3, .ref ((w gu))), (2, .ref ((w nu))), (5, .ref ((w gu))), (0, .ref d), (1, .ref ((w x)))]) B dX2_squareRoot_86 hl rfl (by decide) rfl (fun ls hl => ?_)
            refine mv_goto (tgt := 27) B dX2_squareRoot_89 (by decide) ?_
            exact ih (j + 1) _ nu gu Y14 f H locs ls (by omega) (by omega) (by omega) (by omega) hD hsl (by rw [v14]; exact nwI_step sq.1 s26 hnw (by omega) (by omega) (nw_near (by omega) (by omega) sq.2.1 sq.2.2)) (by rw [v14]; omega) ho hI (lv_sub hl [0, 1, 2, 4, 5] rfl)
          · refine mv_aload_n B dX2_squareRoot_76 rfl (lv_at hl 2 rfl) ?_
            have hfin : Yc gu = sqr (Y x) := by
              rcases Int.lt_or_le (sqr (Y x)) (Yc gu) with q | q
              · have := nw_lt q sq.1 sq.2.2; omega
              · omega
            exact mw_aret B hQ hrt hI ⟨gu, Y14, by omega, rfl, hD, hsl, by rw [eg4]; exact hfin, ho⟩ dX2_squareRoot_77
    exact loop 65 0 _ 18 19 Y1 f H locs ls (by decide) rfl (by decide) (Or.inl ⟨rfl, rfl⟩) hD hsl (by rw [v1]; exact nwI_0 (by omega) (by omega)) (by rw [v1]; exact hG1) ho hI (lv_sub hl [0, 1, 2, 3, 4] rfl)
  · have hzz : Y x = 0 := by
      by_cases q : (n : Int) = 0
      · exact hz0.mpr (by omega)
      · rw [if_neg q] at hc; exact absurd rfl hc
    refine mv_aload_n B dX2_squareRoot_17 rfl (lv_at hl 3 rfl) ?_
    exact mw_aret B hQ hrt hI ⟨x, Y, by omega, rfl, hD, hsl, by rw [hzz]; rfl, ho⟩ dX2_squareRoot_18
abbrev rm_X2_root : Room := { frames := 4, cells := 0, slots := 0, locals := 110 }
set_option maxHeartbeats 4000000 in
set_option maxRecDepth 100000 in
/-- root -/
theorem t_X2_root (l : Launch) (D : va_G) (kA : Nat → ClassId) (sz : Nat) (f0 : mw_M) {d sl pa : Nat} {w ra : Nat → Nat} {Y : Nat → Int} {a t : Int} (hD : DK kA f0 d sl pa w ra Y) (hB : ∀ i, i < 16 → ((Y i).natAbs : Int) < 1000000 ^ 50) (ha : -2147483648 ≤ a ∧ a ≤ 2147483647) (ht : -2147483648 ≤ t ∧ t ≤ 2147483647) : mw_Mi l yX2_root (Cond.code yX2_root cX2_root 3 ((some .int)) :: gw) rm_X2_root D vwCl (tyL kA) st_S [.ref d, .int (iI (a)), .int (iI (t))] f0 sz (fun v f => v = iI (sp_root Y a t).1 ∧ (∃ Y', DK kA f d sl pa w ra Y' ∧ ∀ i, i < 16 → Y' i = (sp_root Y a t).2 i) ∧ ∀ k, ¬ dks d sl pa w ra k → f k = f0 k) 0 0 := by
  refine mw_ofi (cc := cX2_root) (maxL := 3) (ret := (some .int)) (by decide) rfl (Nat.le_of_ble_eq_true rfl) ?_
  intro p e s m below meth c A ls Q hQ B hrt hnm hA hI hSt hl
  have hl : lv_has ls 3 [(0, .ref d), (1, .int (iI (a))), (2, .int (iI (t)))] := hl
  obtain ⟨f, hI, hf⟩ : ∃ f, mw_I D vwCl A s s.heap [] f ∧ f = f0 := ⟨f0, hI, rfl⟩
  rw [← hf] at hD
  have ho : ∀ k, ¬ dks d sl pa w ra k → f k = f0 k := fun k _ => by rw [hf]
  have hsl : ∀ i, i < 16 → Y i = Y i := fun _ _ => rfl
  refine mv_iload_n B dX2_root_0 rfl (lv_at hl 1 rfl) ?_
  refine mv_iload_n B dX2_root_1 rfl (lv_at hl 2 rfl) ?_
  refine mw_calli hI hA (va_runS (As := [.int (iI (a)), .int (iI (t))]) (rest := []) B.fix (t_X2_areSlots l D kA s.heap.size f ha ht) (cwS 2 B.2.2.2.2.1 (gS kw_163 kw_164 kw_1 kw_165) rfl rfl rfl (by decide +kernel) ⟨Nat.le_of_ble_eq_true rfl, Nat.le_of_ble_eq_true rfl⟩) ⟨mw_blind st_S.blind, mw_pre B hI (hSt.call hI hA)⟩ rfl rfl hl.1 rfl (lv_room (Nat.le_of_ble_eq_true rfl)) dX2_root_2 ⟨Nat.le_of_ble_eq_true rfl, Nat.le_of_ble_eq_true rfl⟩) (fun r f H locs hp hI2 => ?_)
  clear hI
  have hI := hI2
  clear hI2
  obtain ⟨rfl, rfl⟩ := hp
  refine mv_if_eq (tgt := 20) B dX2_root_5 (by decide) (by split <;> omega) (fun hc => ?_) (fun hc => ?_)
  · have h1 : ¬ (sOk a ∧ sOk t) := fun q => by rw [if_pos q] at hc; exact absurd hc (by decide)
    refine mv_iconst B dX2_root_20 ?_
    have e9 : sp_root Y a t = (-1, Y) := by unfold sp_root; rw [if_neg (fun q => h1 ⟨q.1, q.2.1⟩)]
    exact mw_iret B hQ hrt hI ⟨by rw [e9], ⟨_, hD, fun i hi => (hsl i hi).trans (by rw [e9])⟩, ho⟩ dX2_root_21
  · have h1 : sOk a ∧ sOk t := by
      by_cases q : sOk a ∧ sOk t
      · exact q
      · rw [if_neg q] at hc; exact absurd rfl hc
    refine mv_aload_n B dX2_root_8 rfl (lv_at hl 0 rfl) ?_
    refine mw_get (C := RX2) (T := TX2) (N := 7) B hI hD.1 uin_X2 rfl 0 (by decide) kw_67 rfl dX2_root_9 ?_
    refine mv_iload_n B dX2_root_12 rfl (lv_at hl 1 rfl) ?_
    obtain ⟨gs, hs1, hs2⟩ := hD.2.1
    refine mw_aald B hI 1 hs1 rfl (a.toNat) (by omega) (by omega) (by decide) (hs2 _ (by omega)) dX2_root_13 ?_
    obtain ⟨gA, nA, bA, cA, -, zA⟩ := id (hD.rp (i := a.toNat) (by omega))
    have qA := zA.b0
    refine ww_below B hI cA uin_X1 kw_28 dX2_root_14 ?_
    refine mv_if_eq (tgt := 22) B dX2_root_17 (by decide) (by omega) (fun hc2 => ?_) (fun hc2 => ?_)
    · refine mv_aload_n B dX2_root_22 rfl (lv_at hl 0 rfl) ?_
      refine mv_aload_n B dX2_root_23 rfl (lv_at hl 0 rfl) ?_
      refine mv_aload_n B dX2_root_24 rfl (lv_at hl 0 rfl) ?_
      refine mw_get (C := RX2) (T := TX2) (N := 7) B hI hD.1 uin_X2 rfl 0 (by decide) kw_67 rfl dX2_root_25 ?_
      refine mv_iload_n B dX2_root_28 rfl (lv_at hl 1 rfl) ?_
      obtain ⟨gs, hs1, hs2⟩ := hD.2.1
      refine mw_aald B hI 1 hs1 rfl (a.toNat) (by omega) (by omega) (by decide) (hs2 _ (by omega)) dX2_root_29 ?_
      refine mw_callr hI hA (va_runV (As := [.ref ((w (a.toNat)))]) (rest := [.ref d]) B.fix (t_X2_squareRoot l D kA H.size f (x := a.toNat) hD hB (by omega) (by omega)) (cwV 1 B.2.2.2.2.1 (gV kw_260 kw_262 ks_13 kw_1 kw_263) rfl rfl rfl (by decide +kernel) ⟨Nat.le_of_ble_eq_true rfl, Nat.le_of_ble_eq_true rfl⟩) ⟨mw_blind st_S.blind, mw_recv B hI hD.1 rfl, mw_pre B hI (hSt.call hI hA)⟩ rfl rfl hl.1 rfl (lv_room (Nat.le_of_ble_eq_true rfl)) dX2_root_30 ⟨Nat.le_of_ble_eq_true rfl, Nat.le_of_ble_eq_true rfl⟩) (fun r f H locs hp hI2 => ?_)
      clear hI
      have hI := hI2
      clear hI2
      obtain ⟨u1, Y1, hu1, hu2, hD, hsl, hv, o1⟩ := hp
      dsimp only at hu2 hD o1
      subst hu2
      have ho : ∀ k, ¬ dks d sl pa w ra k → f k = f0 k := fun k h => (o1 k h).trans (ho k h)
      refine mv_iload_n B dX2_root_33 rfl (lv_at hl 2 rfl) ?_
      refine mw_calli hI hA (va_runV (As := [.ref ((w u1)), .int (iI (t))]) (rest := []) B.fix (t_X2_keep l D kA H.size f (t := u1) hD (fun i hi => by rw [hsl i hi]; exact hB i hi) (by omega) h1.2) (cwV 2 B.2.2.2.2.1 (gV kw_144 kw_146 ks_2 kw_1 kw_147) rfl rfl rfl (by decide +kernel) ⟨Nat.le_of_ble_eq_true rfl, Nat.le_of_ble_eq_true rfl⟩) ⟨mw_blind st_S.blind, mw_recv B hI hD.1 rfl, mw_pre B hI (hSt.call hI hA)⟩ rfl rfl hl.1 rfl (lv_room (Nat.le_of_ble_eq_true rfl)) dX2_root_34 ⟨Nat.le_of_ble_eq_true rfl, Nat.le_of_ble_eq_true rfl⟩) (fun r f H locs hp hI2 => ?_)
      clear hI
      have hI := hI2
      clear hI2
      obtain ⟨rfl, hD, o1⟩ := hp
      have ho : ∀ k, ¬ dks d sl pa w ra k → f k = f0 k := fun k h => (o1 k h).trans (ho k h)
      have e9 : sp_root Y a t = kp Y (t) (sqr (Y a.toNat)) := by unfold sp_root; rw [if_pos ⟨h1.1, h1.2, by omega⟩]
      have e7 : Y1 (u1) = sqr (Y a.toNat) := by exact hv
      have e8 := kp_same (x := t) e7 hsl
      exact mw_iret B hQ hrt hI ⟨(congrArg iI e8.1).trans (by rw [e9]), ⟨_, hD, fun i hi => (e8.2 i hi).trans (by rw [e9])⟩, ho⟩ dX2_root_37
    · refine mv_iconst B dX2_root_20 ?_
      have e9 : sp_root Y a t = (-1, Y) := by unfold sp_root; rw [if_neg (fun q => by omega)]
      exact mw_iret B hQ hrt hI ⟨by rw [e9], ⟨_, hD, fun i hi => (hsl i hi).trans (by rw [e9])⟩, ho⟩ dX2_root_21
