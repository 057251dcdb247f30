abbrev rm_X0_init : Room := { frames := 2, cells := 6, slots := 321, locals := 44 }
set_option maxHeartbeats 4000000 in
set_option maxRecDepth 100000 in
/-- Pair() -/
theorem t_X0_init (l : Launch) (D : va_G) (kA : Nat → ClassId) (sz : Nat) (f0 : mw_M) {q : Nat} (hq : f0 q = some (.inr (0, [.null, .null, .null, .long (lI 0), .long (lI 0), .long (lI 0), .long (lI 0)]))) : mw_Mv l yX0_init (Cond.code yX0_init cX0_init 1 (none) :: gw) rm_X0_init D vwCl (tyL kA) st_S [.ref q] f0 sz (fun f => ∃ w ra : Nat → Nat, f q = some (prc (w 0) (w 1) (w 2) 0 0 0 0) ∧ (∀ i, i < 3 → f (w i) = some (wh (ra i) 0 0) ∧ f (ra i) = some (mw_ar (kA 0) 104 (fun _ => 0)) ∧ f0 (w i) = none ∧ f0 (ra i) = none) ∧ (∀ i j, i < 3 → j < 3 → i ≠ j → w i ≠ w j ∧ ra i ≠ ra j) ∧ ∀ k, k ≠ q → (∀ i, i < 3 → k ≠ w i ∧ k ≠ ra i) → f k = f0 k) 6 321 := by
  refine mw_ofv (cc := cX0_init) (maxL := 1) (ret := none) (by decide) rfl (Nat.le_of_ble_eq_true rfl) ?_
  intro p e s m below meth c A ls Q hQ B hrt hnm hA hI hSt hl
  have hl : lv_has ls 1 [(0, .ref q)] := hl
  obtain ⟨f, hI, hf⟩ : ∃ f, mw_I D vwCl A s s.heap [] f ∧ f = f0 := ⟨f0, hI, rfl⟩
  have hq1 : f q = some (.inr (0, [.null, .null, .null, .long (lI 0), .long (lI 0), .long (lI 0), .long (lI 0)])) := by rw [hf]; exact hq
  refine mv_aload_n B dX0_init_0 rfl (lv_at hl 0 rfl) ?_
  refine mw_obj B hl.1 kw_42 kw_13 kw_14 (Nat.le_of_ble_eq_true rfl) (Nat.le_of_ble_eq_true rfl) dX0_init_1 ?_
  refine mv_aload_n B dX0_init_4 rfl (lv_at hl 0 rfl) ?_
  refine mk_whole B hI hA hSt hl.1 kw_43 kw_44 (Nat.le_of_ble_eq_true rfl) (Nat.le_of_ble_eq_true rfl) (Nat.le_of_ble_eq_true rfl) (Nat.le_of_ble_eq_true rfl) (Nat.le_of_ble_eq_true rfl) dX0_init_5 dX0_init_8 dX0_init_9 (fun h0 g0 f H locs a0 b0 c0 d0 e0 o0 hI => ?_)
  have nq0 : q ≠ h0 ∧ q ≠ g0 := ⟨fun z => (by rw [← z, hq1] at a0; cases a0), fun z => (by rw [← z, hq1] at b0; cases b0)⟩
  have hq1n := (o0 q nq0.1 nq0.2).trans hq1
  refine mw_putF2 (C := RX0) (T := TX0) (N := 7) B hI hq1n uin_X0 tyX0 tyX0_ok nmX0 rfl 0 (by decide) kw_45 rfl hnm rfl rfl rfl (Nat.le_of_ble_eq_true rfl) dX0_init_12 (fun f H locs hq2 p0 hI => ?_)
  refine mv_aload_n B dX0_init_15 rfl (lv_at hl 0 rfl) ?_
  refine mk_whole B hI hA hSt hl.1 kw_43 kw_44 (Nat.le_of_ble_eq_true rfl) (Nat.le_of_ble_eq_true rfl) (Nat.le_of_ble_eq_true rfl) (Nat.le_of_ble_eq_true rfl) (Nat.le_of_ble_eq_true rfl) dX0_init_16 dX0_init_19 dX0_init_20 (fun h1 g1 f H locs a1 b1 c1 d1 e1 o1 hI => ?_)
  have nq1 : q ≠ h1 ∧ q ≠ g1 := ⟨fun z => (by rw [← z, hq2] at a1; cases a1), fun z => (by rw [← z, hq2] at b1; cases b1)⟩
  have hq2n := (o1 q nq1.1 nq1.2).trans hq2
  refine mw_put2 (C := RX0) (T := TX0) (N := 7) B hI hq2n uin_X0 tyX0 tyX0_ok nmX0 rfl 1 (by decide) kw_46 rfl rfl rfl (Nat.le_of_ble_eq_true rfl) dX0_init_23 (fun f H locs hq3 p1 hI => ?_)
  refine mv_aload_n B dX0_init_26 rfl (lv_at hl 0 rfl) ?_
  refine mk_whole B hI hA hSt hl.1 kw_43 kw_44 (Nat.le_of_ble_eq_true rfl) (Nat.le_of_ble_eq_true rfl) (Nat.le_of_ble_eq_true rfl) (Nat.le_of_ble_eq_true rfl) (Nat.le_of_ble_eq_true rfl) dX0_init_27 dX0_init_30 dX0_init_31 (fun h2 g2 f H locs a2 b2 c2 d2 e2 o2 hI => ?_)
  have nq2 : q ≠ h2 ∧ q ≠ g2 := ⟨fun z => (by rw [← z, hq3] at a2; cases a2), fun z => (by rw [← z, hq3] at b2; cases b2)⟩
  have hq3n := (o2 q nq2.1 nq2.2).trans hq3
  refine mw_put2 (C := RX0) (T := TX0) (N := 7) B hI hq3n uin_X0 tyX0 tyX0_ok nmX0 rfl 2 (by decide) kw_47 rfl rfl rfl (Nat.le_of_ble_eq_true rfl) dX0_init_34 (fun f H locs hq4 p2 hI => ?_)
  have N := nws3 hf a0 b0 c0 d0 e0 o0 p0 nq0 a1 b1 c1 d1 e1 o1 p1 nq1 a2 b2 c2 d2 e2 o2 p2 nq2
  exact mw_vret B hQ hrt hI ⟨fun i => if i = 0 then h0 else if i = 1 then h1 else h2, fun i => if i = 0 then g0 else if i = 1 then g1 else g2, hq4, N⟩ dX0_init_37
