theorem mk_kA {s : State} {args : Array Value} (htg : ∀ w ∈ gw, w.before args s = true) (hov : (Cond.arrayOver (.object "BigDesk$Whole")).before args s = true) : ∃ (kA : Nat → ClassId), ∀ (k : Nat) (q : ClassId × FieldType), (tyL kA)[k]? = some q → ArrOfT s q.1 q.2 ∧ va_RA s q.1 q.2 := by
  obtain ⟨c0, k0, p0, a1, a2, a3⟩ := Cond.arrayClass_spec (htg _ kw_36)
  obtain ⟨c2, k2, p2, b1, b2, b3⟩ := Cond.arrayClass_spec (htg _ kw_394)
  obtain ⟨comp, c1, k1, d1, -, d3, d4, d5⟩ := Cond.arrayOver_spec hov
  refine ⟨fun k => if k = 0 then c0 else if k = 1 then c1 else c2, fun k q hq => ?_⟩
  match k, hq with
  | 0, hq => cases hq; exact ⟨fun n z => ⟨fun k h => (by cases h), k0, a2, p0, a3⟩, a1⟩
  | 1, hq => cases hq; exact ⟨fun n z => ⟨fun k h => (by cases h), k1, d3, comp, d4⟩, k1, comp, d3, d4, d1, d5⟩
  | 2, hq => cases hq; exact ⟨fun n z => ⟨fun k h => (by cases h), k2, b2, p2, b3⟩, b1⟩
  | k + 3, hq => simp [tyL] at hq
theorem mk_D {s : State} {args : Array Value} (htg : ∀ w ∈ gw, w.before args s = true) : ∃ D : va_G, ∀ (k : Nat) (q : vw_C), vwCl[k]? = some q → u_Kn s q.1 q.2.1 q.2.2 (D.1 k) (D.2 k) := by
  obtain ⟨c0, i0, h0⟩ := u_known (C := RX0) (T := TX0) (N := 7) (n := 7) htg uin_X0 (htg _ kw_38)
  obtain ⟨c1, i1, h1⟩ := u_known (C := RX1) (T := TX1) (N := 3) (n := 3) htg uin_X1 (htg _ kw_17)
  obtain ⟨c2, i2, h2⟩ := u_known (C := RX2) (T := TX2) (N := 7) (n := 7) htg uin_X2 (htg _ kw_8)
  obtain ⟨c3, i3, h3⟩ := u_known (C := RX3) (T := TX3) (N := 4) (n := 4) htg uin_X3 (htg _ kw_357)
  refine ⟨(fun k => if k = 0 then c0 else if k = 1 then c1 else if k = 2 then c2 else c3, fun k => if k = 0 then i0 else if k = 1 then i1 else if k = 2 then i2 else i3), fun k q hq => ?_⟩
  match k, hq with
  | 0, hq => cases hq; exact h0
  | 1, hq => cases hq; exact h1
  | 2, hq => cases hq; exact h2
  | 3, hq => cases hq; exact h3
  | k + 4, hq => simp [vwCl] at hq
theorem mk_TENS {s : State} {b : Nat} {A : Nat → Prop} (hgv : (Jvm.Cond.and given_1 narrow_1).before #[Value.ref b] s = true) (hls : (Cond.laysStatic "BigDesk" "TENS" "[I").before #[Value.ref b] s = true) (hini : (Cond.initialized "BigDesk").before #[Value.ref b] s = true) (hA : ∀ a : Nat, a < s.heap.size → ¬ A a) : st_T "TENS" 6 tn_ A s := by
  have hs := flat_of_before _ hgv
  have harr : (Cond.arrayOf (.static "BigDesk" "TENS" "[I") .int).before #[Value.ref b] s = true := hs _ (by decide +kernel)
  have hlen : (Cond.eq (.length (.static "BigDesk" "TENS" "[I")) (.int 6)).before #[Value.ref b] s = true := hs _ (by decide +kernel)
  have e0 : (Cond.eq (.elem (.static "BigDesk" "TENS" "[I") (.int 0)) (.int 1)).before #[Value.ref b] s = true := hs _ (by decide +kernel)
  have e1 : (Cond.eq (.elem (.static "BigDesk" "TENS" "[I") (.int 1)) (.int 10)).before #[Value.ref b] s = true := hs _ (by decide +kernel)
  have e2 : (Cond.eq (.elem (.static "BigDesk" "TENS" "[I") (.int 2)) (.int 100)).before #[Value.ref b] s = true := hs _ (by decide +kernel)
  have e3 : (Cond.eq (.elem (.static "BigDesk" "TENS" "[I") (.int 3)) (.int 1000)).before #[Value.ref b] s = true := hs _ (by decide +kernel)
  have e4 : (Cond.eq (.elem (.static "BigDesk" "TENS" "[I") (.int 4)) (.int 10000)).before #[Value.ref b] s = true := hs _ (by decide +kernel)
  have e5 : (Cond.eq (.elem (.static "BigDesk" "TENS" "[I") (.int 5)) (.int 100000)).before #[Value.ref b] s = true := hs _ (by decide +kernel)
  obtain ⟨t, ht, hT⟩ := va_Tof (tm := .static "BigDesk" "TENS" "[I") (ty := .int) (N := 6) (f := fun j => .int (iI (tn_ j))) (A := A) (by decide) harr (va_eqt hlen) (fun j hj => by
    rcases (show j = 0 ∨ j = 1 ∨ j = 2 ∨ j = 3 ∨ j = 4 ∨ j = 5 by omega) with rfl | rfl | rfl | rfl | rfl | rfl
    · exact (va_eqt e0).trans (congrArg (fun z => some (Value.int z)) (by decide : (1 : Int32) = iI (tn_ 0)))
    · exact (va_eqt e1).trans (congrArg (fun z => some (Value.int z)) (by decide : (10 : Int32) = iI (tn_ 1)))
    · exact (va_eqt e2).trans (congrArg (fun z => some (Value.int z)) (by decide : (100 : Int32) = iI (tn_ 2)))
    · exact (va_eqt e3).trans (congrArg (fun z => some (Value.int z)) (by decide : (1000 : Int32) = iI (tn_ 3)))
    · exact (va_eqt e4).trans (congrArg (fun z => some (Value.int z)) (by decide : (10000 : Int32) = iI (tn_ 4)))
    · exact (va_eqt e5).trans (congrArg (fun z => some (Value.int z)) (by decide : (100000 : Int32) = iI (tn_ 5)))) hA
  exact ⟨t, va_Zref hls hini ht hA, hT⟩
theorem mk_FACTORS_OF_BASE {s : State} {b : Nat} {A : Nat → Prop} (hgv : (Jvm.Cond.and given_1 narrow_1).before #[Value.ref b] s = true) (hls : (Cond.laysStatic "BigDesk" "FACTORS_OF_BASE" "[I").before #[Value.ref b] s = true) (hini : (Cond.initialized "BigDesk").before #[Value.ref b] s = true) (hA : ∀ a : Nat, a < s.heap.size → ¬ A a) : st_T "FACTORS_OF_BASE" 8 fc_ A s := by
  have hs := flat_of_before _ hgv
  have harr : (Cond.arrayOf (.static "BigDesk" "FACTORS_OF_BASE" "[I") .int).before #[Value.ref b] s = true := hs _ (by decide +kernel)
  have hlen : (Cond.eq (.length (.static "BigDesk" "FACTORS_OF_BASE" "[I")) (.int 8)).before #[Value.ref b] s = true := hs _ (by decide +kernel)
  have e0 : (Cond.eq (.elem (.static "BigDesk" "FACTORS_OF_BASE" "[I") (.int 0)) (.int 8)).before #[Value.ref b] s = true := hs _ (by decide +kernel)
  have e1 : (Cond.eq (.elem (.static "BigDesk" "FACTORS_OF_BASE" "[I") (.int 1)) (.int 8)).before #[Value.ref b] s = true := hs _ (by decide +kernel)
  have e2 : (Cond.eq (.elem (.static "BigDesk" "FACTORS_OF_BASE" "[I") (.int 2)) (.int 5)).before #[Value.ref b] s = true := hs _ (by decide +kernel)
  have e3 : (Cond.eq (.elem (.static "BigDesk" "FACTORS_OF_BASE" "[I") (.int 3)) (.int 5)).before #[Value.ref b] s = true := hs _ (by decide +kernel)
  have e4 : (Cond.eq (.elem (.static "BigDesk" "FACTORS_OF_BASE" "[I") (.int 4)) (.int 5)).before #[Value.ref b] s = true := hs _ (by decide +kernel)
  have e5 : (Cond.eq (.elem (.static "BigDesk" "FACTORS_OF_BASE" "[I") (.int 5)) (.int 5)).before #[Value.ref b] s = true := hs _ (by decide +kernel)
  have e6 : (Cond.eq (.elem (.static "BigDesk" "FACTORS_OF_BASE" "[I") (.int 6)) (.int 5)).before #[Value.ref b] s = true := hs _ (by decide +kernel)
  have e7 : (Cond.eq (.elem (.static "BigDesk" "FACTORS_OF_BASE" "[I") (.int 7)) (.int 5)).before #[Value.ref b] s = true := hs _ (by decide +kernel)
  obtain ⟨t, ht, hT⟩ := va_Tof (tm := .static "BigDesk" "FACTORS_OF_BASE" "[I") (ty := .int) (N := 8) (f := fun j => .int (iI (fc_ j))) (A := A) (by decide) harr (va_eqt hlen) (fun j hj => by
    rcases (show j = 0 ∨ j = 1 ∨ j = 2 ∨ j = 3 ∨ j = 4 ∨ j = 5 ∨ j = 6 ∨ j = 7 by omega) with rfl | rfl | rfl | rfl | rfl | rfl | rfl | rfl
    · exact (va_eqt e0).trans (congrArg (fun z => some (Value.int z)) (by decide : (8 : Int32) = iI (fc_ 0)))
    · exact (va_eqt e1).trans (congrArg (fun z => some (Value.int z)) (by decide : (8 : Int32) = iI (fc_ 1)))
    · exact (va_eqt e2).trans (congrArg (fun z => some (Value.int z)) (by decide : (5 : Int32) = iI (fc_ 2)))
    · exact (va_eqt e3).trans (congrArg (fun z => some (Value.int z)) (by decide : (5 : Int32) = iI (fc_ 3)))
    · exact (va_eqt e4).trans (congrArg (fun z => some (Value.int z)) (by decide : (5 : Int32) = iI (fc_ 4)))
    · exact (va_eqt e5).trans (congrArg (fun z => some (Value.int z)) (by decide : (5 : Int32) = iI (fc_ 5)))
    · exact (va_eqt e6).trans (congrArg (fun z => some (Value.int z)) (by decide : (5 : Int32) = iI (fc_ 6)))
    · exact (va_eqt e7).trans (congrArg (fun z => some (Value.int z)) (by decide : (5 : Int32) = iI (fc_ 7)))) hA
  exact ⟨t, va_Zref hls hini ht hA, hT⟩
set_option maxHeartbeats 4000000 in
set_option maxRecDepth 100000 in
theorem law_loop {p : Program} {l : Launch} {e : Env} {s : State} {m : MethodId} {below : List Frame} {meth : Method} {c : Code} {D : va_G} {kA : Nat → ClassId} {b L : Nat} {xs : Nat → Int32} {d sl pa : Nat} {w ra : Nat → Nat} {o li si su di : Nat} (B : mw_C p s m #[Value.ref b] meth c code 4 "BigDeskLaw" gw D vwCl (tyL kA)) (hr : meth.sig.returnType = ret) (hSt : st_S (fun q : Nat => s.heap.size ≤ q) s) (hX : va_X b L xs s s.heap) (hbl : b < s.heap.size) (hL : L ≤ 2560) : ∀ (μ j : Nat) (i : Int) (f : mw_M) (H : Heap) (locs : List Loc) (ls : Array Slot) (Y Z : Nat → Int), 2570 - j < μ → i = (j : Int) → j ≤ 2565 → lwI kA f d sl pa w ra o li si su di Y Z → mw_I D vwCl (fun q : Nat => s.heap.size ≤ q) s H locs f → lv_has ls 4 [(3, .int (iI i)), (2, .ref o), (1, .ref d), (0, .ref b)] → W p l e room_1 s m #[Value.ref b] below meth c H locs 600000 7302250 (lw_Z below #[Value.ref b] s) (F0 m 18 ls []) := by
  have hA : ∀ q : Nat, s.heap.size ≤ q → (fun q : Nat => s.heap.size ≤ q) q := fun _ h => h
  have hbA : ¬ (fun q : Nat => s.heap.size ≤ q) b := Nat.not_le.mpr hbl
  intro μ
  induction μ with
  | zero => intro j i f H locs ls Y Z hμ; exact absurd hμ (Nat.not_lt_zero _)
  | succ μ ih =>
    intro j i f H locs ls Y Z hμ hi hj hW hI hl
    refine mv_iload_n B dXL_law_18 rfl (lv_at hl 0 rfl) ?_
    refine mv_aload_n B dXL_law_19 rfl (lv_at hl 3 rfl) ?_
    refine mw_slen B hI hX hbl hbA dXL_law_20 ?_
    refine mv_iconst B dXL_law_21 ?_
    refine mv_isub B dXL_law_22 ?_
    refine mv_icmp_gt (tgt := 936) B dXL_law_23 (by decide) (by omega) (fun hd0 => ?_) (fun hd0 => ?_)
    · refine mv_iconst B dXL_law_936 ?_
      refine va_forget (fun q hq => hI.sub.2.2 q hq) ?_
      exact lw_ret B.1 B.2.1 hr B.2.2.2.2.2.1 dXL_law_937
    · have x0 := sx_r xs j
      have kk : ∀ (f : mw_M) (H : Heap) (locs : List Loc) (ls : Array Slot) (Y Z : Nat → Int), lwI kA f d sl pa w ra o li si su di Y Z → mw_I D vwCl (fun q : Nat => s.heap.size ≤ q) s H locs f → lv_has ls 4 [(3, .int (iI i)), (2, .ref o), (1, .ref d), (0, .ref b)] → W p l e room_1 s m #[Value.ref b] below meth c H locs 600000 7302250 (lw_Z below #[Value.ref b] s) (F0 m 930 ls []) := by
        intro f H locs ls Y Z hW hI hl
        refine mv_iinc (k := 0) (lv' := [(3, .int (iI (i + 5))), (2, .ref o), (1, .ref d), (0, .ref b)]) B dXL_law_930 hl rfl (by decide) rfl (fun ls hl => ?_)
        refine mv_goto (tgt := 18) B dXL_law_933 (by decide) ?_
        exact ih (j + 5) _ f H locs ls Y Z (by omega) (by omega) (by omega) hW hI (lv_sub hl [0, 1, 2, 3] rfl)
      refine mv_aload_n B dXL_law_26 rfl (lv_at hl 3 rfl) ?_
      refine mv_iload_n B dXL_law_27 rfl (lv_at hl 0 rfl) ?_
      refine mw_sld B hI hX hbl hbA hL j (by omega) (by omega) dXL_law_28 ?_
      refine mv_bipush B dXL_law_29 (by decide) ?_
      refine mv_mask31 B dXL_law_31 ?_
      rcases (show sx xs j % 32 = 0 ∨ sx xs j % 32 = 1 ∨ sx xs j % 32 = 2 ∨ sx xs j % 32 = 3 ∨ sx xs j % 32 = 4 ∨ sx xs j % 32 = 5 ∨ sx xs j % 32 = 6 ∨ sx xs j % 32 = 7 ∨ sx xs j % 32 = 8 ∨ sx xs j % 32 = 9 ∨ sx xs j % 32 = 10 ∨ sx xs j % 32 = 11 ∨ sx xs j % 32 = 12 ∨ sx xs j % 32 = 13 ∨ sx xs j % 32 = 14 ∨ sx xs j % 32 = 15 ∨ sx xs j % 32 = 16 ∨ sx xs j % 32 = 17 ∨ sx xs j % 32 = 18 ∨ sx xs j % 32 = 19 ∨ 20 ≤ sx xs j % 32 by omega) with hv | hv | hv | hv | hv | hv | hv | hv | hv | hv | hv | hv | hv | hv | hv | hv | hv | hv | hv | hv | hv
      · rw [hv]
        refine lv_tableIn (tgt := 128) B.1 B.2.1 dXL_law_32 (by decide) (by decide) rfl (by decide) ?_
        exact lc_set B hA hSt hX hbl hbA hL hi (by omega) hI hW hl kk
      · rw [hv]
        refine lv_tableIn (tgt := 191) B.1 B.2.1 dXL_law_32 (by decide) (by decide) rfl (by decide) ?_
        exact lc_digit B hA hSt hX hbl hbA hL hi (by omega) hI hW hl kk
      · rw [hv]
        refine lv_tableIn (tgt := 224) B.1 B.2.1 dXL_law_32 (by decide) (by decide) rfl (by decide) ?_
        exact lc_copy B hA hSt hX hbl hbA hL hi (by omega) hI hW hl kk
      · rw [hv]
        refine lv_tableIn (tgt := 257) B.1 B.2.1 dXL_law_32 (by decide) (by decide) rfl (by decide) ?_
        exact lc_sum B hA hSt hX hbl hbA hL hi (by omega) hI hW hl kk
      · rw [hv]
        refine lv_tableIn (tgt := 300) B.1 B.2.1 dXL_law_32 (by decide) (by decide) rfl (by decide) ?_
        exact lc_less B hA hSt hX hbl hbA hL hi (by omega) hI hW hl kk
      · rw [hv]
        refine lv_tableIn (tgt := 343) B.1 B.2.1 dXL_law_32 (by decide) (by decide) rfl (by decide) ?_
        exact lc_product B hA hSt hX hbl hbA hL hi (by omega) hI hW hl kk
      · rw [hv]
        refine lv_tableIn (tgt := 386) B.1 B.2.1 dXL_law_32 (by decide) (by decide) rfl (by decide) ?_
        exact lc_over B hA hSt hX hbl hbA hL hi (by omega) hI hW hl kk
      · rw [hv]
        refine lv_tableIn (tgt := 429) B.1 B.2.1 dXL_law_32 (by decide) (by decide) rfl (by decide) ?_
        exact lc_left B hA hSt hX hbl hbA hL hi (by omega) hI hW hl kk
      · rw [hv]
        refine lv_tableIn (tgt := 472) B.1 B.2.1 dXL_law_32 (by decide) (by decide) rfl (by decide) ?_
        exact lc_divisor B hA hSt hX hbl hbA hL hi (by omega) hI hW hl kk
      · rw [hv]
        refine lv_tableIn (tgt := 515) B.1 B.2.1 dXL_law_32 (by decide) (by decide) rfl (by decide) ?_
        exact lc_root B hA hSt hX hbl hbA hL hi (by omega) hI hW hl kk
      · rw [hv]
        refine lv_tableIn (tgt := 548) B.1 B.2.1 dXL_law_32 (by decide) (by decide) rfl (by decide) ?_
        exact lc_power B hA hSt hX hbl hbA hL hi (by omega) hI hW hl kk
      · rw [hv]
        refine lv_tableIn (tgt := 591) B.1 B.2.1 dXL_law_32 (by decide) (by decide) rfl (by decide) ?_
        exact lc_lowest B hA hSt hX hbl hbA hL hi (by omega) hI hW hl kk
      · rw [hv]
        refine lv_tableIn (tgt := 624) B.1 B.2.1 dXL_law_32 (by decide) (by decide) rfl (by decide) ?_
        exact lc_fraction B hA hSt hX hbl hbA hL hi (by omega) hI hW hl kk
      · rw [hv]
        refine lv_tableIn (tgt := 677) B.1 B.2.1 dXL_law_32 (by decide) (by decide) rfl (by decide) ?_
        exact lc_order B hA hSt hX hbl hbA hL hi (by omega) hI hW hl kk
      · rw [hv]
        refine lv_tableIn (tgt := 710) B.1 B.2.1 dXL_law_32 (by decide) (by decide) rfl (by decide) ?_
        exact lc_ratio B hA hSt hX hbl hbA hL hi (by omega) hI hW hl kk
      · rw [hv]
        refine lv_tableIn (tgt := 763) B.1 B.2.1 dXL_law_32 (by decide) (by decide) rfl (by decide) ?_
        exact lc_sign B hA hSt hX hbl hbA hL hi (by omega) hI hW hl kk
      · rw [hv]
        refine lv_tableIn (tgt := 786) B.1 B.2.1 dXL_law_32 (by decide) (by decide) rfl (by decide) ?_
        exact lc_digits B hA hSt hX hbl hbA hL hi (by omega) hI hW hl kk
      · rw [hv]
        refine lv_tableIn (tgt := 809) B.1 B.2.1 dXL_law_32 (by decide) (by decide) rfl (by decide) ?_
        exact lc_digitAt B hA hSt hX hbl hbA hL hi (by omega) hI hW hl kk
      · rw [hv]
        refine lv_tableIn (tgt := 842) B.1 B.2.1 dXL_law_32 (by decide) (by decide) rfl (by decide) ?_
        exact lc_modulo B hA hSt hX hbl hbA hL hi (by omega) hI hW hl kk
      · rw [hv]
        refine lv_tableIn (tgt := 906) B.1 B.2.1 dXL_law_32 (by decide) (by decide) rfl (by decide) ?_
        exact lc_low B hA hSt hX hbl hbA hL hi (by omega) hI hW hl kk
      · refine lv_tableOut (tgt := 930) B.1 B.2.1 dXL_law_32 (Or.inr (by rw [iI_toInt (by omega)]; omega)) (by decide) ?_
        exact kk f H locs ls Y Z hW hI hl
set_option maxHeartbeats 4000000 in
set_option maxRecDepth 100000 in
/-- from the entry, for every script of at most 2560 ints, the law comes to its end with true -/
theorem whole_start {p : Program} {e : Env} {s : State} {m : MethodId} {below : List Frame} {meth : Method} {c : Code} (l : Launch) {b L : Nat} {xs : Nat → Int32} (hL : L ≤ 2560) (C0 : lw_At p s m meth c b L xs) : W p l e room_1 s m #[Value.ref b] below meth c s.heap [] 0 0 (lw_Z below #[Value.ref b] s) (entryFrame m ([Value.ref b] : List Value).toArray 4) := by
  obtain ⟨hx, hb, hr, hml, hown, hts, hX, hbl, hlocks, hgv⟩ := id C0
  have htg : ∀ w ∈ gw, w.before #[Value.ref b] s = true := fun w h => hts w (List.mem_filter.mp h).1
  have hA : ∀ q : Nat, s.heap.size ≤ q → (fun q : Nat => s.heap.size ≤ q) q := fun _ h => h
  have hA2 : ∀ a : Nat, a < s.heap.size → ¬ (fun q : Nat => s.heap.size ≤ q) a := fun a h => Nat.not_le.mpr h
  have tb : ∀ (i : Nat) (w : Cond), tables_1[i]? = some w → w.before #[Value.ref b] s = true := fun i w h => hts w (List.mem_append_right _ (List.mem_of_getElem? h))
  have hov := tb 16 (.arrayOver (.object "BigDesk$Whole")) (by decide +kernel)
  obtain ⟨kA, hKa⟩ := mk_kA htg hov
  obtain ⟨D, hKc⟩ := mk_D htg
  have hSt : st_S (fun q : Nat => s.heap.size ≤ q) s := ⟨mk_TENS hgv (tb 327 _ (by decide +kernel)) (htg _ kw_1) hA2, mk_FACTORS_OF_BASE hgv (tb 347 _ (by decide +kernel)) (htg _ kw_1) hA2, hov, va_Nw.of rfl (tb 326 (.fieldLinkNest "BigDesk$Whole" 93 "BigDesk" "TENS" "[I" "BigDesk") (by decide +kernel)), va_Nw.of rfl (tb 346 (.fieldLinkNest "BigDesk$Whole" 96 "BigDesk" "FACTORS_OF_BASE" "[I" "BigDesk") (by decide +kernel))⟩
  have B : mw_C p s m #[Value.ref b] meth c code 4 "BigDeskLaw" gw D vwCl (tyL kA) := ⟨hx, hb, hml, hown, htg, hlocks, hKc, hKa⟩
  obtain ⟨f, hf, hI⟩ : ∃ f : mw_M, f = (fun _ => none) ∧ mw_I D vwCl (fun q : Nat => s.heap.size ≤ q) s s.heap [] f := ⟨_, rfl, [], fun k q h => (by simp at h), ⟨fun i j p q h => (by simp at h), fun k q h => (by simp at h)⟩, va_S.rf, fun a e => ⟨fun h => (by cases h), fun ⟨k, h⟩ => (by simp at h)⟩⟩
  have hl := lv_entry ([.ref b]) (n := 4) (Nat.le_of_ble_eq_true rfl)
  rw [lg_entry_eq]
  generalize (lg_sl ([.ref b]) ++ List.replicate (4 - (lg_sl ([.ref b])).length) Slot.unset).toArray = ls at hl ⊢
  have hl : lv_has ls 4 [(0, .ref b)] := hl
  refine mw_new (C := RX2) (T := TX2) (N := 7) (ci := 2) B hI hA uin_X2 tyX2 tyX2_ok kw_7 kw_8 kw_1 rfl [.null, .null, .null, .null, .null, .null, .null] (fun j hj => by rcases (show j = 0 ∨ j = 1 ∨ j = 2 ∨ j = 3 ∨ j = 4 ∨ j = 5 ∨ j = 6 by omega) with rfl | rfl | rfl | rfl | rfl | rfl | rfl <;> rfl) (Nat.le_of_ble_eq_true rfl) (Nat.le_of_ble_eq_true rfl) dXL_law_0 (fun d H hnd hI => ?_)
  refine mv_dup B dXL_law_3 rfl ?_
  refine mw_callv hI hA (va_runI (As := []) (rest := [.ref d]) B.fix (t_X2_init l D kA H.size _ (mw_set_self _ _ _)) (cwI 0 B.2.2.2.2.1 (gC kw_11) rfl rfl rfl (B.2.2.2.2.1 _ kw_1) (B.2.2.2.2.1 _ kw_9) (B.2.2.2.2.1 _ kw_10) rfl (by decide +kernel) ⟨(Nat.le_of_ble_eq_true rfl), (Nat.le_of_ble_eq_true rfl)⟩) ⟨mw_blind st_S.blind, mw_pre B hI (hSt.call hI hA)⟩ rfl rfl hl.1 rfl (lv_room (Nat.le_of_ble_eq_true rfl)) dXL_law_4 ⟨(Nat.le_of_ble_eq_true rfl), (Nat.le_of_ble_eq_true rfl)⟩) (fun f1 H locs hp hI1 => ?_)
  obtain ⟨sl, pa, wv_, ra, hD, hold, off1⟩ := hp
  clear hI
  have hI := hI1
  clear hI1
  refine mv_astore_n (lv' := [(1, .ref d), (0, .ref b)]) B dXL_law_7 rfl hl (by decide) rfl (fun ls hl => ?_)
  refine W.widen (k := 60) (n := 3000) (by omega) (by omega) ?_
  refine mw_new (C := RX3) (T := TX3) (N := 4) (ci := 3) B hI hA uin_X3 tyX3 tyX3_ok kw_356 kw_357 kw_4 rfl [.null, .null, .null, .null] (fun j hj => by rcases (show j = 0 ∨ j = 1 ∨ j = 2 ∨ j = 3 by omega) with rfl | rfl | rfl | rfl <;> rfl) (Nat.le_of_ble_eq_true rfl) (Nat.le_of_ble_eq_true rfl) dXL_law_8 (fun o H hno hI => ?_)
  refine mv_dup B dXL_law_11 rfl ?_
  refine mw_callv hI hA (va_runI (As := []) (rest := [.ref o]) B.fix (t_X3_init l D kA H.size _ (mw_set_self _ _ _)) (cwI 0 B.2.2.2.2.1 (gC kw_360) rfl rfl rfl (B.2.2.2.2.1 _ kw_4) (B.2.2.2.2.1 _ kw_358) (B.2.2.2.2.1 _ kw_359) rfl (by decide +kernel) ⟨(Nat.le_of_ble_eq_true rfl), (Nat.le_of_ble_eq_true rfl)⟩) ⟨mw_blind st_S.blind, mw_pre B hI (hSt.call hI hA)⟩ rfl rfl hl.1 rfl (lv_room (Nat.le_of_ble_eq_true rfl)) dXL_law_12 ⟨(Nat.le_of_ble_eq_true rfl), (Nat.le_of_ble_eq_true rfl)⟩) (fun f1 H locs hp hI1 => ?_)
  obtain ⟨li, si, su, di, Z, hm, h24, hz, n1, n2, n3, n4⟩ := hp
  clear hI
  have hI := hI1
  clear hI1
  refine mv_astore_n (lv' := [(2, .ref o), (1, .ref d), (0, .ref b)]) B dXL_law_15 rfl hl (by decide) rfl (fun ls hl => ?_)
  refine mv_iconst B dXL_law_16 ?_
  refine mv_istore_n (lv' := [(3, .int (iI (0))), (2, .ref o), (1, .ref d), (0, .ref b)]) B dXL_law_17 rfl hl (by decide) rfl (fun ls hl => ?_)
  refine W.widen (k := 600000) (n := 7302250) (by decide) (by decide) ?_
  have hdis : ∀ k, dks d sl pa wv_ ra k → ¬ mks o li si su di k := fun k h1 h2 => by
    have a0 := hD.have_ h1
    have ko : k ≠ o := fun q => a0 (by rw [q]; exact hno)
    rcases h2 with q | q | q | q | q
    · exact ko q
    · rw [← q, mw_set_ne _ _ ko] at n1; exact a0 n1
    · rw [← q, mw_set_ne _ _ ko] at n2; exact a0 n2
    · rw [← q, mw_set_ne _ _ ko] at n3; exact a0 n3
    · rw [← q, mw_set_ne _ _ ko] at n4; exact a0 n4
  have hW : lwI kA f1 d sl pa wv_ ra o li si su di (fun _ => 0) Z := ⟨hD.keep (fun k hk => (hm.off (hdis k hk)).trans (mw_set_ne _ _ (fun q => hdis k hk (Or.inl q)))), hm.self, h24, fun i hi => (hz i hi).symm, fun i _ => (by decide : ((Int.natAbs 0 : Nat) : Int) < 1000000 ^ 50), hdis⟩
  exact law_loop B hr hSt hX hbl hL 2571 0 _ f1 H locs ls _ _ (by decide) rfl (by decide) hW hI (lv_sub hl [0, 1, 2, 3] rfl)
