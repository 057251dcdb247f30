abbrev rm_X1_lowBits : Room := { frames := 0, cells := 0, slots := 0, locals := 0 }
set_option maxHeartbeats 4000000 in
set_option maxRecDepth 100000 in
/-- lowBits -/
theorem t_X1_lowBits (l : Launch) (D : va_G) (kA : Nat → ClassId) (sz : Nat) (f0 : mw_M) {h r : Nat} {z : Int} (hh : Rp (kA 0) f0 h r z) : mw_Ml l yX1_lowBits (Cond.code yX1_lowBits cX1_lowBits 4 ((some .long)) :: gw) rm_X1_lowBits D vwCl (tyL kA) st_S [.ref h] f0 sz (fun v f => v = lI z ∧ f = f0) 0 0 := by
  refine mw_ofl (cc := cX1_lowBits) (maxL := 4) (ret := (some .long)) (by decide) rfl (Nat.le_of_ble_eq_true rfl) ?_
  intro p e s m below meth c A ls Q hQ B hrt hnm hA hI hSt hl
  have hl : lv_has ls 4 [(0, .ref h)] := hl
  obtain ⟨g, n, b, hh, hr, hz⟩ := hh
  obtain ⟨f, hI, hf⟩ : ∃ f, mw_I D vwCl A s s.heap [] f ∧ f = f0 := ⟨f0, hI, rfl⟩
  have hh1 : f h = some (wh r (n : Int) b) := by rw [hf]; exact hh
  have hr1 : f r = some (mw_ar (kA 0) 104 g) := by rw [hf]; exact hr
  have hn1 := hz.1
  have q1 := hz.b0
  have q3 := hz.nat
  refine mv_lconst0 B dX1_lowBits_0 ?_
  refine mv_lstore_n (lv' := [(1, .long (lI (0))), (0, .ref h)]) B dX1_lowBits_1 rfl hl (by decide) rfl (fun ls hl => ?_)
  refine mv_aload_n B dX1_lowBits_2 rfl (lv_at hl 1 rfl) ?_
  refine ww_size B hI hh1 uin_X1 kw_24 dX1_lowBits_3 ?_
  refine mv_iconst B dX1_lowBits_6 ?_
  refine mv_isub B dX1_lowBits_7 ?_
  refine mv_istore_n (lv' := [(3, .int (iI (((n : Int)) - (1)))), (1, .long (lI (0))), (0, .ref h)]) B dX1_lowBits_8 rfl hl (by decide) rfl (fun ls hl => ?_)
  have loop : ∀ (μ : Nat) (j : Nat) (y t : Int) (ls : Array Slot), j < μ → y = (j : Int) - 1 → j ≤ n → t = wv g j (n - j) → lv_has ls 4 [(3, .int (iI (y))), (1, .long (lI (t))), (0, .ref h)] → W p l e rm_X1_lowBits s m ([.ref h] : List Value).toArray below meth c s.heap [] 0 0 Q (F0 m 9 ls []) := by
    intro μ
    induction μ with
    | zero => intro j y t ls hμ; exact absurd hμ (Nat.not_lt_zero _)
    | succ μ ih =>
      intro j y t ls hμ hy hj ht hl
      refine mv_iload_n B dX1_lowBits_9 rfl (lv_at hl 0 rfl) ?_
      refine mv_if_lt (tgt := 33) B dX1_lowBits_10 (by decide) (by omega) (fun hd0 => ?_) (fun hd0 => ?_)
      · obtain rfl : j = 0 := by omega
        rw [Nat.sub_zero, wv_all] at ht
        refine mv_aload_n B dX1_lowBits_33 rfl (lv_at hl 2 rfl) ?_
        refine ww_below B hI hh1 uin_X1 kw_26 dX1_lowBits_34 ?_
        refine mv_if_eq (tgt := 45) B dX1_lowBits_37 (by decide) (by omega) (fun hd1 => ?_) (fun hd1 => ?_)
        · refine mv_lload_n B dX1_lowBits_45 rfl (lv_at hl 1 rfl) ?_
          exact mw_lret B hQ hrt hI ⟨by congr 1; omega, hf⟩ dX1_lowBits_46
        · refine mv_lload_n B dX1_lowBits_40 rfl (lv_at hl 1 rfl) ?_
          refine mv_lneg B dX1_lowBits_41 ?_
          refine mv_goto (tgt := 46) B dX1_lowBits_42 (by decide) ?_
          exact mw_lret B hQ hrt hI ⟨by congr 1; omega, hf⟩ dX1_lowBits_46
      · obtain ⟨k, rfl⟩ : ∃ k, j = k + 1 := ⟨j - 1, by omega⟩
        have g1 := hz.2.1 k (by omega)
        refine mv_lload_n B dX1_lowBits_13 rfl (lv_at hl 1 rfl) ?_
        refine mv_ldc2 (z := 1000000) B dX1_lowBits_14 kw_100 (by decide) ?_
        refine mv_lmul B dX1_lowBits_17 ?_
        refine mv_aload_n B dX1_lowBits_18 rfl (lv_at hl 2 rfl) ?_
        refine ww_parts B hI hh1 uin_X1 kw_22 dX1_lowBits_19 ?_
        refine mv_iload_n B dX1_lowBits_22 rfl (lv_at hl 0 rfl) ?_
        refine mw_iald B hI 0 hr1 rfl (k) (by omega) (by omega) (by decide) dX1_lowBits_23 ?_
        refine mv_i2l B dX1_lowBits_24 (by omega) ?_
        refine mv_ladd B dX1_lowBits_25 ?_
        refine mv_lstore_n (lv' := [(1, .long (lI (((t) * (1000000)) + (g (k))))), (3, .int (iI (y))), (0, .ref h)]) B dX1_lowBits_26 rfl hl (by decide) rfl (fun ls hl => ?_)
        refine mv_iinc (k := 1) (lv' := [(3, .int (iI (y + (-1)))), (1, .long (lI (((t) * (1000000)) + (g (k))))), (0, .ref h)]) B dX1_lowBits_27 hl rfl (by decide) rfl (fun ls hl => ?_)
        refine mv_goto (tgt := 9) B dX1_lowBits_30 (by decide) ?_
        refine ih k _ _ ls (by omega) (by omega) (by omega) ?_ (lv_sub hl [0, 1, 2] rfl)
        rw [show n - k = (n - (k + 1)) + 1 by omega, wv_cons, ht]
        omega
  exact loop (n + 1) n _ _ ls (Nat.lt_succ_self n) rfl (Nat.le_refl n) (by rw [Nat.sub_self, wv_0]) (lv_sub hl [0, 1, 2] rfl)
abbrev rm_X1_countDigits : Room := { frames := 0, cells := 0, slots := 0, locals := 0 }
set_option maxHeartbeats 4000000 in
set_option maxRecDepth 100000 in
/-- countDigits -/
theorem t_X1_countDigits (l : Launch) (D : va_G) (kA : Nat → ClassId) (sz : Nat) (f0 : mw_M) {h r : Nat} {z : Int} (hh : Rp (kA 0) f0 h r z) : mw_Mi l yX1_countDigits (Cond.code yX1_countDigits cX1_countDigits 3 ((some .int)) :: gw) rm_X1_countDigits D vwCl (tyL kA) st_S [.ref h] f0 sz (fun v f => (∃ k : Nat, isnd (z.natAbs : Int) k ∧ k ≤ 624 ∧ v = iI (k : Int)) ∧ f = f0) 0 0 := by
  refine mw_ofi (cc := cX1_countDigits) (maxL := 3) (ret := (some .int)) (by decide) rfl (Nat.le_of_ble_eq_true rfl) ?_
  intro p e s m below meth c A ls Q hQ B hrt hnm hA hI hSt hl
  have hl : lv_has ls 3 [(0, .ref h)] := hl
  obtain ⟨g, n, b, hh, hr, hz⟩ := hh
  obtain ⟨f, hI, hf⟩ : ∃ f, mw_I D vwCl A s s.heap [] f ∧ f = f0 := ⟨f0, hI, rfl⟩
  have hh1 : f h = some (wh r (n : Int) b) := by rw [hf]; exact hh
  have hr1 : f r = some (mw_ar (kA 0) 104 g) := by rw [hf]; exact hr
  have hn1 := hz.1
  have q1 := hz.b0
  have q3 := hz.nat
  obtain ⟨tb1, hZ1, hV1⟩ := hSt.1
  refine mv_aload_n B dX1_countDigits_0 rfl (lv_at hl 0 rfl) ?_
  refine ww_size B hI hh1 uin_X1 kw_24 dX1_countDigits_1 ?_
  refine mv_if_ne (tgt := 9) B dX1_countDigits_4 (by decide) (by omega) (fun hc => ?_) (fun hc => ?_)
  · have g1 := hz.2.1 (n - 1) (by omega)
    have g2 := hz.2.2.1 (by omega)
    refine mv_aload_n B dX1_countDigits_9 rfl (lv_at hl 0 rfl) ?_
    refine ww_parts B hI hh1 uin_X1 kw_22 dX1_countDigits_10 ?_
    refine mv_aload_n B dX1_countDigits_13 rfl (lv_at hl 0 rfl) ?_
    refine ww_size B hI hh1 uin_X1 kw_24 dX1_countDigits_14 ?_
    refine mv_iconst B dX1_countDigits_17 ?_
    refine mv_isub B dX1_countDigits_18 ?_
    refine mw_iald B hI 0 hr1 rfl (n - 1) (by omega) (by omega) (by decide) dX1_countDigits_19 ?_
    refine mv_istore_n (lv' := [(1, .int (iI (g (n - 1)))), (0, .ref h)]) B dX1_countDigits_20 rfl hl (by decide) rfl (fun ls hl => ?_)
    refine mv_iconst B dX1_countDigits_21 ?_
    refine mv_istore_n (lv' := [(2, .int (iI (1))), (1, .int (iI (g (n - 1)))), (0, .ref h)]) B dX1_countDigits_22 rfl hl (by decide) rfl (fun ls hl => ?_)
    have loop : ∀ (μ : Nat) (j : Nat) (y : Int) (ls : Array Slot), 6 - j < μ → y = (j : Int) → (1 ≤ j ∧ j ≤ 6) → (10 : Int) ^ (j - 1) ≤ g (n - 1) → lv_has ls 3 [(2, .int (iI (y))), (1, .int (iI (g (n - 1)))), (0, .ref h)] → W p l e rm_X1_countDigits s m ([.ref h] : List Value).toArray below meth c s.heap [] 0 0 Q (F0 m 23 ls []) := by
      intro μ
      induction μ with
      | zero => intro j y ls hμ; exact absurd hμ (Nat.not_lt_zero _)
      | succ μ ih =>
        intro j y ls hμ hy hj ht hl
        refine mv_iload_n B dX1_countDigits_23 rfl (lv_at hl 0 rfl) ?_
        refine mv_bipush B dX1_countDigits_24 (by decide) ?_
        refine mv_icmp_ge (tgt := 44) B dX1_countDigits_26 (by decide) (by omega) (fun hd0 => ?_) (fun hd0 => ?_)
        · have t2 : g (n - 1) < 10 ^ j := by rw [show j = 6 by omega]; exact g1.2
          have nd := nd_of hz.toCn (by omega) hj ht t2
          rw [← q3] at nd
          refine mv_aload_n B dX1_countDigits_44 rfl (lv_at hl 2 rfl) ?_
          refine ww_size B hI hh1 uin_X1 kw_24 dX1_countDigits_45 ?_
          refine mv_iconst B dX1_countDigits_48 ?_
          refine mv_isub B dX1_countDigits_49 ?_
          refine mv_bipush B dX1_countDigits_50 (by decide) ?_
          refine mv_imul B dX1_countDigits_52 ?_
          refine mv_iload_n B dX1_countDigits_53 rfl (lv_at hl 0 rfl) ?_
          refine mv_iadd B dX1_countDigits_54 ?_
          exact mw_iret B hQ hrt hI ⟨⟨_, nd, by omega, by congr 1; omega⟩, hf⟩ dX1_countDigits_55
        · have t1 := tn_in j (by omega)
          have t0 := tn_rng j (by omega)
          refine mv_iload_n B dX1_countDigits_29 rfl (lv_at hl 1 rfl) ?_
          refine mv_gets B hI hZ1 hSt.2.2.2.1 dX1_countDigits_30 ?_
          refine mv_iload_n B dX1_countDigits_33 rfl (lv_at hl 0 rfl) ?_
          refine mv_tab B hI hV1 (j) (by omega) (by omega) (by decide) dX1_countDigits_34 ?_
          refine mv_icmp_lt (tgt := 44) B dX1_countDigits_35 (by decide) (by omega) (fun hd1 => ?_) (fun hd1 => ?_)
          · have t2 : g (n - 1) < 10 ^ j := by rw [← t1]; exact hd1
            have nd := nd_of hz.toCn (by omega) hj ht t2
            rw [← q3] at nd
            refine mv_aload_n B dX1_countDigits_44 rfl (lv_at hl 2 rfl) ?_
            refine ww_size B hI hh1 uin_X1 kw_24 dX1_countDigits_45 ?_
            refine mv_iconst B dX1_countDigits_48 ?_
            refine mv_isub B dX1_countDigits_49 ?_
            refine mv_bipush B dX1_countDigits_50 (by decide) ?_
            refine mv_imul B dX1_countDigits_52 ?_
            refine mv_iload_n B dX1_countDigits_53 rfl (lv_at hl 0 rfl) ?_
            refine mv_iadd B dX1_countDigits_54 ?_
            exact mw_iret B hQ hrt hI ⟨⟨_, nd, by omega, by congr 1; omega⟩, hf⟩ dX1_countDigits_55
          · refine mv_iinc (k := 0) (lv' := [(2, .int (iI (y + 1))), (1, .int (iI (g (n - 1)))), (0, .ref h)]) B dX1_countDigits_38 hl rfl (by decide) rfl (fun ls hl => ?_)
            refine mv_goto (tgt := 23) B dX1_countDigits_41 (by decide) ?_
            exact ih (j + 1) _ ls (by omega) (by omega) (by omega) (by rw [Nat.add_sub_cancel, ← t1]; omega) (lv_sub hl [0, 1, 2] rfl)
    exact loop 6 1 _ ls (by omega) rfl (by omega) (by show (1 : Int) ≤ _; omega) (lv_sub hl [0, 1, 2] rfl)
  · refine mv_iconst B dX1_countDigits_7 ?_
    exact mw_iret B hQ hrt hI ⟨⟨1, Or.inl ⟨by have := hz.zero; omega, rfl⟩, by decide, rfl⟩, hf⟩ dX1_countDigits_8
abbrev rm_X1_digitOfPlace : Room := { frames := 1, cells := 0, slots := 0, locals := 21 }
set_option maxHeartbeats 4000000 in
set_option maxRecDepth 100000 in
/-- digitOfPlace -/
theorem t_X1_digitOfPlace (l : Launch) (D : va_G) (kA : Nat → ClassId) (sz : Nat) (f0 : mw_M) {h r : Nat} {z : Int} {q : Nat} (hh : Rp (kA 0) f0 h r z) (hq : q ≤ 1000) : mw_Mi l yX1_digitOfPlace (Cond.code yX1_digitOfPlace cX1_digitOfPlace 2 ((some .int)) :: gw) rm_X1_digitOfPlace D vwCl (tyL kA) st_S [.ref h, .int (iI ((q : Int)))] f0 sz (fun v f => v = iI ((z.natAbs : Int) / 10 ^ q % 10) ∧ f = f0) 0 0 := by
  refine mw_ofi (cc := cX1_digitOfPlace) (maxL := 2) (ret := (some .int)) (by decide) rfl (Nat.le_of_ble_eq_true rfl) ?_
  intro p e s m below meth c A ls Q hQ B hrt hnm hA hI hSt hl
  have hl : lv_has ls 2 [(0, .ref h), (1, .int (iI ((q : Int))))] := hl
  obtain ⟨g, n, b, hh, hr, hz⟩ := hh
  obtain ⟨f, hI, hf⟩ : ∃ f, mw_I D vwCl A s s.heap [] f ∧ f = f0 := ⟨f0, hI, rfl⟩
  have hh1 : f h = some (wh r (n : Int) b) := by rw [hf]; exact hh
  have hr1 : f r = some (mw_ar (kA 0) 104 g) := by rw [hf]; exact hr
  have hn1 := hz.1
  have q1 := hz.b0
  have q3 := hz.nat
  obtain ⟨tb1, hZ1, hV1⟩ := hSt.1
  have e1 : (q : Int) / 6 = ((q / 6 : Nat) : Int) := by omega
  have e2 : (q : Int) % 6 = ((q % 6 : Nat) : Int) := by omega
  have pd := pz_dg hz.2.1 (q / 6 + 1) (q / 6) (by omega)
  have t1 := tn_in (q % 6) (by omega)
  have t0 := tn_rng (q % 6) (by omega)
  refine mv_aload_n B dX1_digitOfPlace_0 rfl (lv_at hl 0 rfl) ?_
  refine mv_iload_n B dX1_digitOfPlace_1 rfl (lv_at hl 1 rfl) ?_
  refine mv_bipush B dX1_digitOfPlace_2 (by decide) ?_
  refine mv_idiv B dX1_digitOfPlace_4 (by omega) ?_
  rw [e1]
  refine mw_calli hI hA (va_runV (As := [.int (iI (((q / 6 : Nat) : Int)))]) (rest := []) B.fix (t_X1_partOrZero l D kA s.heap.size f hh1 hr1 hn1 (by omega)) (cwV 1 B.2.2.2.2.1 (gV kw_135 kw_136 kw_137 kw_2 kw_138) rfl rfl rfl (by decide +kernel) ⟨Nat.le_of_ble_eq_true rfl, Nat.le_of_ble_eq_true rfl⟩) ⟨mw_blind st_S.blind, mw_recv B hI hh1 rfl, mw_pre B hI (hSt.call hI hA)⟩ rfl rfl hl.1 rfl (lv_room (Nat.le_of_ble_eq_true rfl)) dX1_digitOfPlace_5 ⟨Nat.le_of_ble_eq_true rfl, Nat.le_of_ble_eq_true rfl⟩) (fun r f H locs hp hI2 => ?_)
  clear hI
  have hI := hI2
  clear hI2
  obtain ⟨rfl, rfl⟩ := hp
  rw [if_neg (by omega), show (((q / 6 : Nat) : Int)).toNat = q / 6 by omega]
  refine mv_gets B hI hZ1 hSt.2.2.2.1 dX1_digitOfPlace_8 ?_
  refine mv_iload_n B dX1_digitOfPlace_11 rfl (lv_at hl 1 rfl) ?_
  refine mv_bipush B dX1_digitOfPlace_12 (by decide) ?_
  refine mv_irem B dX1_digitOfPlace_14 (by omega) ?_
  rw [e2]
  refine mv_tab B hI hV1 (q % 6) (by omega) (by omega) (by decide) dX1_digitOfPlace_15 ?_
  refine mv_idiv B dX1_digitOfPlace_16 (by omega) ?_
  have dn : 0 ≤ pz g n (q / 6) / tn_ (q % 6) ∧ pz g n (q / 6) / tn_ (q % 6) ≤ pz g n (q / 6) := ⟨Int.ediv_nonneg pd.1 (by omega), Int.ediv_le_self _ pd.1⟩
  refine mv_bipush B dX1_digitOfPlace_17 (by decide) ?_
  refine mv_irem B dX1_digitOfPlace_19 (by omega) ?_
  exact mw_iret B hQ hrt hI ⟨by rw [t1, dig_at hz.2.1, q3], hf⟩ dX1_digitOfPlace_20
abbrev rm_X1_remainder : Room := { frames := 0, cells := 0, slots := 0, locals := 0 }
set_option maxHeartbeats 4000000 in
set_option maxRecDepth 100000 in
/-- remainder -/
theorem t_X1_remainder (l : Launch) (D : va_G) (kA : Nat → ClassId) (sz : Nat) (f0 : mw_M) {h r : Nat} {z m_ : Int} (hh : Rp (kA 0) f0 h r z) (hm : 1 ≤ m_ ∧ m_ ≤ 1152921504606846976) : mw_Ml l yX1_remainder (Cond.code yX1_remainder cX1_remainder 10 ((some .long)) :: gw) rm_X1_remainder D vwCl (tyL kA) st_S [.ref h, .long (lI (m_))] f0 sz (fun v f => v = lI (z % m_) ∧ f = f0) 0 0 := by
  refine mw_ofl (cc := cX1_remainder) (maxL := 10) (ret := (some .long)) (by decide) rfl (Nat.le_of_ble_eq_true rfl) ?_
  intro p e s m below meth c A ls Q hQ B hrt hnm hA hI hSt hl
  have hl : lv_has ls 10 [(0, .ref h), (1, .long (lI (m_)))] := hl
  obtain ⟨g, n, b, hh, hr, hz⟩ := hh
  obtain ⟨f, hI, hf⟩ : ∃ f, mw_I D vwCl A s s.heap [] f ∧ f = f0 := ⟨f0, hI, rfl⟩
  have hh1 : f h = some (wh r (n : Int) b) := by rw [hf]; exact hh
  have hr1 : f r = some (mw_ar (kA 0) 104 g) := by rw [hf]; exact hr
  have hn1 := hz.1
  have q1 := hz.b0
  have q3 := hz.nat
  obtain ⟨tb2, hZ2, hV2⟩ := hSt.2.1
  refine mv_lconst0 B dX1_remainder_0 ?_
  refine mv_lstore_n (lv' := [(3, .long (lI (0))), (0, .ref h), (1, .long (lI (m_)))]) B dX1_remainder_1 rfl hl (by decide) rfl (fun ls hl => ?_)
  refine mv_aload_n B dX1_remainder_2 rfl (lv_at hl 1 rfl) ?_
  refine ww_size B hI hh1 uin_X1 kw_24 dX1_remainder_3 ?_
  refine mv_iconst B dX1_remainder_6 ?_
  refine mv_isub B dX1_remainder_7 ?_
  refine mv_istore (lv' := [(5, .int (iI (((n : Int)) - (1)))), (3, .long (lI (0))), (0, .ref h), (1, .long (lI (m_)))]) B dX1_remainder_8 hl (by decide) rfl (fun ls hl => ?_)
  have loop : ∀ (μ : Nat) (j : Nat) (y t : Int) (ls : Array Slot), j < μ → y = (j : Int) - 1 → j ≤ n → t = wv g j (n - j) % m_ → lv_has ls 10 [(5, .int (iI (y))), (3, .long (lI (t))), (0, .ref h), (1, .long (lI (m_)))] → W p l e rm_X1_remainder s m ([.ref h, .long (lI (m_))] : List Value).toArray below meth c s.heap [] 0 0 Q (F0 m 10 ls []) := by
    intro μ
    induction μ with
    | zero => intro j y t ls hμ; exact absurd hμ (Nat.not_lt_zero _)
    | succ μ ih =>
      intro j y t ls hμ hy hj ht hl
      have t1 := Int.emod_nonneg (wv g j (n - j)) (show m_ ≠ 0 by omega)
      have t2 := Int.emod_lt_of_pos (wv g j (n - j)) (show 0 < m_ by omega)
      rw [← ht] at t1 t2
      refine mv_iload B dX1_remainder_10 (lv_at hl 0 rfl) ?_
      refine mv_if_lt (tgt := 75) B dX1_remainder_12 (by decide) (by omega) (fun hd0 => ?_) (fun hd0 => ?_)
      · obtain rfl : j = 0 := by omega
        rw [Nat.sub_zero, wv_all] at ht
        refine mv_aload_n B dX1_remainder_75 rfl (lv_at hl 2 rfl) ?_
        refine ww_below B hI hh1 uin_X1 kw_26 dX1_remainder_76 ?_
        refine mv_if_eq (tgt := 94) B dX1_remainder_79 (by decide) (by omega) (fun hd1 => ?_) (fun hd1 => ?_)
        · refine mv_lload_n B dX1_remainder_94 rfl (lv_at hl 1 rfl) ?_
          exact mw_lret B hQ hrt hI ⟨by rw [ht, show dv g n = z by omega], hf⟩ dX1_remainder_95
        · refine mv_lload_n B dX1_remainder_82 rfl (lv_at hl 1 rfl) ?_
          refine mv_lconst0 B dX1_remainder_83 ?_
          refine mv_lcmp_eq (tgt := 94) B dX1_remainder_84 dX1_remainder_85 (by decide) (by omega) (fun hd2 => ?_) (fun hd2 => ?_)
          · refine mv_lload_n B dX1_remainder_94 rfl (lv_at hl 1 rfl) ?_
            exact mw_lret B hQ hrt hI ⟨by rw [neg_mod0 (show z = -dv g n by omega) (by omega)]; rw [hd2], hf⟩ dX1_remainder_95
          · refine mv_lload_n B dX1_remainder_88 rfl (lv_at hl 3 rfl) ?_
            refine mv_lload_n B dX1_remainder_89 rfl (lv_at hl 1 rfl) ?_
            refine mv_lsub B dX1_remainder_90 ?_
            refine mv_goto (tgt := 95) B dX1_remainder_91 (by decide) ?_
            exact mw_lret B hQ hrt hI ⟨by rw [neg_mod1 (show z = -dv g n by omega) (by omega) (by omega), ht], hf⟩ dX1_remainder_95
      · obtain ⟨k, rfl⟩ : ∃ k, j = k + 1 := ⟨j - 1, by omega⟩
        have g1 := hz.2.1 k (by omega)
        refine mv_gets B hI hZ2 hSt.2.2.2.2 dX1_remainder_15 ?_
        refine mv_astore (lv' := [(6, .ref tb2), (5, .int (iI (y))), (3, .long (lI (t))), (0, .ref h), (1, .long (lI (m_)))]) B dX1_remainder_18 hl (by decide) rfl (fun ls hl => ?_)
        refine mv_aload B dX1_remainder_20 (lv_at hl 0 rfl) ?_
        refine mv_tlen B hI hV2 dX1_remainder_22 ?_
        refine mv_istore (lv' := [(7, .int (iI (((8 : Nat) : Int)))), (6, .ref tb2), (5, .int (iI (y))), (3, .long (lI (t))), (0, .ref h), (1, .long (lI (m_)))]) B dX1_remainder_23 hl (by decide) rfl (fun ls hl => ?_)
        refine mv_iconst B dX1_remainder_25 ?_
        refine mv_istore (lv' := [(8, .int (iI (0))), (7, .int (iI (((8 : Nat) : Int)))), (6, .ref tb2), (5, .int (iI (y))), (3, .long (lI (t))), (0, .ref h), (1, .long (lI (m_)))]) B dX1_remainder_26 hl (by decide) rfl (fun ls hl => ?_)
        have loop2 : ∀ (μ : Nat) (i : Nat) (u x : Int) (ls : Array Slot), 8 - i < μ → u = (i : Int) → i ≤ 8 → x = (t * fp_ i) % m_ → lv_has ls 10 [(8, .int (iI (u))), (3, .long (lI (x))), (7, .int (iI (((8 : Nat) : Int)))), (6, .ref tb2), (5, .int (iI (y))), (0, .ref h), (1, .long (lI (m_)))] → W p l e rm_X1_remainder s m ([.ref h, .long (lI (m_))] : List Value).toArray below meth c s.heap [] 0 0 Q (F0 m 28 ls []) := by
          intro μ
          induction μ with
          | zero => intro i u x ls hμ; exact absurd hμ (Nat.not_lt_zero _)
          | succ μ ih2 =>
            intro i u x ls hμ hu hi hx hl
            have x1 := Int.emod_nonneg (t * fp_ i) (show m_ ≠ 0 by omega)
            have x2 := Int.emod_lt_of_pos (t * fp_ i) (show 0 < m_ by omega)
            rw [← hx] at x1 x2
            refine mv_iload B dX1_remainder_28 (lv_at hl 0 rfl) ?_
            refine mv_iload B dX1_remainder_30 (lv_at hl 2 rfl) ?_
            refine mv_icmp_ge (tgt := 56) B dX1_remainder_32 (by decide) (by omega) (fun he0 => ?_) (fun he0 => ?_)
            · obtain rfl : i = 8 := by omega
              refine mv_lload_n B dX1_remainder_56 rfl (lv_at hl 1 rfl) ?_
              refine mv_aload_n B dX1_remainder_57 rfl (lv_at hl 5 rfl) ?_
              refine ww_parts B hI hh1 uin_X1 kw_22 dX1_remainder_58 ?_
              refine mv_iload B dX1_remainder_61 (lv_at hl 4 rfl) ?_
              refine mw_iald B hI 0 hr1 rfl (k) (by omega) (by omega) (by decide) dX1_remainder_63 ?_
              refine mv_i2l B dX1_remainder_64 (by omega) ?_
              refine mv_ladd B dX1_remainder_65 ?_
              refine mv_lload_n B dX1_remainder_66 rfl (lv_at hl 6 rfl) ?_
              refine mv_lrem B dX1_remainder_67 (by omega) ?_
              refine mv_lstore_n (lv' := [(3, .long (lI (((x) + (g (k))) % (m_)))), (8, .int (iI (u))), (7, .int (iI (((8 : Nat) : Int)))), (6, .ref tb2), (5, .int (iI (y))), (0, .ref h), (1, .long (lI (m_)))]) B dX1_remainder_68 rfl hl (by decide) rfl (fun ls hl => ?_)
              refine mv_iinc (k := 4) (lv' := [(5, .int (iI (y + (-1)))), (3, .long (lI (((x) + (g (k))) % (m_)))), (8, .int (iI (u))), (7, .int (iI (((8 : Nat) : Int)))), (6, .ref tb2), (0, .ref h), (1, .long (lI (m_)))]) B dX1_remainder_69 hl rfl (by decide) rfl (fun ls hl => ?_)
              refine mv_goto (tgt := 10) B dX1_remainder_72 (by decide) ?_
              refine ih k _ _ ls (by omega) (by omega) (by omega) ?_ (lv_sub hl [0, 1, 5, 6] rfl)
              rw [show n - k = (n - (k + 1)) + 1 by omega, wv_cons, hx, ht]
              exact mod_horner _ _ _
            · have c1 := fc_in i (by omega)
              have x3 : 0 ≤ x * fc_ i ∧ x * fc_ i ≤ 1152921504606846976 * 8 - 8 := mul_rng x1 (by omega) c1
              refine mv_aload B dX1_remainder_35 (lv_at hl 3 rfl) ?_
              refine mv_iload B dX1_remainder_37 (lv_at hl 0 rfl) ?_
              refine mv_tab B hI hV2 (i) (by omega) (by omega) (by decide) dX1_remainder_39 ?_
              refine mv_istore (lv' := [(9, .int (iI (fc_ (i)))), (8, .int (iI (u))), (3, .long (lI (x))), (7, .int (iI (((8 : Nat) : Int)))), (6, .ref tb2), (5, .int (iI (y))), (0, .ref h), (1, .long (lI (m_)))]) B dX1_remainder_40 hl (by decide) rfl (fun ls hl => ?_)
              refine mv_lload_n B dX1_remainder_42 rfl (lv_at hl 2 rfl) ?_
              refine mv_iload B dX1_remainder_43 (lv_at hl 0 rfl) ?_
              refine mv_i2l B dX1_remainder_45 (by omega) ?_
              refine mv_lmul B dX1_remainder_46 ?_
              refine mv_lload_n B dX1_remainder_47 rfl (lv_at hl 7 rfl) ?_
              refine mv_lrem B dX1_remainder_48 (by omega) ?_
              refine mv_lstore_n (lv' := [(3, .long (lI (((x) * (fc_ (i))) % (m_)))), (9, .int (iI (fc_ (i)))), (8, .int (iI (u))), (7, .int (iI (((8 : Nat) : Int)))), (6, .ref tb2), (5, .int (iI (y))), (0, .ref h), (1, .long (lI (m_)))]) B dX1_remainder_49 rfl hl (by decide) rfl (fun ls hl => ?_)
              refine mv_iinc (k := 2) (lv' := [(8, .int (iI (u + 1))), (3, .long (lI (((x) * (fc_ (i))) % (m_)))), (9, .int (iI (fc_ (i)))), (7, .int (iI (((8 : Nat) : Int)))), (6, .ref tb2), (5, .int (iI (y))), (0, .ref h), (1, .long (lI (m_)))]) B dX1_remainder_50 hl rfl (by decide) rfl (fun ls hl => ?_)
              refine mv_goto (tgt := 28) B dX1_remainder_53 (by decide) ?_
              refine ih2 (i + 1) _ _ ls (by omega) (by omega) (by omega) ?_ (lv_sub hl [0, 1, 3, 4, 5, 6, 7] rfl)
              rw [hx, fp_s]
              exact mod_mul _ _ _ _
        exact loop2 9 0 _ _ ls (by omega) rfl (by omega) (by rw [fp_0, Int.mul_one, Int.emod_eq_of_lt t1 t2]) (lv_sub hl [0, 4, 1, 2, 3, 5, 6] rfl)
  exact loop (n + 1) n _ _ ls (Nat.lt_succ_self n) rfl (Nat.le_refl n) (by rw [Nat.sub_self, wv_0]; simp) (lv_sub hl [0, 1, 2, 3] rfl)
