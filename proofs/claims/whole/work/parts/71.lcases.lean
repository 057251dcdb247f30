section LC
variable {p : Program} {l : Launch} {e : Env} {s : State} {m : MethodId} {below : List Frame} {meth : Method} {c : Code} {Q : State → Prop} {D : va_G} {kA : Nat → ClassId} {A : Nat → Prop} {b L : Nat} {xs : Nat → Int32} {d sl pa : Nat} {w ra : Nat → Nat} {o li si su di : Nat}
set_option maxHeartbeats 4000000 in
set_option maxRecDepth 100000 in
theorem lc_set (B : mw_C p s m #[Value.ref b] meth c code 4 "BigDeskLaw" gw D vwCl (tyL kA)) (hA : ∀ q, s.heap.size ≤ q → A q) (hSt : st_S A s) (hX : va_X b L xs s s.heap) (hbl : b < s.heap.size) (hbA : ¬ A b) (hL : L ≤ 2560) {f : mw_M} {H : Heap} {locs : List Loc} {ls : Array Slot} {i : Int} {j : Nat} {Y Z : Nat → Int} (hi : i = (j : Int)) (hj : j + 5 ≤ L) (hI : mw_I D vwCl A s H locs f) (hW : lwI kA f d sl pa w ra o li si su di Y Z) (hl : lv_has ls 4 [(3, .int (iI i)), (2, .ref o), (1, .ref d), (0, .ref b)]) (kk : ∀ (f : mw_M) (H : Heap) (locs : List Loc) (ls : Array Slot) (Y Z : Nat → Int), lwI kA f d sl pa w ra o li si su di Y Z → mw_I D vwCl A s H locs f → lv_has ls 4 [(3, .int (iI i)), (2, .ref o), (1, .ref d), (0, .ref b)] → W p l e room_1 s m #[Value.ref b] below meth c H locs 600000 7302250 Q (F0 m 930 ls [])) : W p l e room_1 s m #[Value.ref b] below meth c H locs 600000 7302250 Q (F0 m 128 ls []) := by
  have x1 := sx_r xs (j + 1)
  have x2 := sx_r xs (j + 2)
  have x3 := sx_r xs (j + 3)
  have x4 := sx_r xs (j + 4)
  obtain ⟨hD, -, h24, hs, hB, hdis⟩ := id hW
  have hBz : ∀ i, i < 16 → ((Z i).natAbs : Int) < 1000000 ^ 50 := fun i hi => by rw [← hs i hi]; exact hB i hi
  refine mv_aload_n B dXL_law_128 rfl (lv_at hl 2 rfl) ?_
  refine mv_aload_n B dXL_law_129 rfl (lv_at hl 3 rfl) ?_
  refine mv_iload_n B dXL_law_130 rfl (lv_at hl 0 rfl) ?_
  refine mv_iconst B dXL_law_131 ?_
  refine mv_iadd B dXL_law_132 ?_
  refine mw_sld B hI hX hbl hbA hL (j + 1) (by omega) (by omega) dXL_law_133 ?_
  refine mv_aload_n B dXL_law_134 rfl (lv_at hl 3 rfl) ?_
  refine mv_iload_n B dXL_law_135 rfl (lv_at hl 0 rfl) ?_
  refine mv_iconst B dXL_law_136 ?_
  refine mv_iadd B dXL_law_137 ?_
  refine mw_sld B hI hX hbl hbA hL (j + 2) (by omega) (by omega) dXL_law_138 ?_
  refine mv_i2l B dXL_law_139 (by omega) ?_
  refine mv_bipush B dXL_law_140 (by decide) ?_
  refine mv_lshl32 B dXL_law_142 ?_
  refine mv_aload_n B dXL_law_143 rfl (lv_at hl 3 rfl) ?_
  refine mv_iload_n B dXL_law_144 rfl (lv_at hl 0 rfl) ?_
  refine mv_iconst B dXL_law_145 ?_
  refine mv_iadd B dXL_law_146 ?_
  refine mw_sld B hI hX hbl hbA hL (j + 3) (by omega) (by omega) dXL_law_147 ?_
  refine mv_i2l B dXL_law_148 (by omega) ?_
  refine mv_ldc2 (z := 4294967295) B dXL_law_149 kw_548 (by decide) ?_
  refine mv_lmask32 B dXL_law_152 ?_
  refine mv_lor32 B dXL_law_153 (by omega) ?_
  refine mw_calli hI hA (va_runV (As := [.int (iI (sx xs (j + 1))), .long (lI (sx xs (j + 2) * 4294967296 + sx xs (j + 3) % 4294967296))]) (rest := []) B.fix (t_X2_set l D kA H.size f hD hB (by omega) (by omega)) (cwV 2 B.2.2.2.2.1 (gV kw_89 kw_90 kw_91 kw_1 kw_92) rfl rfl rfl (by decide +kernel) ⟨Nat.le_of_ble_eq_true rfl, Nat.le_of_ble_eq_true rfl⟩) ⟨mw_blind st_S.blind, mw_recv B hI hD.1 rfl, mw_pre B hI (hSt.call hI hA)⟩ rfl rfl hl.1 rfl (lv_room (Nat.le_of_ble_eq_true rfl)) dXL_law_154 ⟨Nat.le_of_ble_eq_true rfl, Nat.le_of_ble_eq_true rfl⟩) (fun r f H locs hp hI2 => ?_)
  clear hI
  have hI := hI2
  clear hI2
  obtain ⟨rfl, ⟨Y1, hD1, hY1⟩, off1⟩ := hp
  have hm := hW.mid off1
  refine mv_aload_n B dXL_law_157 rfl (lv_at hl 1 rfl) ?_
  refine mv_aload_n B dXL_law_158 rfl (lv_at hl 3 rfl) ?_
  refine mv_iload_n B dXL_law_159 rfl (lv_at hl 0 rfl) ?_
  refine mv_iconst B dXL_law_160 ?_
  refine mv_iadd B dXL_law_161 ?_
  refine mw_sld B hI hX hbl hbA hL (j + 1) (by omega) (by omega) dXL_law_162 ?_
  refine mv_aload_n B dXL_law_163 rfl (lv_at hl 3 rfl) ?_
  refine mv_iload_n B dXL_law_164 rfl (lv_at hl 0 rfl) ?_
  refine mv_iconst B dXL_law_165 ?_
  refine mv_iadd B dXL_law_166 ?_
  refine mw_sld B hI hX hbl hbA hL (j + 2) (by omega) (by omega) dXL_law_167 ?_
  refine mv_i2l B dXL_law_168 (by omega) ?_
  refine mv_bipush B dXL_law_169 (by decide) ?_
  refine mv_lshl32 B dXL_law_171 ?_
  refine mv_aload_n B dXL_law_172 rfl (lv_at hl 3 rfl) ?_
  refine mv_iload_n B dXL_law_173 rfl (lv_at hl 0 rfl) ?_
  refine mv_iconst B dXL_law_174 ?_
  refine mv_iadd B dXL_law_175 ?_
  refine mw_sld B hI hX hbl hbA hL (j + 3) (by omega) (by omega) dXL_law_176 ?_
  refine mv_i2l B dXL_law_177 (by omega) ?_
  refine mv_ldc2 (z := 4294967295) B dXL_law_178 kw_548 (by decide) ?_
  refine mv_lmask32 B dXL_law_181 ?_
  refine mv_lor32 B dXL_law_182 (by omega) ?_
  refine mw_calli hI hA (va_runV (As := [.int (iI (sx xs (j + 1))), .long (lI (sx xs (j + 2) * 4294967296 + sx xs (j + 3) % 4294967296))]) (rest := [.int (iI ((sp_set Y (sx xs (j + 1)) (sx xs (j + 2) * 4294967296 + sx xs (j + 3) % 4294967296)).1))]) B.fix (t_X3_set l D kA H.size f hm h24 hBz (by omega) (by omega)) (cwV 2 B.2.2.2.2.1 (gV kw_395 kw_396 kw_397 kw_4 kw_398) rfl rfl rfl (by decide +kernel) ⟨Nat.le_of_ble_eq_true rfl, Nat.le_of_ble_eq_true rfl⟩) ⟨mw_blind st_S.blind, mw_recv B hI (by obtain ⟨_, _, _, _, q, _⟩ := hm; exact q.1) rfl, mw_pre B hI (hSt.call hI hA)⟩ rfl rfl hl.1 rfl (lv_room (Nat.le_of_ble_eq_true rfl)) dXL_law_183 ⟨Nat.le_of_ble_eq_true rfl, Nat.le_of_ble_eq_true rfl⟩) (fun r f H locs hp hI2 => ?_)
  clear hI
  have hI := hI2
  clear hI2
  obtain ⟨rfl, Z1, hm1, x24, hZ1⟩ := hp
  have sc := sc_set (a := (sx xs (j + 1))) (v := (sx xs (j + 2) * 4294967296 + sx xs (j + 3) % 4294967296)) hs hB (by omega)
  rw [sc.1]
  refine mv_eqT (tgt := 930) B dXL_law_186 (by decide) ?_
  exact kk f H locs ls Y1 Z1 (hW.next hD1 hm1 x24 (fun i hi => (hY1 i hi).trans ((sc.2.1 i hi).trans (hZ1 i hi).symm)) (fun i hi => by rw [hY1 i hi]; exact sc.2.2 i hi)) hI hl
set_option maxHeartbeats 4000000 in
set_option maxRecDepth 100000 in
theorem lc_digit (B : mw_C p s m #[Value.ref b] meth c code 4 "BigDeskLaw" gw D vwCl (tyL kA)) (hA : ∀ q, s.heap.size ≤ q → A q) (hSt : st_S A s) (hX : va_X b L xs s s.heap) (hbl : b < s.heap.size) (hbA : ¬ A b) (hL : L ≤ 2560) {f : mw_M} {H : Heap} {locs : List Loc} {ls : Array Slot} {i : Int} {j : Nat} {Y Z : Nat → Int} (hi : i = (j : Int)) (hj : j + 5 ≤ L) (hI : mw_I D vwCl A s H locs f) (hW : lwI kA f d sl pa w ra o li si su di Y Z) (hl : lv_has ls 4 [(3, .int (iI i)), (2, .ref o), (1, .ref d), (0, .ref b)]) (kk : ∀ (f : mw_M) (H : Heap) (locs : List Loc) (ls : Array Slot) (Y Z : Nat → Int), lwI kA f d sl pa w ra o li si su di Y Z → mw_I D vwCl A s H locs f → lv_has ls 4 [(3, .int (iI i)), (2, .ref o), (1, .ref d), (0, .ref b)] → W p l e room_1 s m #[Value.ref b] below meth c H locs 600000 7302250 Q (F0 m 930 ls [])) : W p l e room_1 s m #[Value.ref b] below meth c H locs 600000 7302250 Q (F0 m 191 ls []) := by
  have x1 := sx_r xs (j + 1)
  have x2 := sx_r xs (j + 2)
  have x3 := sx_r xs (j + 3)
  have x4 := sx_r xs (j + 4)
  obtain ⟨hD, -, h24, hs, hB, hdis⟩ := id hW
  have hBz : ∀ i, i < 16 → ((Z i).natAbs : Int) < 1000000 ^ 50 := fun i hi => by rw [← hs i hi]; exact hB i hi
  refine mv_aload_n B dXL_law_191 rfl (lv_at hl 2 rfl) ?_
  refine mv_aload_n B dXL_law_192 rfl (lv_at hl 3 rfl) ?_
  refine mv_iload_n B dXL_law_193 rfl (lv_at hl 0 rfl) ?_
  refine mv_iconst B dXL_law_194 ?_
  refine mv_iadd B dXL_law_195 ?_
  refine mw_sld B hI hX hbl hbA hL (j + 1) (by omega) (by omega) dXL_law_196 ?_
  refine mv_aload_n B dXL_law_197 rfl (lv_at hl 3 rfl) ?_
  refine mv_iload_n B dXL_law_198 rfl (lv_at hl 0 rfl) ?_
  refine mv_iconst B dXL_law_199 ?_
  refine mv_iadd B dXL_law_200 ?_
  refine mw_sld B hI hX hbl hbA hL (j + 2) (by omega) (by omega) dXL_law_201 ?_
  refine mw_calli hI hA (va_runV (As := [.int (iI (sx xs (j + 1))), .int (iI (sx xs (j + 2)))]) (rest := []) B.fix (t_X2_digit l D kA H.size f hD hB (by omega) (by omega)) (cwV 2 B.2.2.2.2.1 (gV kw_108 kw_109 kw_110 kw_1 kw_111) rfl rfl rfl (by decide +kernel) ⟨Nat.le_of_ble_eq_true rfl, Nat.le_of_ble_eq_true rfl⟩) ⟨mw_blind st_S.blind, mw_recv B hI hD.1 rfl, mw_pre B hI (hSt.call hI hA)⟩ rfl rfl hl.1 rfl (lv_room (Nat.le_of_ble_eq_true rfl)) dXL_law_202 ⟨Nat.le_of_ble_eq_true rfl, Nat.le_of_ble_eq_true rfl⟩) (fun r f H locs hp hI2 => ?_)
  clear hI
  have hI := hI2
  clear hI2
  obtain ⟨rfl, ⟨Y1, hD1, hY1⟩, off1⟩ := hp
  have hm := hW.mid off1
  refine mv_aload_n B dXL_law_205 rfl (lv_at hl 1 rfl) ?_
  refine mv_aload_n B dXL_law_206 rfl (lv_at hl 3 rfl) ?_
  refine mv_iload_n B dXL_law_207 rfl (lv_at hl 0 rfl) ?_
  refine mv_iconst B dXL_law_208 ?_
  refine mv_iadd B dXL_law_209 ?_
  refine mw_sld B hI hX hbl hbA hL (j + 1) (by omega) (by omega) dXL_law_210 ?_
  refine mv_aload_n B dXL_law_211 rfl (lv_at hl 3 rfl) ?_
  refine mv_iload_n B dXL_law_212 rfl (lv_at hl 0 rfl) ?_
  refine mv_iconst B dXL_law_213 ?_
  refine mv_iadd B dXL_law_214 ?_
  refine mw_sld B hI hX hbl hbA hL (j + 2) (by omega) (by omega) dXL_law_215 ?_
  refine mw_calli hI hA (va_runV (As := [.int (iI (sx xs (j + 1))), .int (iI (sx xs (j + 2)))]) (rest := [.int (iI ((sp_digit Y (sx xs (j + 1)) (sx xs (j + 2))).1))]) B.fix (t_X3_digit l D kA H.size f hm h24 hBz (by omega) (by omega)) (cwV 2 B.2.2.2.2.1 (gV kw_402 kw_403 kw_404 kw_4 kw_405) rfl rfl rfl (by decide +kernel) ⟨Nat.le_of_ble_eq_true rfl, Nat.le_of_ble_eq_true rfl⟩) ⟨mw_blind st_S.blind, mw_recv B hI (by obtain ⟨_, _, _, _, q, _⟩ := hm; exact q.1) rfl, mw_pre B hI (hSt.call hI hA)⟩ rfl rfl hl.1 rfl (lv_room (Nat.le_of_ble_eq_true rfl)) dXL_law_216 ⟨Nat.le_of_ble_eq_true rfl, Nat.le_of_ble_eq_true rfl⟩) (fun r f H locs hp hI2 => ?_)
  clear hI
  have hI := hI2
  clear hI2
  obtain ⟨rfl, Z1, hm1, x24, hZ1⟩ := hp
  have sc := sc_digit (a := (sx xs (j + 1))) (d := (sx xs (j + 2))) hs hB
  rw [sc.1]
  refine mv_eqT (tgt := 930) B dXL_law_219 (by decide) ?_
  exact kk f H locs ls Y1 Z1 (hW.next hD1 hm1 x24 (fun i hi => (hY1 i hi).trans ((sc.2.1 i hi).trans (hZ1 i hi).symm)) (fun i hi => by rw [hY1 i hi]; exact sc.2.2 i hi)) hI hl
set_option maxHeartbeats 4000000 in
set_option maxRecDepth 100000 in
theorem lc_copy (B : mw_C p s m #[Value.ref b] meth c code 4 "BigDeskLaw" gw D vwCl (tyL kA)) (hA : ∀ q, s.heap.size ≤ q → A q) (hSt : st_S A s) (hX : va_X b L xs s s.heap) (hbl : b < s.heap.size) (hbA : ¬ A b) (hL : L ≤ 2560) {f : mw_M} {H : Heap} {locs : List Loc} {ls : Array Slot} {i : Int} {j : Nat} {Y Z : Nat → Int} (hi : i = (j : Int)) (hj : j + 5 ≤ L) (hI : mw_I D vwCl A s H locs f) (hW : lwI kA f d sl pa w ra o li si su di Y Z) (hl : lv_has ls 4 [(3, .int (iI i)), (2, .ref o), (1, .ref d), (0, .ref b)]) (kk : ∀ (f : mw_M) (H : Heap) (locs : List Loc) (ls : Array Slot) (Y Z : Nat → Int), lwI kA f d sl pa w ra o li si su di Y Z → mw_I D vwCl A s H locs f → lv_has ls 4 [(3, .int (iI i)), (2, .ref o), (1, .ref d), (0, .ref b)] → W p l e room_1 s m #[Value.ref b] below meth c H locs 600000 7302250 Q (F0 m 930 ls [])) : W p l e room_1 s m #[Value.ref b] below meth c H locs 600000 7302250 Q (F0 m 224 ls []) := by
  have x1 := sx_r xs (j + 1)
  have x2 := sx_r xs (j + 2)
  have x3 := sx_r xs (j + 3)
  have x4 := sx_r xs (j + 4)
  obtain ⟨hD, -, h24, hs, hB, hdis⟩ := id hW
  have hBz : ∀ i, i < 16 → ((Z i).natAbs : Int) < 1000000 ^ 50 := fun i hi => by rw [← hs i hi]; exact hB i hi
  refine mv_aload_n B dXL_law_224 rfl (lv_at hl 2 rfl) ?_
  refine mv_aload_n B dXL_law_225 rfl (lv_at hl 3 rfl) ?_
  refine mv_iload_n B dXL_law_226 rfl (lv_at hl 0 rfl) ?_
  refine mv_iconst B dXL_law_227 ?_
  refine mv_iadd B dXL_law_228 ?_
  refine mw_sld B hI hX hbl hbA hL (j + 1) (by omega) (by omega) dXL_law_229 ?_
  refine mv_aload_n B dXL_law_230 rfl (lv_at hl 3 rfl) ?_
  refine mv_iload_n B dXL_law_231 rfl (lv_at hl 0 rfl) ?_
  refine mv_iconst B dXL_law_232 ?_
  refine mv_iadd B dXL_law_233 ?_
  refine mw_sld B hI hX hbl hbA hL (j + 2) (by omega) (by omega) dXL_law_234 ?_
  refine mw_calli hI hA (va_runV (As := [.int (iI (sx xs (j + 1))), .int (iI (sx xs (j + 2)))]) (rest := []) B.fix (t_X2_copy l D kA H.size f hD hB (by omega) (by omega)) (cwV 2 B.2.2.2.2.1 (gV kw_159 kw_160 kw_161 kw_1 kw_162) rfl rfl rfl (by decide +kernel) ⟨Nat.le_of_ble_eq_true rfl, Nat.le_of_ble_eq_true rfl⟩) ⟨mw_blind st_S.blind, mw_recv B hI hD.1 rfl, mw_pre B hI (hSt.call hI hA)⟩ rfl rfl hl.1 rfl (lv_room (Nat.le_of_ble_eq_true rfl)) dXL_law_235 ⟨Nat.le_of_ble_eq_true rfl, Nat.le_of_ble_eq_true rfl⟩) (fun r f H locs hp hI2 => ?_)
  clear hI
  have hI := hI2
  clear hI2
  obtain ⟨rfl, ⟨Y1, hD1, hY1⟩, off1⟩ := hp
  have hm := hW.mid off1
  refine mv_aload_n B dXL_law_238 rfl (lv_at hl 1 rfl) ?_
  refine mv_aload_n B dXL_law_239 rfl (lv_at hl 3 rfl) ?_
  refine mv_iload_n B dXL_law_240 rfl (lv_at hl 0 rfl) ?_
  refine mv_iconst B dXL_law_241 ?_
  refine mv_iadd B dXL_law_242 ?_
  refine mw_sld B hI hX hbl hbA hL (j + 1) (by omega) (by omega) dXL_law_243 ?_
  refine mv_aload_n B dXL_law_244 rfl (lv_at hl 3 rfl) ?_
  refine mv_iload_n B dXL_law_245 rfl (lv_at hl 0 rfl) ?_
  refine mv_iconst B dXL_law_246 ?_
  refine mv_iadd B dXL_law_247 ?_
  refine mw_sld B hI hX hbl hbA hL (j + 2) (by omega) (by omega) dXL_law_248 ?_
  refine mw_calli hI hA (va_runV (As := [.int (iI (sx xs (j + 1))), .int (iI (sx xs (j + 2)))]) (rest := [.int (iI ((sp_copy Y (sx xs (j + 1)) (sx xs (j + 2))).1))]) B.fix (t_X3_copy l D kA H.size f hm h24 hBz (by omega) (by omega)) (cwV 2 B.2.2.2.2.1 (gV kw_434 kw_435 kw_436 kw_4 kw_437) rfl rfl rfl (by decide +kernel) ⟨Nat.le_of_ble_eq_true rfl, Nat.le_of_ble_eq_true rfl⟩) ⟨mw_blind st_S.blind, mw_recv B hI (by obtain ⟨_, _, _, _, q, _⟩ := hm; exact q.1) rfl, mw_pre B hI (hSt.call hI hA)⟩ rfl rfl hl.1 rfl (lv_room (Nat.le_of_ble_eq_true rfl)) dXL_law_249 ⟨Nat.le_of_ble_eq_true rfl, Nat.le_of_ble_eq_true rfl⟩) (fun r f H locs hp hI2 => ?_)
  clear hI
  have hI := hI2
  clear hI2
  obtain ⟨rfl, Z1, hm1, x24, hZ1⟩ := hp
  have sc := sc_copy (a := (sx xs (j + 1))) (t := (sx xs (j + 2))) hs hB
  rw [sc.1]
  refine mv_eqT (tgt := 930) B dXL_law_252 (by decide) ?_
  exact kk f H locs ls Y1 Z1 (hW.next hD1 hm1 x24 (fun i hi => (hY1 i hi).trans ((sc.2.1 i hi).trans (hZ1 i hi).symm)) (fun i hi => by rw [hY1 i hi]; exact sc.2.2 i hi)) hI hl
set_option maxHeartbeats 4000000 in
set_option maxRecDepth 100000 in
theorem lc_sum (B : mw_C p s m #[Value.ref b] meth c code 4 "BigDeskLaw" gw D vwCl (tyL kA)) (hA : ∀ q, s.heap.size ≤ q → A q) (hSt : st_S A s) (hX : va_X b L xs s s.heap) (hbl : b < s.heap.size) (hbA : ¬ A b) (hL : L ≤ 2560) {f : mw_M} {H : Heap} {locs : List Loc} {ls : Array Slot} {i : Int} {j : Nat} {Y Z : Nat → Int} (hi : i = (j : Int)) (hj : j + 5 ≤ L) (hI : mw_I D vwCl A s H locs f) (hW : lwI kA f d sl pa w ra o li si su di Y Z) (hl : lv_has ls 4 [(3, .int (iI i)), (2, .ref o), (1, .ref d), (0, .ref b)]) (kk : ∀ (f : mw_M) (H : Heap) (locs : List Loc) (ls : Array Slot) (Y Z : Nat → Int), lwI kA f d sl pa w ra o li si su di Y Z → mw_I D vwCl A s H locs f → lv_has ls 4 [(3, .int (iI i)), (2, .ref o), (1, .ref d), (0, .ref b)] → W p l e room_1 s m #[Value.ref b] below meth c H locs 600000 7302250 Q (F0 m 930 ls [])) : W p l e room_1 s m #[Value.ref b] below meth c H locs 600000 7302250 Q (F0 m 257 ls []) := by
  have x1 := sx_r xs (j + 1)
  have x2 := sx_r xs (j + 2)
  have x3 := sx_r xs (j + 3)
  have x4 := sx_r xs (j + 4)
  obtain ⟨hD, -, h24, hs, hB, hdis⟩ := id hW
  have hBz : ∀ i, i < 16 → ((Z i).natAbs : Int) < 1000000 ^ 50 := fun i hi => by rw [← hs i hi]; exact hB i hi
  refine mv_aload_n B dXL_law_257 rfl (lv_at hl 2 rfl) ?_
  refine mv_aload_n B dXL_law_258 rfl (lv_at hl 3 rfl) ?_
  refine mv_iload_n B dXL_law_259 rfl (lv_at hl 0 rfl) ?_
  refine mv_iconst B dXL_law_260 ?_
  refine mv_iadd B dXL_law_261 ?_
  refine mw_sld B hI hX hbl hbA hL (j + 1) (by omega) (by omega) dXL_law_262 ?_
  refine mv_aload_n B dXL_law_263 rfl (lv_at hl 3 rfl) ?_
  refine mv_iload_n B dXL_law_264 rfl (lv_at hl 0 rfl) ?_
  refine mv_iconst B dXL_law_265 ?_
  refine mv_iadd B dXL_law_266 ?_
  refine mw_sld B hI hX hbl hbA hL (j + 2) (by omega) (by omega) dXL_law_267 ?_
  refine mv_aload_n B dXL_law_268 rfl (lv_at hl 3 rfl) ?_
  refine mv_iload_n B dXL_law_269 rfl (lv_at hl 0 rfl) ?_
  refine mv_iconst B dXL_law_270 ?_
  refine mv_iadd B dXL_law_271 ?_
  refine mw_sld B hI hX hbl hbA hL (j + 3) (by omega) (by omega) dXL_law_272 ?_
  refine mw_calli hI hA (va_runV (As := [.int (iI (sx xs (j + 1))), .int (iI (sx xs (j + 2))), .int (iI (sx xs (j + 3)))]) (rest := []) B.fix (t_X2_sum l D kA H.size f hD hB (by omega) (by omega) (by omega)) (cwV 3 B.2.2.2.2.1 (gV kw_166 kw_167 kw_168 kw_1 kw_169) rfl rfl rfl (by decide +kernel) ⟨Nat.le_of_ble_eq_true rfl, Nat.le_of_ble_eq_true rfl⟩) ⟨mw_blind st_S.blind, mw_recv B hI hD.1 rfl, mw_pre B hI (hSt.call hI hA)⟩ rfl rfl hl.1 rfl (lv_room (Nat.le_of_ble_eq_true rfl)) dXL_law_273 ⟨Nat.le_of_ble_eq_true rfl, Nat.le_of_ble_eq_true rfl⟩) (fun r f H locs hp hI2 => ?_)
  clear hI
  have hI := hI2
  clear hI2
  obtain ⟨rfl, ⟨Y1, hD1, hY1⟩, off1⟩ := hp
  have hm := hW.mid off1
  refine mv_aload_n B dXL_law_276 rfl (lv_at hl 1 rfl) ?_
  refine mv_aload_n B dXL_law_277 rfl (lv_at hl 3 rfl) ?_
  refine mv_iload_n B dXL_law_278 rfl (lv_at hl 0 rfl) ?_
  refine mv_iconst B dXL_law_279 ?_
  refine mv_iadd B dXL_law_280 ?_
  refine mw_sld B hI hX hbl hbA hL (j + 1) (by omega) (by omega) dXL_law_281 ?_
  refine mv_aload_n B dXL_law_282 rfl (lv_at hl 3 rfl) ?_
  refine mv_iload_n B dXL_law_283 rfl (lv_at hl 0 rfl) ?_
  refine mv_iconst B dXL_law_284 ?_
  refine mv_iadd B dXL_law_285 ?_
  refine mw_sld B hI hX hbl hbA hL (j + 2) (by omega) (by omega) dXL_law_286 ?_
  refine mv_aload_n B dXL_law_287 rfl (lv_at hl 3 rfl) ?_
  refine mv_iload_n B dXL_law_288 rfl (lv_at hl 0 rfl) ?_
  refine mv_iconst B dXL_law_289 ?_
  refine mv_iadd B dXL_law_290 ?_
  refine mw_sld B hI hX hbl hbA hL (j + 3) (by omega) (by omega) dXL_law_291 ?_
  refine mw_calli hI hA (va_runV (As := [.int (iI (sx xs (j + 1))), .int (iI (sx xs (j + 2))), .int (iI (sx xs (j + 3)))]) (rest := [.int (iI ((sp_sum Y (sx xs (j + 1)) (sx xs (j + 2)) (sx xs (j + 3))).1))]) B.fix (t_X3_sum l D kA H.size f hm h24 hBz (by omega) (by omega) (by omega)) (cwV 3 B.2.2.2.2.1 (gV kw_438 kw_439 kw_440 kw_4 kw_441) rfl rfl rfl (by decide +kernel) ⟨Nat.le_of_ble_eq_true rfl, Nat.le_of_ble_eq_true rfl⟩) ⟨mw_blind st_S.blind, mw_recv B hI (by obtain ⟨_, _, _, _, q, _⟩ := hm; exact q.1) rfl, mw_pre B hI (hSt.call hI hA)⟩ rfl rfl hl.1 rfl (lv_room (Nat.le_of_ble_eq_true rfl)) dXL_law_292 ⟨Nat.le_of_ble_eq_true rfl, Nat.le_of_ble_eq_true rfl⟩) (fun r f H locs hp hI2 => ?_)
  clear hI
  have hI := hI2
  clear hI2
  obtain ⟨rfl, Z1, hm1, x24, hZ1⟩ := hp
  have sc := sc_sum (a := (sx xs (j + 1))) (b := (sx xs (j + 2))) (t := (sx xs (j + 3))) hs hB
  rw [sc.1]
  refine mv_eqT (tgt := 930) B dXL_law_295 (by decide) ?_
  exact kk f H locs ls Y1 Z1 (hW.next hD1 hm1 x24 (fun i hi => (hY1 i hi).trans ((sc.2.1 i hi).trans (hZ1 i hi).symm)) (fun i hi => by rw [hY1 i hi]; exact sc.2.2 i hi)) hI hl
set_option maxHeartbeats 4000000 in
set_option maxRecDepth 100000 in
theorem lc_less (B : mw_C p s m #[Value.ref b] meth c code 4 "BigDeskLaw" gw D vwCl (tyL kA)) (hA : ∀ q, s.heap.size ≤ q → A q) (hSt : st_S A s) (hX : va_X b L xs s s.heap) (hbl : b < s.heap.size) (hbA : ¬ A b) (hL : L ≤ 2560) {f : mw_M} {H : Heap} {locs : List Loc} {ls : Array Slot} {i : Int} {j : Nat} {Y Z : Nat → Int} (hi : i = (j : Int)) (hj : j + 5 ≤ L) (hI : mw_I D vwCl A s H locs f) (hW : lwI kA f d sl pa w ra o li si su di Y Z) (hl : lv_has ls 4 [(3, .int (iI i)), (2, .ref o), (1, .ref d), (0, .ref b)]) (kk : ∀ (f : mw_M) (H : Heap) (locs : List Loc) (ls : Array Slot) (Y Z : Nat → Int), lwI kA f d sl pa w ra o li si su di Y Z → mw_I D vwCl A s H locs f → lv_has ls 4 [(3, .int (iI i)), (2, .ref o), (1, .ref d), (0, .ref b)] → W p l e room_1 s m #[Value.ref b] below meth c H locs 600000 7302250 Q (F0 m 930 ls [])) : W p l e room_1 s m #[Value.ref b] below meth c H locs 600000 7302250 Q (F0 m 300 ls []) := by
  have x1 := sx_r xs (j + 1)
  have x2 := sx_r xs (j + 2)
  have x3 := sx_r xs (j + 3)
  have x4 := sx_r xs (j + 4)
  obtain ⟨hD, -, h24, hs, hB, hdis⟩ := id hW
  have hBz : ∀ i, i < 16 → ((Z i).natAbs : Int) < 1000000 ^ 50 := fun i hi => by rw [← hs i hi]; exact hB i hi
  refine mv_aload_n B dXL_law_300 rfl (lv_at hl 2 rfl) ?_
  refine mv_aload_n B dXL_law_301 rfl (lv_at hl 3 rfl) ?_
  refine mv_iload_n B dXL_law_302 rfl (lv_at hl 0 rfl) ?_
  refine mv_iconst B dXL_law_303 ?_
  refine mv_iadd B dXL_law_304 ?_
  refine mw_sld B hI hX hbl hbA hL (j + 1) (by omega) (by omega) dXL_law_305 ?_
  refine mv_aload_n B dXL_law_306 rfl (lv_at hl 3 rfl) ?_
  refine mv_iload_n B dXL_law_307 rfl (lv_at hl 0 rfl) ?_
  refine mv_iconst B dXL_law_308 ?_
  refine mv_iadd B dXL_law_309 ?_
  refine mw_sld B hI hX hbl hbA hL (j + 2) (by omega) (by omega) dXL_law_310 ?_
  refine mv_aload_n B dXL_law_311 rfl (lv_at hl 3 rfl) ?_
  refine mv_iload_n B dXL_law_312 rfl (lv_at hl 0 rfl) ?_
  refine mv_iconst B dXL_law_313 ?_
  refine mv_iadd B dXL_law_314 ?_
  refine mw_sld B hI hX hbl hbA hL (j + 3) (by omega) (by omega) dXL_law_315 ?_
  refine mw_calli hI hA (va_runV (As := [.int (iI (sx xs (j + 1))), .int (iI (sx xs (j + 2))), .int (iI (sx xs (j + 3)))]) (rest := []) B.fix (t_X2_less l D kA H.size f hD hB (by omega) (by omega) (by omega)) (cwV 3 B.2.2.2.2.1 (gV kw_174 kw_175 kw_176 kw_1 kw_177) rfl rfl rfl (by decide +kernel) ⟨Nat.le_of_ble_eq_true rfl, Nat.le_of_ble_eq_true rfl⟩) ⟨mw_blind st_S.blind, mw_recv B hI hD.1 rfl, mw_pre B hI (hSt.call hI hA)⟩ rfl rfl hl.1 rfl (lv_room (Nat.le_of_ble_eq_true rfl)) dXL_law_316 ⟨Nat.le_of_ble_eq_true rfl, Nat.le_of_ble_eq_true rfl⟩) (fun r f H locs hp hI2 => ?_)
  clear hI
  have hI := hI2
  clear hI2
  obtain ⟨rfl, ⟨Y1, hD1, hY1⟩, off1⟩ := hp
  have hm := hW.mid off1
  refine mv_aload_n B dXL_law_319 rfl (lv_at hl 1 rfl) ?_
  refine mv_aload_n B dXL_law_320 rfl (lv_at hl 3 rfl) ?_
  refine mv_iload_n B dXL_law_321 rfl (lv_at hl 0 rfl) ?_
  refine mv_iconst B dXL_law_322 ?_
  refine mv_iadd B dXL_law_323 ?_
  refine mw_sld B hI hX hbl hbA hL (j + 1) (by omega) (by omega) dXL_law_324 ?_
  refine mv_aload_n B dXL_law_325 rfl (lv_at hl 3 rfl) ?_
  refine mv_iload_n B dXL_law_326 rfl (lv_at hl 0 rfl) ?_
  refine mv_iconst B dXL_law_327 ?_
  refine mv_iadd B dXL_law_328 ?_
  refine mw_sld B hI hX hbl hbA hL (j + 2) (by omega) (by omega) dXL_law_329 ?_
  refine mv_aload_n B dXL_law_330 rfl (lv_at hl 3 rfl) ?_
  refine mv_iload_n B dXL_law_331 rfl (lv_at hl 0 rfl) ?_
  refine mv_iconst B dXL_law_332 ?_
  refine mv_iadd B dXL_law_333 ?_
  refine mw_sld B hI hX hbl hbA hL (j + 3) (by omega) (by omega) dXL_law_334 ?_
  refine mw_calli hI hA (va_runV (As := [.int (iI (sx xs (j + 1))), .int (iI (sx xs (j + 2))), .int (iI (sx xs (j + 3)))]) (rest := [.int (iI ((sp_less Y (sx xs (j + 1)) (sx xs (j + 2)) (sx xs (j + 3))).1))]) B.fix (t_X3_less l D kA H.size f hm h24 hBz (by omega) (by omega) (by omega)) (cwV 3 B.2.2.2.2.1 (gV kw_445 kw_446 kw_447 kw_4 kw_448) rfl rfl rfl (by decide +kernel) ⟨Nat.le_of_ble_eq_true rfl, Nat.le_of_ble_eq_true rfl⟩) ⟨mw_blind st_S.blind, mw_recv B hI (by obtain ⟨_, _, _, _, q, _⟩ := hm; exact q.1) rfl, mw_pre B hI (hSt.call hI hA)⟩ rfl rfl hl.1 rfl (lv_room (Nat.le_of_ble_eq_true rfl)) dXL_law_335 ⟨Nat.le_of_ble_eq_true rfl, Nat.le_of_ble_eq_true rfl⟩) (fun r f H locs hp hI2 => ?_)
  clear hI
  have hI := hI2
  clear hI2
  obtain ⟨rfl, Z1, hm1, x24, hZ1⟩ := hp
  have sc := sc_less (a := (sx xs (j + 1))) (b := (sx xs (j + 2))) (t := (sx xs (j + 3))) hs hB
  rw [sc.1]
  refine mv_eqT (tgt := 930) B dXL_law_338 (by decide) ?_
  exact kk f H locs ls Y1 Z1 (hW.next hD1 hm1 x24 (fun i hi => (hY1 i hi).trans ((sc.2.1 i hi).trans (hZ1 i hi).symm)) (fun i hi => by rw [hY1 i hi]; exact sc.2.2 i hi)) hI hl
set_option maxHeartbeats 4000000 in
set_option maxRecDepth 100000 in
theorem lc_product (B : mw_C p s m #[Value.ref b] meth c code 4 "BigDeskLaw" gw D vwCl (tyL kA)) (hA : ∀ q, s.heap.size ≤ q → A q) (hSt : st_S A s) (hX : va_X b L xs s s.heap) (hbl : b < s.heap.size) (hbA : ¬ A b) (hL : L ≤ 2560) {f : mw_M} {H : Heap} {locs : List Loc} {ls : Array Slot} {i : Int} {j : Nat} {Y Z : Nat → Int} (hi : i = (j : Int)) (hj : j + 5 ≤ L) (hI : mw_I D vwCl A s H locs f) (hW : lwI kA f d sl pa w ra o li si su di Y Z) (hl : lv_has ls 4 [(3, .int (iI i)), (2, .ref o), (1, .ref d), (0, .ref b)]) (kk : ∀ (f : mw_M) (H : Heap) (locs : List Loc) (ls : Array Slot) (Y Z : Nat → Int), lwI kA f d sl pa w ra o li si su di Y Z → mw_I D vwCl A s H locs f → lv_has ls 4 [(3, .int (iI i)), (2, .ref o), (1, .ref d), (0, .ref b)] → W p l e room_1 s m #[Value.ref b] below meth c H locs 600000 7302250 Q (F0 m 930 ls [])) : W p l e room_1 s m #[Value.ref b] below meth c H locs 600000 7302250 Q (F0 m 343 ls []) := by
  have x1 := sx_r xs (j + 1)
  have x2 := sx_r xs (j + 2)
  have x3 := sx_r xs (j + 3)
  have x4 := sx_r xs (j + 4)
  obtain ⟨hD, -, h24, hs, hB, hdis⟩ := id hW
  have hBz : ∀ i, i < 16 → ((Z i).natAbs : Int) < 1000000 ^ 50 := fun i hi => by rw [← hs i hi]; exact hB i hi
  refine mv_aload_n B dXL_law_343 rfl (lv_at hl 2 rfl) ?_
  refine mv_aload_n B dXL_law_344 rfl (lv_at hl 3 rfl) ?_
  refine mv_iload_n B dXL_law_345 rfl (lv_at hl 0 rfl) ?_
  refine mv_iconst B dXL_law_346 ?_
  refine mv_iadd B dXL_law_347 ?_
  refine mw_sld B hI hX hbl hbA hL (j + 1) (by omega) (by omega) dXL_law_348 ?_
  refine mv_aload_n B dXL_law_349 rfl (lv_at hl 3 rfl) ?_
  refine mv_iload_n B dXL_law_350 rfl (lv_at hl 0 rfl) ?_
  refine mv_iconst B dXL_law_351 ?_
  refine mv_iadd B dXL_law_352 ?_
  refine mw_sld B hI hX hbl hbA hL (j + 2) (by omega) (by omega) dXL_law_353 ?_
  refine mv_aload_n B dXL_law_354 rfl (lv_at hl 3 rfl) ?_
  refine mv_iload_n B dXL_law_355 rfl (lv_at hl 0 rfl) ?_
  refine mv_iconst B dXL_law_356 ?_
  refine mv_iadd B dXL_law_357 ?_
  refine mw_sld B hI hX hbl hbA hL (j + 3) (by omega) (by omega) dXL_law_358 ?_
  refine mw_calli hI hA (va_runV (As := [.int (iI (sx xs (j + 1))), .int (iI (sx xs (j + 2))), .int (iI (sx xs (j + 3)))]) (rest := []) B.fix (t_X2_product l D kA H.size f hD hB (by omega) (by omega) (by omega)) (cwV 3 B.2.2.2.2.1 (gV kw_178 kw_179 kw_180 kw_1 kw_181) rfl rfl rfl (by decide +kernel) ⟨Nat.le_of_ble_eq_true rfl, Nat.le_of_ble_eq_true rfl⟩) ⟨mw_blind st_S.blind, mw_recv B hI hD.1 rfl, mw_pre B hI (hSt.call hI hA)⟩ rfl rfl hl.1 rfl (lv_room (Nat.le_of_ble_eq_true rfl)) dXL_law_359 ⟨Nat.le_of_ble_eq_true rfl, Nat.le_of_ble_eq_true rfl⟩) (fun r f H locs hp hI2 => ?_)
  clear hI
  have hI := hI2
  clear hI2
  obtain ⟨rfl, ⟨Y1, hD1, hY1⟩, off1⟩ := hp
  have hm := hW.mid off1
  refine mv_aload_n B dXL_law_362 rfl (lv_at hl 1 rfl) ?_
  refine mv_aload_n B dXL_law_363 rfl (lv_at hl 3 rfl) ?_
  refine mv_iload_n B dXL_law_364 rfl (lv_at hl 0 rfl) ?_
  refine mv_iconst B dXL_law_365 ?_
  refine mv_iadd B dXL_law_366 ?_
  refine mw_sld B hI hX hbl hbA hL (j + 1) (by omega) (by omega) dXL_law_367 ?_
  refine mv_aload_n B dXL_law_368 rfl (lv_at hl 3 rfl) ?_
  refine mv_iload_n B dXL_law_369 rfl (lv_at hl 0 rfl) ?_
  refine mv_iconst B dXL_law_370 ?_
  refine mv_iadd B dXL_law_371 ?_
  refine mw_sld B hI hX hbl hbA hL (j + 2) (by omega) (by omega) dXL_law_372 ?_
  refine mv_aload_n B dXL_law_373 rfl (lv_at hl 3 rfl) ?_
  refine mv_iload_n B dXL_law_374 rfl (lv_at hl 0 rfl) ?_
  refine mv_iconst B dXL_law_375 ?_
  refine mv_iadd B dXL_law_376 ?_
  refine mw_sld B hI hX hbl hbA hL (j + 3) (by omega) (by omega) dXL_law_377 ?_
  refine mw_calli hI hA (va_runV (As := [.int (iI (sx xs (j + 1))), .int (iI (sx xs (j + 2))), .int (iI (sx xs (j + 3)))]) (rest := [.int (iI ((sp_product Y (sx xs (j + 1)) (sx xs (j + 2)) (sx xs (j + 3))).1))]) B.fix (t_X3_product l D kA H.size f hm h24 hBz (by omega) (by omega) (by omega)) (cwV 3 B.2.2.2.2.1 (gV kw_449 kw_450 kw_451 kw_4 kw_452) rfl rfl rfl (by decide +kernel) ⟨Nat.le_of_ble_eq_true rfl, Nat.le_of_ble_eq_true rfl⟩) ⟨mw_blind st_S.blind, mw_recv B hI (by obtain ⟨_, _, _, _, q, _⟩ := hm; exact q.1) rfl, mw_pre B hI (hSt.call hI hA)⟩ rfl rfl hl.1 rfl (lv_room (Nat.le_of_ble_eq_true rfl)) dXL_law_378 ⟨Nat.le_of_ble_eq_true rfl, Nat.le_of_ble_eq_true rfl⟩) (fun r f H locs hp hI2 => ?_)
  clear hI
  have hI := hI2
  clear hI2
  obtain ⟨rfl, Z1, hm1, x24, hZ1⟩ := hp
  have sc := sc_product (a := (sx xs (j + 1))) (b := (sx xs (j + 2))) (t := (sx xs (j + 3))) hs hB
  rw [sc.1]
  refine mv_eqT (tgt := 930) B dXL_law_381 (by decide) ?_
  exact kk f H locs ls Y1 Z1 (hW.next hD1 hm1 x24 (fun i hi => (hY1 i hi).trans ((sc.2.1 i hi).trans (hZ1 i hi).symm)) (fun i hi => by rw [hY1 i hi]; exact sc.2.2 i hi)) hI hl
set_option maxHeartbeats 4000000 in
set_option maxRecDepth 100000 in
theorem lc_over (B : mw_C p s m #[Value.ref b] meth c code 4 "BigDeskLaw" gw D vwCl (tyL kA)) (hA : ∀ q, s.heap.size ≤ q → A q) (hSt : st_S A s) (hX : va_X b L xs s s.heap) (hbl : b < s.heap.size) (hbA : ¬ A b) (hL : L ≤ 2560) {f : mw_M} {H : Heap} {locs : List Loc} {ls : Array Slot} {i : Int} {j : Nat} {Y Z : Nat → Int} (hi : i = (j : Int)) (hj : j + 5 ≤ L) (hI : mw_I D vwCl A s H locs f) (hW : lwI kA f d sl pa w ra o li si su di Y Z) (hl : lv_has ls 4 [(3, .int (iI i)), (2, .ref o), (1, .ref d), (0, .ref b)]) (kk : ∀ (f : mw_M) (H : Heap) (locs : List Loc) (ls : Array Slot) (Y Z : Nat → Int), lwI kA f d sl pa w ra o li si su di Y Z → mw_I D vwCl A s H locs f → lv_has ls 4 [(3, .int (iI i)), (2, .ref o), (1, .ref d), (0, .ref b)] → W p l e room_1 s m #[Value.ref b] below meth c H locs 600000 7302250 Q (F0 m 930 ls [])) : W p l e room_1 s m #[Value.ref b] below meth c H locs 600000 7302250 Q (F0 m 386 ls []) := by
  have x1 := sx_r xs (j + 1)
  have x2 := sx_r xs (j + 2)
  have x3 := sx_r xs (j + 3)
  have x4 := sx_r xs (j + 4)
  obtain ⟨hD, -, h24, hs, hB, hdis⟩ := id hW
  have hBz : ∀ i, i < 16 → ((Z i).natAbs : Int) < 1000000 ^ 50 := fun i hi => by rw [← hs i hi]; exact hB i hi
  refine mv_aload_n B dXL_law_386 rfl (lv_at hl 2 rfl) ?_
  refine mv_aload_n B dXL_law_387 rfl (lv_at hl 3 rfl) ?_
  refine mv_iload_n B dXL_law_388 rfl (lv_at hl 0 rfl) ?_
  refine mv_iconst B dXL_law_389 ?_
  refine mv_iadd B dXL_law_390 ?_
  refine mw_sld B hI hX hbl hbA hL (j + 1) (by omega) (by omega) dXL_law_391 ?_
  refine mv_aload_n B dXL_law_392 rfl (lv_at hl 3 rfl) ?_
  refine mv_iload_n B dXL_law_393 rfl (lv_at hl 0 rfl) ?_
  refine mv_iconst B dXL_law_394 ?_
  refine mv_iadd B dXL_law_395 ?_
  refine mw_sld B hI hX hbl hbA hL (j + 2) (by omega) (by omega) dXL_law_396 ?_
  refine mv_aload_n B dXL_law_397 rfl (lv_at hl 3 rfl) ?_
  refine mv_iload_n B dXL_law_398 rfl (lv_at hl 0 rfl) ?_
  refine mv_iconst B dXL_law_399 ?_
  refine mv_iadd B dXL_law_400 ?_
  refine mw_sld B hI hX hbl hbA hL (j + 3) (by omega) (by omega) dXL_law_401 ?_
  refine mw_calli hI hA (va_runV (As := [.int (iI (sx xs (j + 1))), .int (iI (sx xs (j + 2))), .int (iI (sx xs (j + 3)))]) (rest := []) B.fix (t_X2_over l D kA H.size f hD hB (by omega) (by omega) (by omega)) (cwV 3 B.2.2.2.2.1 (gV kw_182 kw_183 kw_184 kw_1 kw_185) rfl rfl rfl (by decide +kernel) ⟨Nat.le_of_ble_eq_true rfl, Nat.le_of_ble_eq_true rfl⟩) ⟨mw_blind st_S.blind, mw_recv B hI hD.1 rfl, mw_pre B hI (hSt.call hI hA)⟩ rfl rfl hl.1 rfl (lv_room (Nat.le_of_ble_eq_true rfl)) dXL_law_402 ⟨Nat.le_of_ble_eq_true rfl, Nat.le_of_ble_eq_true rfl⟩) (fun r f H locs hp hI2 => ?_)
  clear hI
  have hI := hI2
  clear hI2
  obtain ⟨rfl, ⟨Y1, hD1, hY1⟩, off1⟩ := hp
  have hm := hW.mid off1
  refine mv_aload_n B dXL_law_405 rfl (lv_at hl 1 rfl) ?_
  refine mv_aload_n B dXL_law_406 rfl (lv_at hl 3 rfl) ?_
  refine mv_iload_n B dXL_law_407 rfl (lv_at hl 0 rfl) ?_
  refine mv_iconst B dXL_law_408 ?_
  refine mv_iadd B dXL_law_409 ?_
  refine mw_sld B hI hX hbl hbA hL (j + 1) (by omega) (by omega) dXL_law_410 ?_
  refine mv_aload_n B dXL_law_411 rfl (lv_at hl 3 rfl) ?_
  refine mv_iload_n B dXL_law_412 rfl (lv_at hl 0 rfl) ?_
  refine mv_iconst B dXL_law_413 ?_
  refine mv_iadd B dXL_law_414 ?_
  refine mw_sld B hI hX hbl hbA hL (j + 2) (by omega) (by omega) dXL_law_415 ?_
  refine mv_aload_n B dXL_law_416 rfl (lv_at hl 3 rfl) ?_
  refine mv_iload_n B dXL_law_417 rfl (lv_at hl 0 rfl) ?_
  refine mv_iconst B dXL_law_418 ?_
  refine mv_iadd B dXL_law_419 ?_
  refine mw_sld B hI hX hbl hbA hL (j + 3) (by omega) (by omega) dXL_law_420 ?_
  refine mw_calli hI hA (va_runV (As := [.int (iI (sx xs (j + 1))), .int (iI (sx xs (j + 2))), .int (iI (sx xs (j + 3)))]) (rest := [.int (iI ((sp_over Y (sx xs (j + 1)) (sx xs (j + 2)) (sx xs (j + 3))).1))]) B.fix (t_X3_over l D kA H.size f hm h24 hBz (by omega) (by omega) (by omega)) (cwV 3 B.2.2.2.2.1 (gV kw_453 kw_454 kw_455 kw_4 kw_456) rfl rfl rfl (by decide +kernel) ⟨Nat.le_of_ble_eq_true rfl, Nat.le_of_ble_eq_true rfl⟩) ⟨mw_blind st_S.blind, mw_recv B hI (by obtain ⟨_, _, _, _, q, _⟩ := hm; exact q.1) rfl, mw_pre B hI (hSt.call hI hA)⟩ rfl rfl hl.1 rfl (lv_room (Nat.le_of_ble_eq_true rfl)) dXL_law_421 ⟨Nat.le_of_ble_eq_true rfl, Nat.le_of_ble_eq_true rfl⟩) (fun r f H locs hp hI2 => ?_)
  clear hI
  have hI := hI2
  clear hI2
  obtain ⟨rfl, Z1, hm1, x24, hZ1⟩ := hp
  have sc := sc_over (a := (sx xs (j + 1))) (b := (sx xs (j + 2))) (t := (sx xs (j + 3))) hs hB
  rw [sc.1]
  refine mv_eqT (tgt := 930) B dXL_law_424 (by decide) ?_
  exact kk f H locs ls Y1 Z1 (hW.next hD1 hm1 x24 (fun i hi => (hY1 i hi).trans ((sc.2.1 i hi).trans (hZ1 i hi).symm)) (fun i hi => by rw [hY1 i hi]; exact sc.2.2 i hi)) hI hl
set_option maxHeartbeats 4000000 in
set_option maxRecDepth 100000 in
theorem lc_left (B : mw_C p s m #[Value.ref b] meth c code 4 "BigDeskLaw" gw D vwCl (tyL kA)) (hA : ∀ q, s.heap.size ≤ q → A q) (hSt : st_S A s) (hX : va_X b L xs s s.heap) (hbl : b < s.heap.size) (hbA : ¬ A b) (hL : L ≤ 2560) {f : mw_M} {H : Heap} {locs : List Loc} {ls : Array Slot} {i : Int} {j : Nat} {Y Z : Nat → Int} (hi : i = (j : Int)) (hj : j + 5 ≤ L) (hI : mw_I D vwCl A s H locs f) (hW : lwI kA f d sl pa w ra o li si su di Y Z) (hl : lv_has ls 4 [(3, .int (iI i)), (2, .ref o), (1, .ref d), (0, .ref b)]) (kk : ∀ (f : mw_M) (H : Heap) (locs : List Loc) (ls : Array Slot) (Y Z : Nat → Int), lwI kA f d sl pa w ra o li si su di Y Z → mw_I D vwCl A s H locs f → lv_has ls 4 [(3, .int (iI i)), (2, .ref o), (1, .ref d), (0, .ref b)] → W p l e room_1 s m #[Value.ref b] below meth c H locs 600000 7302250 Q (F0 m 930 ls [])) : W p l e room_1 s m #[Value.ref b] below meth c H locs 600000 7302250 Q (F0 m 429 ls []) := by
  have x1 := sx_r xs (j + 1)
  have x2 := sx_r xs (j + 2)
  have x3 := sx_r xs (j + 3)
  have x4 := sx_r xs (j + 4)
  obtain ⟨hD, -, h24, hs, hB, hdis⟩ := id hW
  have hBz : ∀ i, i < 16 → ((Z i).natAbs : Int) < 1000000 ^ 50 := fun i hi => by rw [← hs i hi]; exact hB i hi
  refine mv_aload_n B dXL_law_429 rfl (lv_at hl 2 rfl) ?_
  refine mv_aload_n B dXL_law_430 rfl (lv_at hl 3 rfl) ?_
  refine mv_iload_n B dXL_law_431 rfl (lv_at hl 0 rfl) ?_
  refine mv_iconst B dXL_law_432 ?_
  refine mv_iadd B dXL_law_433 ?_
  refine mw_sld B hI hX hbl hbA hL (j + 1) (by omega) (by omega) dXL_law_434 ?_
  refine mv_aload_n B dXL_law_435 rfl (lv_at hl 3 rfl) ?_
  refine mv_iload_n B dXL_law_436 rfl (lv_at hl 0 rfl) ?_
  refine mv_iconst B dXL_law_437 ?_
  refine mv_iadd B dXL_law_438 ?_
  refine mw_sld B hI hX hbl hbA hL (j + 2) (by omega) (by omega) dXL_law_439 ?_
  refine mv_aload_n B dXL_law_440 rfl (lv_at hl 3 rfl) ?_
  refine mv_iload_n B dXL_law_441 rfl (lv_at hl 0 rfl) ?_
  refine mv_iconst B dXL_law_442 ?_
  refine mv_iadd B dXL_law_443 ?_
  refine mw_sld B hI hX hbl hbA hL (j + 3) (by omega) (by omega) dXL_law_444 ?_
  refine mw_calli hI hA (va_runV (As := [.int (iI (sx xs (j + 1))), .int (iI (sx xs (j + 2))), .int (iI (sx xs (j + 3)))]) (rest := []) B.fix (t_X2_left l D kA H.size f hD hB (by omega) (by omega) (by omega)) (cwV 3 B.2.2.2.2.1 (gV kw_215 kw_216 kw_217 kw_1 kw_218) rfl rfl rfl (by decide +kernel) ⟨Nat.le_of_ble_eq_true rfl, Nat.le_of_ble_eq_true rfl⟩) ⟨mw_blind st_S.blind, mw_recv B hI hD.1 rfl, mw_pre B hI (hSt.call hI hA)⟩ rfl rfl hl.1 rfl (lv_room (Nat.le_of_ble_eq_true rfl)) dXL_law_445 ⟨Nat.le_of_ble_eq_true rfl, Nat.le_of_ble_eq_true rfl⟩) (fun r f H locs hp hI2 => ?_)
  clear hI
  have hI := hI2
  clear hI2
  obtain ⟨rfl, ⟨Y1, hD1, hY1⟩, off1⟩ := hp
  have hm := hW.mid off1
  refine mv_aload_n B dXL_law_448 rfl (lv_at hl 1 rfl) ?_
  refine mv_aload_n B dXL_law_449 rfl (lv_at hl 3 rfl) ?_
  refine mv_iload_n B dXL_law_450 rfl (lv_at hl 0 rfl) ?_
  refine mv_iconst B dXL_law_451 ?_
  refine mv_iadd B dXL_law_452 ?_
  refine mw_sld B hI hX hbl hbA hL (j + 1) (by omega) (by omega) dXL_law_453 ?_
  refine mv_aload_n B dXL_law_454 rfl (lv_at hl 3 rfl) ?_
  refine mv_iload_n B dXL_law_455 rfl (lv_at hl 0 rfl) ?_
  refine mv_iconst B dXL_law_456 ?_
  refine mv_iadd B dXL_law_457 ?_
  refine mw_sld B hI hX hbl hbA hL (j + 2) (by omega) (by omega) dXL_law_458 ?_
  refine mv_aload_n B dXL_law_459 rfl (lv_at hl 3 rfl) ?_
  refine mv_iload_n B dXL_law_460 rfl (lv_at hl 0 rfl) ?_
  refine mv_iconst B dXL_law_461 ?_
  refine mv_iadd B dXL_law_462 ?_
  refine mw_sld B hI hX hbl hbA hL (j + 3) (by omega) (by omega) dXL_law_463 ?_
  refine mw_calli hI hA (va_runV (As := [.int (iI (sx xs (j + 1))), .int (iI (sx xs (j + 2))), .int (iI (sx xs (j + 3)))]) (rest := [.int (iI ((sp_left Y (sx xs (j + 1)) (sx xs (j + 2)) (sx xs (j + 3))).1))]) B.fix (t_X3_left l D kA H.size f hm h24 hBz (by omega) (by omega) (by omega)) (cwV 3 B.2.2.2.2.1 (gV kw_469 kw_470 kw_471 kw_4 kw_472) rfl rfl rfl (by decide +kernel) ⟨Nat.le_of_ble_eq_true rfl, Nat.le_of_ble_eq_true rfl⟩) ⟨mw_blind st_S.blind, mw_recv B hI (by obtain ⟨_, _, _, _, q, _⟩ := hm; exact q.1) rfl, mw_pre B hI (hSt.call hI hA)⟩ rfl rfl hl.1 rfl (lv_room (Nat.le_of_ble_eq_true rfl)) dXL_law_464 ⟨Nat.le_of_ble_eq_true rfl, Nat.le_of_ble_eq_true rfl⟩) (fun r f H locs hp hI2 => ?_)
  clear hI
  have hI := hI2
  clear hI2
  obtain ⟨rfl, Z1, hm1, x24, hZ1⟩ := hp
  have sc := sc_left (a := (sx xs (j + 1))) (b := (sx xs (j + 2))) (t := (sx xs (j + 3))) hs hB
  rw [sc.1]
  refine mv_eqT (tgt := 930) B dXL_law_467 (by decide) ?_
  exact kk f H locs ls Y1 Z1 (hW.next hD1 hm1 x24 (fun i hi => (hY1 i hi).trans ((sc.2.1 i hi).trans (hZ1 i hi).symm)) (fun i hi => by rw [hY1 i hi]; exact sc.2.2 i hi)) hI hl
set_option maxHeartbeats 4000000 in
set_option maxRecDepth 100000 in
theorem lc_divisor (B : mw_C p s m #[Value.ref b] meth c code 4 "BigDeskLaw" gw D vwCl (tyL kA)) (hA : ∀ q, s.heap.size ≤ q → A q) (hSt : st_S A s) (hX : va_X b L xs s s.heap) (hbl : b < s.heap.size) (hbA : ¬ A b) (hL : L ≤ 2560) {f : mw_M} {H : Heap} {locs : List Loc} {ls : Array Slot} {i : Int} {j : Nat} {Y Z : Nat → Int} (hi : i = (j : Int)) (hj : j + 5 ≤ L) (hI : mw_I D vwCl A s H locs f) (hW : lwI kA f d sl pa w ra o li si su di Y Z) (hl : lv_has ls 4 [(3, .int (iI i)), (2, .ref o), (1, .ref d), (0, .ref b)]) (kk : ∀ (f : mw_M) (H : Heap) (locs : List Loc) (ls : Array Slot) (Y Z : Nat → Int), lwI kA f d sl pa w ra o li si su di Y Z → mw_I D vwCl A s H locs f → lv_has ls 4 [(3, .int (iI i)), (2, .ref o), (1, .ref d), (0, .ref b)] → W p l e room_1 s m #[Value.ref b] below meth c H locs 600000 7302250 Q (F0 m 930 ls [])) : W p l e room_1 s m #[Value.ref b] below meth c H locs 600000 7302250 Q (F0 m 472 ls []) := by
  have x1 := sx_r xs (j + 1)
  have x2 := sx_r xs (j + 2)
  have x3 := sx_r xs (j + 3)
  have x4 := sx_r xs (j + 4)
  obtain ⟨hD, -, h24, hs, hB, hdis⟩ := id hW
  have hBz : ∀ i, i < 16 → ((Z i).natAbs : Int) < 1000000 ^ 50 := fun i hi => by rw [← hs i hi]; exact hB i hi
  refine mv_aload_n B dXL_law_472 rfl (lv_at hl 2 rfl) ?_
  refine mv_aload_n B dXL_law_473 rfl (lv_at hl 3 rfl) ?_
  refine mv_iload_n B dXL_law_474 rfl (lv_at hl 0 rfl) ?_
  refine mv_iconst B dXL_law_475 ?_
  refine mv_iadd B dXL_law_476 ?_
  refine mw_sld B hI hX hbl hbA hL (j + 1) (by omega) (by omega) dXL_law_477 ?_
  refine mv_aload_n B dXL_law_478 rfl (lv_at hl 3 rfl) ?_
  refine mv_iload_n B dXL_law_479 rfl (lv_at hl 0 rfl) ?_
  refine mv_iconst B dXL_law_480 ?_
  refine mv_iadd B dXL_law_481 ?_
  refine mw_sld B hI hX hbl hbA hL (j + 2) (by omega) (by omega) dXL_law_482 ?_
  refine mv_aload_n B dXL_law_483 rfl (lv_at hl 3 rfl) ?_
  refine mv_iload_n B dXL_law_484 rfl (lv_at hl 0 rfl) ?_
  refine mv_iconst B dXL_law_485 ?_
  refine mv_iadd B dXL_law_486 ?_
  refine mw_sld B hI hX hbl hbA hL (j + 3) (by omega) (by omega) dXL_law_487 ?_
  refine mw_calli hI hA (va_runV (As := [.int (iI (sx xs (j + 1))), .int (iI (sx xs (j + 2))), .int (iI (sx xs (j + 3)))]) (rest := []) B.fix (t_X2_divisor l D kA H.size f hD hB (by omega) (by omega) (by omega)) (cwV 3 B.2.2.2.2.1 (gV kw_219 kw_220 kw_221 kw_1 kw_222) rfl rfl rfl (by decide +kernel) ⟨Nat.le_of_ble_eq_true rfl, Nat.le_of_ble_eq_true rfl⟩) ⟨mw_blind st_S.blind, mw_recv B hI hD.1 rfl, mw_pre B hI (hSt.call hI hA)⟩ rfl rfl hl.1 rfl (lv_room (Nat.le_of_ble_eq_true rfl)) dXL_law_488 ⟨Nat.le_of_ble_eq_true rfl, Nat.le_of_ble_eq_true rfl⟩) (fun r f H locs hp hI2 => ?_)
  clear hI
  have hI := hI2
  clear hI2
  obtain ⟨rfl, ⟨Y1, hD1, hY1⟩, off1⟩ := hp
  have hm := hW.mid off1
  refine mv_aload_n B dXL_law_491 rfl (lv_at hl 1 rfl) ?_
  refine mv_aload_n B dXL_law_492 rfl (lv_at hl 3 rfl) ?_
  refine mv_iload_n B dXL_law_493 rfl (lv_at hl 0 rfl) ?_
  refine mv_iconst B dXL_law_494 ?_
  refine mv_iadd B dXL_law_495 ?_
  refine mw_sld B hI hX hbl hbA hL (j + 1) (by omega) (by omega) dXL_law_496 ?_
  refine mv_aload_n B dXL_law_497 rfl (lv_at hl 3 rfl) ?_
  refine mv_iload_n B dXL_law_498 rfl (lv_at hl 0 rfl) ?_
  refine mv_iconst B dXL_law_499 ?_
  refine mv_iadd B dXL_law_500 ?_
  refine mw_sld B hI hX hbl hbA hL (j + 2) (by omega) (by omega) dXL_law_501 ?_
  refine mv_aload_n B dXL_law_502 rfl (lv_at hl 3 rfl) ?_
  refine mv_iload_n B dXL_law_503 rfl (lv_at hl 0 rfl) ?_
  refine mv_iconst B dXL_law_504 ?_
  refine mv_iadd B dXL_law_505 ?_
  refine mw_sld B hI hX hbl hbA hL (j + 3) (by omega) (by omega) dXL_law_506 ?_
  refine mw_calli hI hA (va_runV (As := [.int (iI (sx xs (j + 1))), .int (iI (sx xs (j + 2))), .int (iI (sx xs (j + 3)))]) (rest := [.int (iI ((sp_divisor Y (sx xs (j + 1)) (sx xs (j + 2)) (sx xs (j + 3))).1))]) B.fix (t_X3_divisor l D kA H.size f hm h24 hBz (by omega) (by omega) (by omega)) (cwV 3 B.2.2.2.2.1 (gV kw_473 kw_474 kw_475 kw_4 kw_476) rfl rfl rfl (by decide +kernel) ⟨Nat.le_of_ble_eq_true rfl, Nat.le_of_ble_eq_true rfl⟩) ⟨mw_blind st_S.blind, mw_recv B hI (by obtain ⟨_, _, _, _, q, _⟩ := hm; exact q.1) rfl, mw_pre B hI (hSt.call hI hA)⟩ rfl rfl hl.1 rfl (lv_room (Nat.le_of_ble_eq_true rfl)) dXL_law_507 ⟨Nat.le_of_ble_eq_true rfl, Nat.le_of_ble_eq_true rfl⟩) (fun r f H locs hp hI2 => ?_)
  clear hI
  have hI := hI2
  clear hI2
  obtain ⟨rfl, Z1, hm1, x24, hZ1⟩ := hp
  have sc := sc_divisor (a := (sx xs (j + 1))) (b := (sx xs (j + 2))) (t := (sx xs (j + 3))) hs hB
  rw [sc.1]
  refine mv_eqT (tgt := 930) B dXL_law_510 (by decide) ?_
  exact kk f H locs ls Y1 Z1 (hW.next hD1 hm1 x24 (fun i hi => (hY1 i hi).trans ((sc.2.1 i hi).trans (hZ1 i hi).symm)) (fun i hi => by rw [hY1 i hi]; exact sc.2.2 i hi)) hI hl
set_option maxHeartbeats 4000000 in
set_option maxRecDepth 100000 in
theorem lc_root (B : mw_C p s m #[Value.ref b] meth c code 4 "BigDeskLaw" gw D vwCl (tyL kA)) (hA : ∀ q, s.heap.size ≤ q → A q) (hSt : st_S A s) (hX : va_X b L xs s s.heap) (hbl : b < s.heap.size) (hbA : ¬ A b) (hL : L ≤ 2560) {f : mw_M} {H : Heap} {locs : List Loc} {ls : Array Slot} {i : Int} {j : Nat} {Y Z : Nat → Int} (hi : i = (j : Int)) (hj : j + 5 ≤ L) (hI : mw_I D vwCl A s H locs f) (hW : lwI kA f d sl pa w ra o li si su di Y Z) (hl : lv_has ls 4 [(3, .int (iI i)), (2, .ref o), (1, .ref d), (0, .ref b)]) (kk : ∀ (f : mw_M) (H : Heap) (locs : List Loc) (ls : Array Slot) (Y Z : Nat → Int), lwI kA f d sl pa w ra o li si su di Y Z → mw_I D vwCl A s H locs f → lv_has ls 4 [(3, .int (iI i)), (2, .ref o), (1, .ref d), (0, .ref b)] → W p l e room_1 s m #[Value.ref b] below meth c H locs 600000 7302250 Q (F0 m 930 ls [])) : W p l e room_1 s m #[Value.ref b] below meth c H locs 600000 7302250 Q (F0 m 515 ls []) := by
  have x1 := sx_r xs (j + 1)
  have x2 := sx_r xs (j + 2)
  have x3 := sx_r xs (j + 3)
  have x4 := sx_r xs (j + 4)
  obtain ⟨hD, -, h24, hs, hB, hdis⟩ := id hW
  have hBz : ∀ i, i < 16 → ((Z i).natAbs : Int) < 1000000 ^ 50 := fun i hi => by rw [← hs i hi]; exact hB i hi
  refine mv_aload_n B dXL_law_515 rfl (lv_at hl 2 rfl) ?_
  refine mv_aload_n B dXL_law_516 rfl (lv_at hl 3 rfl) ?_
  refine mv_iload_n B dXL_law_517 rfl (lv_at hl 0 rfl) ?_
  refine mv_iconst B dXL_law_518 ?_
  refine mv_iadd B dXL_law_519 ?_
  refine mw_sld B hI hX hbl hbA hL (j + 1) (by omega) (by omega) dXL_law_520 ?_
  refine mv_aload_n B dXL_law_521 rfl (lv_at hl 3 rfl) ?_
  refine mv_iload_n B dXL_law_522 rfl (lv_at hl 0 rfl) ?_
  refine mv_iconst B dXL_law_523 ?_
  refine mv_iadd B dXL_law_524 ?_
  refine mw_sld B hI hX hbl hbA hL (j + 2) (by omega) (by omega) dXL_law_525 ?_
  refine mw_calli hI hA (va_runV (As := [.int (iI (sx xs (j + 1))), .int (iI (sx xs (j + 2)))]) (rest := []) B.fix (t_X2_root l D kA H.size f hD hB (by omega) (by omega)) (cwV 2 B.2.2.2.2.1 (gV kw_256 kw_257 kw_258 kw_1 kw_259) rfl rfl rfl (by decide +kernel) ⟨Nat.le_of_ble_eq_true rfl, Nat.le_of_ble_eq_true rfl⟩) ⟨mw_blind st_S.blind, mw_recv B hI hD.1 rfl, mw_pre B hI (hSt.call hI hA)⟩ rfl rfl hl.1 rfl (lv_room (Nat.le_of_ble_eq_true rfl)) dXL_law_526 ⟨Nat.le_of_ble_eq_true rfl, Nat.le_of_ble_eq_true rfl⟩) (fun r f H locs hp hI2 => ?_)
  clear hI
  have hI := hI2
  clear hI2
  obtain ⟨rfl, ⟨Y1, hD1, hY1⟩, off1⟩ := hp
  have hm := hW.mid off1
  refine mv_aload_n B dXL_law_529 rfl (lv_at hl 1 rfl) ?_
  refine mv_aload_n B dXL_law_530 rfl (lv_at hl 3 rfl) ?_
  refine mv_iload_n B dXL_law_531 rfl (lv_at hl 0 rfl) ?_
  refine mv_iconst B dXL_law_532 ?_
  refine mv_iadd B dXL_law_533 ?_
  refine mw_sld B hI hX hbl hbA hL (j + 1) (by omega) (by omega) dXL_law_534 ?_
  refine mv_aload_n B dXL_law_535 rfl (lv_at hl 3 rfl) ?_
  refine mv_iload_n B dXL_law_536 rfl (lv_at hl 0 rfl) ?_
  refine mv_iconst B dXL_law_537 ?_
  refine mv_iadd B dXL_law_538 ?_
  refine mw_sld B hI hX hbl hbA hL (j + 2) (by omega) (by omega) dXL_law_539 ?_
  refine mw_calli hI hA (va_runV (As := [.int (iI (sx xs (j + 1))), .int (iI (sx xs (j + 2)))]) (rest := [.int (iI ((sp_root Y (sx xs (j + 1)) (sx xs (j + 2))).1))]) B.fix (t_X3_root l D kA H.size f hm h24 hBz (by omega) (by omega)) (cwV 2 B.2.2.2.2.1 (gV kw_489 kw_490 kw_491 kw_4 kw_492) rfl rfl rfl (by decide +kernel) ⟨Nat.le_of_ble_eq_true rfl, Nat.le_of_ble_eq_true rfl⟩) ⟨mw_blind st_S.blind, mw_recv B hI (by obtain ⟨_, _, _, _, q, _⟩ := hm; exact q.1) rfl, mw_pre B hI (hSt.call hI hA)⟩ rfl rfl hl.1 rfl (lv_room (Nat.le_of_ble_eq_true rfl)) dXL_law_540 ⟨Nat.le_of_ble_eq_true rfl, Nat.le_of_ble_eq_true rfl⟩) (fun r f H locs hp hI2 => ?_)
  clear hI
  have hI := hI2
  clear hI2
  obtain ⟨rfl, Z1, hm1, x24, hZ1⟩ := hp
  have sc := sc_root (a := (sx xs (j + 1))) (t := (sx xs (j + 2))) hs hB
  rw [sc.1]
  refine mv_eqT (tgt := 930) B dXL_law_543 (by decide) ?_
  exact kk f H locs ls Y1 Z1 (hW.next hD1 hm1 x24 (fun i hi => (hY1 i hi).trans ((sc.2.1 i hi).trans (hZ1 i hi).symm)) (fun i hi => by rw [hY1 i hi]; exact sc.2.2 i hi)) hI hl
set_option maxHeartbeats 4000000 in
set_option maxRecDepth 100000 in
theorem lc_power (B : mw_C p s m #[Value.ref b] meth c code 4 "BigDeskLaw" gw D vwCl (tyL kA)) (hA : ∀ q, s.heap.size ≤ q → A q) (hSt : st_S A s) (hX : va_X b L xs s s.heap) (hbl : b < s.heap.size) (hbA : ¬ A b) (hL : L ≤ 2560) {f : mw_M} {H : Heap} {locs : List Loc} {ls : Array Slot} {i : Int} {j : Nat} {Y Z : Nat → Int} (hi : i = (j : Int)) (hj : j + 5 ≤ L) (hI : mw_I D vwCl A s H locs f) (hW : lwI kA f d sl pa w ra o li si su di Y Z) (hl : lv_has ls 4 [(3, .int (iI i)), (2, .ref o), (1, .ref d), (0, .ref b)]) (kk : ∀ (f : mw_M) (H : Heap) (locs : List Loc) (ls : Array Slot) (Y Z : Nat → Int), lwI kA f d sl pa w ra o li si su di Y Z → mw_I D vwCl A s H locs f → lv_has ls 4 [(3, .int (iI i)), (2, .ref o), (1, .ref d), (0, .ref b)] → W p l e room_1 s m #[Value.ref b] below meth c H locs 600000 7302250 Q (F0 m 930 ls [])) : W p l e room_1 s m #[Value.ref b] below meth c H locs 600000 7302250 Q (F0 m 548 ls []) := by
  have x1 := sx_r xs (j + 1)
  have x2 := sx_r xs (j + 2)
  have x3 := sx_r xs (j + 3)
  have x4 := sx_r xs (j + 4)
  obtain ⟨hD, -, h24, hs, hB, hdis⟩ := id hW
  have hBz : ∀ i, i < 16 → ((Z i).natAbs : Int) < 1000000 ^ 50 := fun i hi => by rw [← hs i hi]; exact hB i hi
  refine mv_aload_n B dXL_law_548 rfl (lv_at hl 2 rfl) ?_
  refine mv_aload_n B dXL_law_549 rfl (lv_at hl 3 rfl) ?_
  refine mv_iload_n B dXL_law_550 rfl (lv_at hl 0 rfl) ?_
  refine mv_iconst B dXL_law_551 ?_
  refine mv_iadd B dXL_law_552 ?_
  refine mw_sld B hI hX hbl hbA hL (j + 1) (by omega) (by omega) dXL_law_553 ?_
  refine mv_aload_n B dXL_law_554 rfl (lv_at hl 3 rfl) ?_
  refine mv_iload_n B dXL_law_555 rfl (lv_at hl 0 rfl) ?_
  refine mv_iconst B dXL_law_556 ?_
  refine mv_iadd B dXL_law_557 ?_
  refine mw_sld B hI hX hbl hbA hL (j + 2) (by omega) (by omega) dXL_law_558 ?_
  refine mv_aload_n B dXL_law_559 rfl (lv_at hl 3 rfl) ?_
  refine mv_iload_n B dXL_law_560 rfl (lv_at hl 0 rfl) ?_
  refine mv_iconst B dXL_law_561 ?_
  refine mv_iadd B dXL_law_562 ?_
  refine mw_sld B hI hX hbl hbA hL (j + 3) (by omega) (by omega) dXL_law_563 ?_
  refine mw_calli hI hA (va_runV (As := [.int (iI (sx xs (j + 1))), .int (iI (sx xs (j + 2))), .int (iI (sx xs (j + 3)))]) (rest := []) B.fix (t_X2_power l D kA H.size f hD hB (by omega) (by omega) (by omega)) (cwV 3 B.2.2.2.2.1 (gV kw_278 kw_279 kw_280 kw_1 kw_281) rfl rfl rfl (by decide +kernel) ⟨Nat.le_of_ble_eq_true rfl, Nat.le_of_ble_eq_true rfl⟩) ⟨mw_blind st_S.blind, mw_recv B hI hD.1 rfl, mw_pre B hI (hSt.call hI hA)⟩ rfl rfl hl.1 rfl (lv_room (Nat.le_of_ble_eq_true rfl)) dXL_law_564 ⟨Nat.le_of_ble_eq_true rfl, Nat.le_of_ble_eq_true rfl⟩) (fun r f H locs hp hI2 => ?_)
  clear hI
  have hI := hI2
  clear hI2
  obtain ⟨rfl, ⟨Y1, hD1, hY1⟩, off1⟩ := hp
  have hm := hW.mid off1
  refine mv_aload_n B dXL_law_567 rfl (lv_at hl 1 rfl) ?_
  refine mv_aload_n B dXL_law_568 rfl (lv_at hl 3 rfl) ?_
  refine mv_iload_n B dXL_law_569 rfl (lv_at hl 0 rfl) ?_
  refine mv_iconst B dXL_law_570 ?_
  refine mv_iadd B dXL_law_571 ?_
  refine mw_sld B hI hX hbl hbA hL (j + 1) (by omega) (by omega) dXL_law_572 ?_
  refine mv_aload_n B dXL_law_573 rfl (lv_at hl 3 rfl) ?_
  refine mv_iload_n B dXL_law_574 rfl (lv_at hl 0 rfl) ?_
  refine mv_iconst B dXL_law_575 ?_
  refine mv_iadd B dXL_law_576 ?_
  refine mw_sld B hI hX hbl hbA hL (j + 2) (by omega) (by omega) dXL_law_577 ?_
  refine mv_aload_n B dXL_law_578 rfl (lv_at hl 3 rfl) ?_
  refine mv_iload_n B dXL_law_579 rfl (lv_at hl 0 rfl) ?_
  refine mv_iconst B dXL_law_580 ?_
  refine mv_iadd B dXL_law_581 ?_
  refine mw_sld B hI hX hbl hbA hL (j + 3) (by omega) (by omega) dXL_law_582 ?_
  refine mw_calli hI hA (va_runV (As := [.int (iI (sx xs (j + 1))), .int (iI (sx xs (j + 2))), .int (iI (sx xs (j + 3)))]) (rest := [.int (iI ((sp_power Y (sx xs (j + 1)) (sx xs (j + 2)) (sx xs (j + 3))).1))]) B.fix (t_X3_power l D kA H.size f hm h24 hBz (by omega) (by omega) (by omega)) (cwV 3 B.2.2.2.2.1 (gV kw_493 kw_494 kw_495 kw_4 kw_496) rfl rfl rfl (by decide +kernel) ⟨Nat.le_of_ble_eq_true rfl, Nat.le_of_ble_eq_true rfl⟩) ⟨mw_blind st_S.blind, mw_recv B hI (by obtain ⟨_, _, _, _, q, _⟩ := hm; exact q.1) rfl, mw_pre B hI (hSt.call hI hA)⟩ rfl rfl hl.1 rfl (lv_room (Nat.le_of_ble_eq_true rfl)) dXL_law_583 ⟨Nat.le_of_ble_eq_true rfl, Nat.le_of_ble_eq_true rfl⟩) (fun r f H locs hp hI2 => ?_)
  clear hI
  have hI := hI2
  clear hI2
  obtain ⟨rfl, Z1, hm1, x24, hZ1⟩ := hp
  have sc := sc_power (a := (sx xs (j + 1))) (e := (sx xs (j + 2))) (t := (sx xs (j + 3))) hs hB
  rw [sc.1]
  refine mv_eqT (tgt := 930) B dXL_law_586 (by decide) ?_
  exact kk f H locs ls Y1 Z1 (hW.next hD1 hm1 x24 (fun i hi => (hY1 i hi).trans ((sc.2.1 i hi).trans (hZ1 i hi).symm)) (fun i hi => by rw [hY1 i hi]; exact sc.2.2 i hi)) hI hl
set_option maxHeartbeats 4000000 in
set_option maxRecDepth 100000 in
theorem lc_lowest (B : mw_C p s m #[Value.ref b] meth c code 4 "BigDeskLaw" gw D vwCl (tyL kA)) (hA : ∀ q, s.heap.size ≤ q → A q) (hSt : st_S A s) (hX : va_X b L xs s s.heap) (hbl : b < s.heap.size) (hbA : ¬ A b) (hL : L ≤ 2560) {f : mw_M} {H : Heap} {locs : List Loc} {ls : Array Slot} {i : Int} {j : Nat} {Y Z : Nat → Int} (hi : i = (j : Int)) (hj : j + 5 ≤ L) (hI : mw_I D vwCl A s H locs f) (hW : lwI kA f d sl pa w ra o li si su di Y Z) (hl : lv_has ls 4 [(3, .int (iI i)), (2, .ref o), (1, .ref d), (0, .ref b)]) (kk : ∀ (f : mw_M) (H : Heap) (locs : List Loc) (ls : Array Slot) (Y Z : Nat → Int), lwI kA f d sl pa w ra o li si su di Y Z → mw_I D vwCl A s H locs f → lv_has ls 4 [(3, .int (iI i)), (2, .ref o), (1, .ref d), (0, .ref b)] → W p l e room_1 s m #[Value.ref b] below meth c H locs 600000 7302250 Q (F0 m 930 ls [])) : W p l e room_1 s m #[Value.ref b] below meth c H locs 600000 7302250 Q (F0 m 591 ls []) := by
  have x1 := sx_r xs (j + 1)
  have x2 := sx_r xs (j + 2)
  have x3 := sx_r xs (j + 3)
  have x4 := sx_r xs (j + 4)
  obtain ⟨hD, -, h24, hs, hB, hdis⟩ := id hW
  have hBz : ∀ i, i < 16 → ((Z i).natAbs : Int) < 1000000 ^ 50 := fun i hi => by rw [← hs i hi]; exact hB i hi
  refine mv_aload_n B dXL_law_591 rfl (lv_at hl 2 rfl) ?_
  refine mv_aload_n B dXL_law_592 rfl (lv_at hl 3 rfl) ?_
  refine mv_iload_n B dXL_law_593 rfl (lv_at hl 0 rfl) ?_
  refine mv_iconst B dXL_law_594 ?_
  refine mv_iadd B dXL_law_595 ?_
  refine mw_sld B hI hX hbl hbA hL (j + 1) (by omega) (by omega) dXL_law_596 ?_
  refine mv_aload_n B dXL_law_597 rfl (lv_at hl 3 rfl) ?_
  refine mv_iload_n B dXL_law_598 rfl (lv_at hl 0 rfl) ?_
  refine mv_iconst B dXL_law_599 ?_
  refine mv_iadd B dXL_law_600 ?_
  refine mw_sld B hI hX hbl hbA hL (j + 2) (by omega) (by omega) dXL_law_601 ?_
  refine mw_calli hI hA (va_runV (As := [.int (iI (sx xs (j + 1))), .int (iI (sx xs (j + 2)))]) (rest := []) B.fix (t_X2_lowest l D kA H.size f hD hB (by omega) (by omega)) (cwV 2 B.2.2.2.2.1 (gV kw_282 kw_283 kw_284 kw_1 kw_285) rfl rfl rfl (by decide +kernel) ⟨Nat.le_of_ble_eq_true rfl, Nat.le_of_ble_eq_true rfl⟩) ⟨mw_blind st_S.blind, mw_recv B hI hD.1 rfl, mw_pre B hI (hSt.call hI hA)⟩ rfl rfl hl.1 rfl (lv_room (Nat.le_of_ble_eq_true rfl)) dXL_law_602 ⟨Nat.le_of_ble_eq_true rfl, Nat.le_of_ble_eq_true rfl⟩) (fun r f H locs hp hI2 => ?_)
  clear hI
  have hI := hI2
  clear hI2
  obtain ⟨rfl, ⟨Y1, hD1, hY1⟩, off1⟩ := hp
  have hm := hW.mid off1
  refine mv_aload_n B dXL_law_605 rfl (lv_at hl 1 rfl) ?_
  refine mv_aload_n B dXL_law_606 rfl (lv_at hl 3 rfl) ?_
  refine mv_iload_n B dXL_law_607 rfl (lv_at hl 0 rfl) ?_
  refine mv_iconst B dXL_law_608 ?_
  refine mv_iadd B dXL_law_609 ?_
  refine mw_sld B hI hX hbl hbA hL (j + 1) (by omega) (by omega) dXL_law_610 ?_
  refine mv_aload_n B dXL_law_611 rfl (lv_at hl 3 rfl) ?_
  refine mv_iload_n B dXL_law_612 rfl (lv_at hl 0 rfl) ?_
  refine mv_iconst B dXL_law_613 ?_
  refine mv_iadd B dXL_law_614 ?_
  refine mw_sld B hI hX hbl hbA hL (j + 2) (by omega) (by omega) dXL_law_615 ?_
  refine mw_calli hI hA (va_runV (As := [.int (iI (sx xs (j + 1))), .int (iI (sx xs (j + 2)))]) (rest := [.int (iI ((sp_lowest Y (sx xs (j + 1)) (sx xs (j + 2))).1))]) B.fix (t_X3_lowest l D kA H.size f hm h24 hBz (by omega) (by omega)) (cwV 2 B.2.2.2.2.1 (gV kw_497 kw_498 kw_499 kw_4 kw_500) rfl rfl rfl (by decide +kernel) ⟨Nat.le_of_ble_eq_true rfl, Nat.le_of_ble_eq_true rfl⟩) ⟨mw_blind st_S.blind, mw_recv B hI (by obtain ⟨_, _, _, _, q, _⟩ := hm; exact q.1) rfl, mw_pre B hI (hSt.call hI hA)⟩ rfl rfl hl.1 rfl (lv_room (Nat.le_of_ble_eq_true rfl)) dXL_law_616 ⟨Nat.le_of_ble_eq_true rfl, Nat.le_of_ble_eq_true rfl⟩) (fun r f H locs hp hI2 => ?_)
  clear hI
  have hI := hI2
  clear hI2
  obtain ⟨rfl, Z1, hm1, x24, hZ1⟩ := hp
  have sc := sc_lowest (a := (sx xs (j + 1))) (b := (sx xs (j + 2))) hs hB
  rw [sc.1]
  refine mv_eqT (tgt := 930) B dXL_law_619 (by decide) ?_
  exact kk f H locs ls Y1 Z1 (hW.next hD1 hm1 x24 (fun i hi => (hY1 i hi).trans ((sc.2.1 i hi).trans (hZ1 i hi).symm)) (fun i hi => by rw [hY1 i hi]; exact sc.2.2 i hi)) hI hl
set_option maxHeartbeats 4000000 in
set_option maxRecDepth 100000 in
theorem lc_fraction (B : mw_C p s m #[Value.ref b] meth c code 4 "BigDeskLaw" gw D vwCl (tyL kA)) (hA : ∀ q, s.heap.size ≤ q → A q) (hSt : st_S A s) (hX : va_X b L xs s s.heap) (hbl : b < s.heap.size) (hbA : ¬ A b) (hL : L ≤ 2560) {f : mw_M} {H : Heap} {locs : List Loc} {ls : Array Slot} {i : Int} {j : Nat} {Y Z : Nat → Int} (hi : i = (j : Int)) (hj : j + 5 ≤ L) (hI : mw_I D vwCl A s H locs f) (hW : lwI kA f d sl pa w ra o li si su di Y Z) (hl : lv_has ls 4 [(3, .int (iI i)), (2, .ref o), (1, .ref d), (0, .ref b)]) (kk : ∀ (f : mw_M) (H : Heap) (locs : List Loc) (ls : Array Slot) (Y Z : Nat → Int), lwI kA f d sl pa w ra o li si su di Y Z → mw_I D vwCl A s H locs f → lv_has ls 4 [(3, .int (iI i)), (2, .ref o), (1, .ref d), (0, .ref b)] → W p l e room_1 s m #[Value.ref b] below meth c H locs 600000 7302250 Q (F0 m 930 ls [])) : W p l e room_1 s m #[Value.ref b] below meth c H locs 600000 7302250 Q (F0 m 624 ls []) := by
  have x1 := sx_r xs (j + 1)
  have x2 := sx_r xs (j + 2)
  have x3 := sx_r xs (j + 3)
  have x4 := sx_r xs (j + 4)
  obtain ⟨hD, -, h24, hs, hB, hdis⟩ := id hW
  have hBz : ∀ i, i < 16 → ((Z i).natAbs : Int) < 1000000 ^ 50 := fun i hi => by rw [← hs i hi]; exact hB i hi
  refine mv_aload_n B dXL_law_624 rfl (lv_at hl 2 rfl) ?_
  refine mv_aload_n B dXL_law_625 rfl (lv_at hl 3 rfl) ?_
  refine mv_iload_n B dXL_law_626 rfl (lv_at hl 0 rfl) ?_
  refine mv_iconst B dXL_law_627 ?_
  refine mv_iadd B dXL_law_628 ?_
  refine mw_sld B hI hX hbl hbA hL (j + 1) (by omega) (by omega) dXL_law_629 ?_
  refine mv_aload_n B dXL_law_630 rfl (lv_at hl 3 rfl) ?_
  refine mv_iload_n B dXL_law_631 rfl (lv_at hl 0 rfl) ?_
  refine mv_iconst B dXL_law_632 ?_
  refine mv_iadd B dXL_law_633 ?_
  refine mw_sld B hI hX hbl hbA hL (j + 2) (by omega) (by omega) dXL_law_634 ?_
  refine mv_aload_n B dXL_law_635 rfl (lv_at hl 3 rfl) ?_
  refine mv_iload_n B dXL_law_636 rfl (lv_at hl 0 rfl) ?_
  refine mv_iconst B dXL_law_637 ?_
  refine mv_iadd B dXL_law_638 ?_
  refine mw_sld B hI hX hbl hbA hL (j + 3) (by omega) (by omega) dXL_law_639 ?_
  refine mv_aload_n B dXL_law_640 rfl (lv_at hl 3 rfl) ?_
  refine mv_iload_n B dXL_law_641 rfl (lv_at hl 0 rfl) ?_
  refine mv_iconst B dXL_law_642 ?_
  refine mv_iadd B dXL_law_643 ?_
  refine mw_sld B hI hX hbl hbA hL (j + 4) (by omega) (by omega) dXL_law_644 ?_
  refine mw_calli hI hA (va_runV (As := [.int (iI (sx xs (j + 1))), .int (iI (sx xs (j + 2))), .int (iI (sx xs (j + 3))), .int (iI (sx xs (j + 4)))]) (rest := []) B.fix (t_X2_fraction l D kA H.size f hD hB (by omega) (by omega) (by omega) (by omega)) (cwV 4 B.2.2.2.2.1 (gV kw_294 kw_295 kw_296 kw_1 kw_297) rfl rfl rfl (by decide +kernel) ⟨Nat.le_of_ble_eq_true rfl, Nat.le_of_ble_eq_true rfl⟩) ⟨mw_blind st_S.blind, mw_recv B hI hD.1 rfl, mw_pre B hI (hSt.call hI hA)⟩ rfl rfl hl.1 rfl (lv_room (Nat.le_of_ble_eq_true rfl)) dXL_law_645 ⟨Nat.le_of_ble_eq_true rfl, Nat.le_of_ble_eq_true rfl⟩) (fun r f H locs hp hI2 => ?_)
  clear hI
  have hI := hI2
  clear hI2
  obtain ⟨rfl, ⟨Y1, hD1, hY1⟩, off1⟩ := hp
  have hm := hW.mid off1
  refine mv_aload_n B dXL_law_648 rfl (lv_at hl 1 rfl) ?_
  refine mv_aload_n B dXL_law_649 rfl (lv_at hl 3 rfl) ?_
  refine mv_iload_n B dXL_law_650 rfl (lv_at hl 0 rfl) ?_
  refine mv_iconst B dXL_law_651 ?_
  refine mv_iadd B dXL_law_652 ?_
  refine mw_sld B hI hX hbl hbA hL (j + 1) (by omega) (by omega) dXL_law_653 ?_
  refine mv_aload_n B dXL_law_654 rfl (lv_at hl 3 rfl) ?_
  refine mv_iload_n B dXL_law_655 rfl (lv_at hl 0 rfl) ?_
  refine mv_iconst B dXL_law_656 ?_
  refine mv_iadd B dXL_law_657 ?_
  refine mw_sld B hI hX hbl hbA hL (j + 2) (by omega) (by omega) dXL_law_658 ?_
  refine mv_aload_n B dXL_law_659 rfl (lv_at hl 3 rfl) ?_
  refine mv_iload_n B dXL_law_660 rfl (lv_at hl 0 rfl) ?_
  refine mv_iconst B dXL_law_661 ?_
  refine mv_iadd B dXL_law_662 ?_
  refine mw_sld B hI hX hbl hbA hL (j + 3) (by omega) (by omega) dXL_law_663 ?_
  refine mv_aload_n B dXL_law_664 rfl (lv_at hl 3 rfl) ?_
  refine mv_iload_n B dXL_law_665 rfl (lv_at hl 0 rfl) ?_
  refine mv_iconst B dXL_law_666 ?_
  refine mv_iadd B dXL_law_667 ?_
  refine mw_sld B hI hX hbl hbA hL (j + 4) (by omega) (by omega) dXL_law_668 ?_
  refine mw_calli hI hA (va_runV (As := [.int (iI (sx xs (j + 1))), .int (iI (sx xs (j + 2))), .int (iI (sx xs (j + 3))), .int (iI (sx xs (j + 4)))]) (rest := [.int (iI ((sp_fraction Y (sx xs (j + 1)) (sx xs (j + 2)) (sx xs (j + 3)) (sx xs (j + 4))).1))]) B.fix (t_X3_fraction l D kA H.size f hm h24 hBz (by omega) (by omega) (by omega) (by omega)) (cwV 4 B.2.2.2.2.1 (gV kw_505 kw_506 kw_507 kw_4 kw_508) rfl rfl rfl (by decide +kernel) ⟨Nat.le_of_ble_eq_true rfl, Nat.le_of_ble_eq_true rfl⟩) ⟨mw_blind st_S.blind, mw_recv B hI (by obtain ⟨_, _, _, _, q, _⟩ := hm; exact q.1) rfl, mw_pre B hI (hSt.call hI hA)⟩ rfl rfl hl.1 rfl (lv_room (Nat.le_of_ble_eq_true rfl)) dXL_law_669 ⟨Nat.le_of_ble_eq_true rfl, Nat.le_of_ble_eq_true rfl⟩) (fun r f H locs hp hI2 => ?_)
  clear hI
  have hI := hI2
  clear hI2
  obtain ⟨rfl, Z1, hm1, x24, hZ1⟩ := hp
  have sc := sc_fraction (a := (sx xs (j + 1))) (b := (sx xs (j + 2))) (c := (sx xs (j + 3))) (d := (sx xs (j + 4))) hs hB
  rw [sc.1]
  refine mv_eqT (tgt := 930) B dXL_law_672 (by decide) ?_
  exact kk f H locs ls Y1 Z1 (hW.next hD1 hm1 x24 (fun i hi => (hY1 i hi).trans ((sc.2.1 i hi).trans (hZ1 i hi).symm)) (fun i hi => by rw [hY1 i hi]; exact sc.2.2 i hi)) hI hl
set_option maxHeartbeats 4000000 in
set_option maxRecDepth 100000 in
theorem lc_order (B : mw_C p s m #[Value.ref b] meth c code 4 "BigDeskLaw" gw D vwCl (tyL kA)) (hA : ∀ q, s.heap.size ≤ q → A q) (hSt : st_S A s) (hX : va_X b L xs s s.heap) (hbl : b < s.heap.size) (hbA : ¬ A b) (hL : L ≤ 2560) {f : mw_M} {H : Heap} {locs : List Loc} {ls : Array Slot} {i : Int} {j : Nat} {Y Z : Nat → Int} (hi : i = (j : Int)) (hj : j + 5 ≤ L) (hI : mw_I D vwCl A s H locs f) (hW : lwI kA f d sl pa w ra o li si su di Y Z) (hl : lv_has ls 4 [(3, .int (iI i)), (2, .ref o), (1, .ref d), (0, .ref b)]) (kk : ∀ (f : mw_M) (H : Heap) (locs : List Loc) (ls : Array Slot) (Y Z : Nat → Int), lwI kA f d sl pa w ra o li si su di Y Z → mw_I D vwCl A s H locs f → lv_has ls 4 [(3, .int (iI i)), (2, .ref o), (1, .ref d), (0, .ref b)] → W p l e room_1 s m #[Value.ref b] below meth c H locs 600000 7302250 Q (F0 m 930 ls [])) : W p l e room_1 s m #[Value.ref b] below meth c H locs 600000 7302250 Q (F0 m 677 ls []) := by
  have x1 := sx_r xs (j + 1)
  have x2 := sx_r xs (j + 2)
  have x3 := sx_r xs (j + 3)
  have x4 := sx_r xs (j + 4)
  obtain ⟨hD, -, h24, hs, hB, hdis⟩ := id hW
  have hBz : ∀ i, i < 16 → ((Z i).natAbs : Int) < 1000000 ^ 50 := fun i hi => by rw [← hs i hi]; exact hB i hi
  refine mv_aload_n B dXL_law_677 rfl (lv_at hl 2 rfl) ?_
  refine mv_aload_n B dXL_law_678 rfl (lv_at hl 3 rfl) ?_
  refine mv_iload_n B dXL_law_679 rfl (lv_at hl 0 rfl) ?_
  refine mv_iconst B dXL_law_680 ?_
  refine mv_iadd B dXL_law_681 ?_
  refine mw_sld B hI hX hbl hbA hL (j + 1) (by omega) (by omega) dXL_law_682 ?_
  refine mv_aload_n B dXL_law_683 rfl (lv_at hl 3 rfl) ?_
  refine mv_iload_n B dXL_law_684 rfl (lv_at hl 0 rfl) ?_
  refine mv_iconst B dXL_law_685 ?_
  refine mv_iadd B dXL_law_686 ?_
  refine mw_sld B hI hX hbl hbA hL (j + 2) (by omega) (by omega) dXL_law_687 ?_
  refine mw_calli hI hA (va_runV (As := [.int (iI (sx xs (j + 1))), .int (iI (sx xs (j + 2)))]) (rest := []) B.fix (t_X2_order l D kA H.size f hD hB (by omega) (by omega)) (cwV 2 B.2.2.2.2.1 (gV kw_302 kw_303 kw_304 kw_1 kw_305) rfl rfl rfl (by decide +kernel) ⟨Nat.le_of_ble_eq_true rfl, Nat.le_of_ble_eq_true rfl⟩) ⟨mw_blind st_S.blind, mw_recv B hI hD.1 rfl, mw_pre B hI (hSt.call hI hA)⟩ rfl rfl hl.1 rfl (lv_room (Nat.le_of_ble_eq_true rfl)) dXL_law_688 ⟨Nat.le_of_ble_eq_true rfl, Nat.le_of_ble_eq_true rfl⟩) (fun r f H locs hp hI2 => ?_)
  clear hI
  have hI := hI2
  clear hI2
  obtain ⟨rfl, ⟨Y1, hD1, hY1⟩, off1⟩ := hp
  have hm := hW.mid off1
  refine mv_aload_n B dXL_law_691 rfl (lv_at hl 1 rfl) ?_
  refine mv_aload_n B dXL_law_692 rfl (lv_at hl 3 rfl) ?_
  refine mv_iload_n B dXL_law_693 rfl (lv_at hl 0 rfl) ?_
  refine mv_iconst B dXL_law_694 ?_
  refine mv_iadd B dXL_law_695 ?_
  refine mw_sld B hI hX hbl hbA hL (j + 1) (by omega) (by omega) dXL_law_696 ?_
  refine mv_aload_n B dXL_law_697 rfl (lv_at hl 3 rfl) ?_
  refine mv_iload_n B dXL_law_698 rfl (lv_at hl 0 rfl) ?_
  refine mv_iconst B dXL_law_699 ?_
  refine mv_iadd B dXL_law_700 ?_
  refine mw_sld B hI hX hbl hbA hL (j + 2) (by omega) (by omega) dXL_law_701 ?_
  refine mw_calli hI hA (va_runV (As := [.int (iI (sx xs (j + 1))), .int (iI (sx xs (j + 2)))]) (rest := [.int (iI (sp_order Y (sx xs (j + 1)) (sx xs (j + 2))))]) B.fix (t_X3_order l D kA H.size f hm h24 hBz (by omega) (by omega)) (cwV 2 B.2.2.2.2.1 (gV kw_509 kw_510 kw_511 kw_4 kw_512) rfl rfl rfl (by decide +kernel) ⟨Nat.le_of_ble_eq_true rfl, Nat.le_of_ble_eq_true rfl⟩) ⟨mw_blind st_S.blind, mw_recv B hI (by obtain ⟨_, _, _, _, q, _⟩ := hm; exact q.1) rfl, mw_pre B hI (hSt.call hI hA)⟩ rfl rfl hl.1 rfl (lv_room (Nat.le_of_ble_eq_true rfl)) dXL_law_702 ⟨Nat.le_of_ble_eq_true rfl, Nat.le_of_ble_eq_true rfl⟩) (fun r f H locs hp hI2 => ?_)
  clear hI
  have hI := hI2
  clear hI2
  obtain ⟨rfl, Z1, hm1, x24, hZ1⟩ := hp
  have sc := sc_order (a := (sx xs (j + 1))) (b := (sx xs (j + 2))) hs
  rw [sc]
  refine mv_eqT (tgt := 930) B dXL_law_705 (by decide) ?_
  exact kk f H locs ls Y1 Z1 (hW.next hD1 hm1 x24 (fun i hi => (hY1 i hi).trans ((hs i hi).trans (hZ1 i hi).symm)) (fun i hi => by rw [hY1 i hi]; exact hB i hi)) hI hl
set_option maxHeartbeats 4000000 in
set_option maxRecDepth 100000 in
theorem lc_ratio (B : mw_C p s m #[Value.ref b] meth c code 4 "BigDeskLaw" gw D vwCl (tyL kA)) (hA : ∀ q, s.heap.size ≤ q → A q) (hSt : st_S A s) (hX : va_X b L xs s s.heap) (hbl : b < s.heap.size) (hbA : ¬ A b) (hL : L ≤ 2560) {f : mw_M} {H : Heap} {locs : List Loc} {ls : Array Slot} {i : Int} {j : Nat} {Y Z : Nat → Int} (hi : i = (j : Int)) (hj : j + 5 ≤ L) (hI : mw_I D vwCl A s H locs f) (hW : lwI kA f d sl pa w ra o li si su di Y Z) (hl : lv_has ls 4 [(3, .int (iI i)), (2, .ref o), (1, .ref d), (0, .ref b)]) (kk : ∀ (f : mw_M) (H : Heap) (locs : List Loc) (ls : Array Slot) (Y Z : Nat → Int), lwI kA f d sl pa w ra o li si su di Y Z → mw_I D vwCl A s H locs f → lv_has ls 4 [(3, .int (iI i)), (2, .ref o), (1, .ref d), (0, .ref b)] → W p l e room_1 s m #[Value.ref b] below meth c H locs 600000 7302250 Q (F0 m 930 ls [])) : W p l e room_1 s m #[Value.ref b] below meth c H locs 600000 7302250 Q (F0 m 710 ls []) := by
  have x1 := sx_r xs (j + 1)
  have x2 := sx_r xs (j + 2)
  have x3 := sx_r xs (j + 3)
  have x4 := sx_r xs (j + 4)
  obtain ⟨hD, -, h24, hs, hB, hdis⟩ := id hW
  have hBz : ∀ i, i < 16 → ((Z i).natAbs : Int) < 1000000 ^ 50 := fun i hi => by rw [← hs i hi]; exact hB i hi
  refine mv_aload_n B dXL_law_710 rfl (lv_at hl 2 rfl) ?_
  refine mv_aload_n B dXL_law_711 rfl (lv_at hl 3 rfl) ?_
  refine mv_iload_n B dXL_law_712 rfl (lv_at hl 0 rfl) ?_
  refine mv_iconst B dXL_law_713 ?_
  refine mv_iadd B dXL_law_714 ?_
  refine mw_sld B hI hX hbl hbA hL (j + 1) (by omega) (by omega) dXL_law_715 ?_
  refine mv_aload_n B dXL_law_716 rfl (lv_at hl 3 rfl) ?_
  refine mv_iload_n B dXL_law_717 rfl (lv_at hl 0 rfl) ?_
  refine mv_iconst B dXL_law_718 ?_
  refine mv_iadd B dXL_law_719 ?_
  refine mw_sld B hI hX hbl hbA hL (j + 2) (by omega) (by omega) dXL_law_720 ?_
  refine mv_aload_n B dXL_law_721 rfl (lv_at hl 3 rfl) ?_
  refine mv_iload_n B dXL_law_722 rfl (lv_at hl 0 rfl) ?_
  refine mv_iconst B dXL_law_723 ?_
  refine mv_iadd B dXL_law_724 ?_
  refine mw_sld B hI hX hbl hbA hL (j + 3) (by omega) (by omega) dXL_law_725 ?_
  refine mv_aload_n B dXL_law_726 rfl (lv_at hl 3 rfl) ?_
  refine mv_iload_n B dXL_law_727 rfl (lv_at hl 0 rfl) ?_
  refine mv_iconst B dXL_law_728 ?_
  refine mv_iadd B dXL_law_729 ?_
  refine mw_sld B hI hX hbl hbA hL (j + 4) (by omega) (by omega) dXL_law_730 ?_
  refine mw_calli hI hA (va_runV (As := [.int (iI (sx xs (j + 1))), .int (iI (sx xs (j + 2))), .int (iI (sx xs (j + 3))), .int (iI (sx xs (j + 4)))]) (rest := []) B.fix (t_X2_ratio l D kA H.size f hD hB (by omega) (by omega) (by omega) (by omega)) (cwV 4 B.2.2.2.2.1 (gV kw_310 kw_311 kw_312 kw_1 kw_313) rfl rfl rfl (by decide +kernel) ⟨Nat.le_of_ble_eq_true rfl, Nat.le_of_ble_eq_true rfl⟩) ⟨mw_blind st_S.blind, mw_recv B hI hD.1 rfl, mw_pre B hI (hSt.call hI hA)⟩ rfl rfl hl.1 rfl (lv_room (Nat.le_of_ble_eq_true rfl)) dXL_law_731 ⟨Nat.le_of_ble_eq_true rfl, Nat.le_of_ble_eq_true rfl⟩) (fun r f H locs hp hI2 => ?_)
  clear hI
  have hI := hI2
  clear hI2
  obtain ⟨rfl, ⟨Y1, hD1, hY1⟩, off1⟩ := hp
  have hm := hW.mid off1
  refine mv_aload_n B dXL_law_734 rfl (lv_at hl 1 rfl) ?_
  refine mv_aload_n B dXL_law_735 rfl (lv_at hl 3 rfl) ?_
  refine mv_iload_n B dXL_law_736 rfl (lv_at hl 0 rfl) ?_
  refine mv_iconst B dXL_law_737 ?_
  refine mv_iadd B dXL_law_738 ?_
  refine mw_sld B hI hX hbl hbA hL (j + 1) (by omega) (by omega) dXL_law_739 ?_
  refine mv_aload_n B dXL_law_740 rfl (lv_at hl 3 rfl) ?_
  refine mv_iload_n B dXL_law_741 rfl (lv_at hl 0 rfl) ?_
  refine mv_iconst B dXL_law_742 ?_
  refine mv_iadd B dXL_law_743 ?_
  refine mw_sld B hI hX hbl hbA hL (j + 2) (by omega) (by omega) dXL_law_744 ?_
  refine mv_aload_n B dXL_law_745 rfl (lv_at hl 3 rfl) ?_
  refine mv_iload_n B dXL_law_746 rfl (lv_at hl 0 rfl) ?_
  refine mv_iconst B dXL_law_747 ?_
  refine mv_iadd B dXL_law_748 ?_
  refine mw_sld B hI hX hbl hbA hL (j + 3) (by omega) (by omega) dXL_law_749 ?_
  refine mv_aload_n B dXL_law_750 rfl (lv_at hl 3 rfl) ?_
  refine mv_iload_n B dXL_law_751 rfl (lv_at hl 0 rfl) ?_
  refine mv_iconst B dXL_law_752 ?_
  refine mv_iadd B dXL_law_753 ?_
  refine mw_sld B hI hX hbl hbA hL (j + 4) (by omega) (by omega) dXL_law_754 ?_
  refine mw_calli hI hA (va_runV (As := [.int (iI (sx xs (j + 1))), .int (iI (sx xs (j + 2))), .int (iI (sx xs (j + 3))), .int (iI (sx xs (j + 4)))]) (rest := [.int (iI (sp_ratio Y (sx xs (j + 1)) (sx xs (j + 2)) (sx xs (j + 3)) (sx xs (j + 4))))]) B.fix (t_X3_ratio l D kA H.size f hm h24 hBz (by omega) (by omega) (by omega) (by omega)) (cwV 4 B.2.2.2.2.1 (gV kw_517 kw_518 kw_519 kw_4 kw_520) rfl rfl rfl (by decide +kernel) ⟨Nat.le_of_ble_eq_true rfl, Nat.le_of_ble_eq_true rfl⟩) ⟨mw_blind st_S.blind, mw_recv B hI (by obtain ⟨_, _, _, _, q, _⟩ := hm; exact q.1) rfl, mw_pre B hI (hSt.call hI hA)⟩ rfl rfl hl.1 rfl (lv_room (Nat.le_of_ble_eq_true rfl)) dXL_law_755 ⟨Nat.le_of_ble_eq_true rfl, Nat.le_of_ble_eq_true rfl⟩) (fun r f H locs hp hI2 => ?_)
  clear hI
  have hI := hI2
  clear hI2
  obtain ⟨rfl, Z1, hm1, x24, hZ1⟩ := hp
  have sc := sc_ratio (a := (sx xs (j + 1))) (b := (sx xs (j + 2))) (c := (sx xs (j + 3))) (d := (sx xs (j + 4))) hs
  rw [sc]
  refine mv_eqT (tgt := 930) B dXL_law_758 (by decide) ?_
  exact kk f H locs ls Y1 Z1 (hW.next hD1 hm1 x24 (fun i hi => (hY1 i hi).trans ((hs i hi).trans (hZ1 i hi).symm)) (fun i hi => by rw [hY1 i hi]; exact hB i hi)) hI hl
set_option maxHeartbeats 4000000 in
set_option maxRecDepth 100000 in
theorem lc_sign (B : mw_C p s m #[Value.ref b] meth c code 4 "BigDeskLaw" gw D vwCl (tyL kA)) (hA : ∀ q, s.heap.size ≤ q → A q) (hSt : st_S A s) (hX : va_X b L xs s s.heap) (hbl : b < s.heap.size) (hbA : ¬ A b) (hL : L ≤ 2560) {f : mw_M} {H : Heap} {locs : List Loc} {ls : Array Slot} {i : Int} {j : Nat} {Y Z : Nat → Int} (hi : i = (j : Int)) (hj : j + 5 ≤ L) (hI : mw_I D vwCl A s H locs f) (hW : lwI kA f d sl pa w ra o li si su di Y Z) (hl : lv_has ls 4 [(3, .int (iI i)), (2, .ref o), (1, .ref d), (0, .ref b)]) (kk : ∀ (f : mw_M) (H : Heap) (locs : List Loc) (ls : Array Slot) (Y Z : Nat → Int), lwI kA f d sl pa w ra o li si su di Y Z → mw_I D vwCl A s H locs f → lv_has ls 4 [(3, .int (iI i)), (2, .ref o), (1, .ref d), (0, .ref b)] → W p l e room_1 s m #[Value.ref b] below meth c H locs 600000 7302250 Q (F0 m 930 ls [])) : W p l e room_1 s m #[Value.ref b] below meth c H locs 600000 7302250 Q (F0 m 763 ls []) := by
  have x1 := sx_r xs (j + 1)
  have x2 := sx_r xs (j + 2)
  have x3 := sx_r xs (j + 3)
  have x4 := sx_r xs (j + 4)
  obtain ⟨hD, -, h24, hs, hB, hdis⟩ := id hW
  have hBz : ∀ i, i < 16 → ((Z i).natAbs : Int) < 1000000 ^ 50 := fun i hi => by rw [← hs i hi]; exact hB i hi
  refine mv_aload_n B dXL_law_763 rfl (lv_at hl 2 rfl) ?_
  refine mv_aload_n B dXL_law_764 rfl (lv_at hl 3 rfl) ?_
  refine mv_iload_n B dXL_law_765 rfl (lv_at hl 0 rfl) ?_
  refine mv_iconst B dXL_law_766 ?_
  refine mv_iadd B dXL_law_767 ?_
  refine mw_sld B hI hX hbl hbA hL (j + 1) (by omega) (by omega) dXL_law_768 ?_
  refine mw_calli hI hA (va_runV (As := [.int (iI (sx xs (j + 1)))]) (rest := []) B.fix (t_X2_sign l D kA H.size f hD hB (by omega)) (cwV 1 B.2.2.2.2.1 (gV kw_314 kw_315 kw_316 kw_1 kw_317) rfl rfl rfl (by decide +kernel) ⟨Nat.le_of_ble_eq_true rfl, Nat.le_of_ble_eq_true rfl⟩) ⟨mw_blind st_S.blind, mw_recv B hI hD.1 rfl, mw_pre B hI (hSt.call hI hA)⟩ rfl rfl hl.1 rfl (lv_room (Nat.le_of_ble_eq_true rfl)) dXL_law_769 ⟨Nat.le_of_ble_eq_true rfl, Nat.le_of_ble_eq_true rfl⟩) (fun r f H locs hp hI2 => ?_)
  clear hI
  have hI := hI2
  clear hI2
  obtain ⟨rfl, ⟨Y1, hD1, hY1⟩, off1⟩ := hp
  have hm := hW.mid off1
  refine mv_aload_n B dXL_law_772 rfl (lv_at hl 1 rfl) ?_
  refine mv_aload_n B dXL_law_773 rfl (lv_at hl 3 rfl) ?_
  refine mv_iload_n B dXL_law_774 rfl (lv_at hl 0 rfl) ?_
  refine mv_iconst B dXL_law_775 ?_
  refine mv_iadd B dXL_law_776 ?_
  refine mw_sld B hI hX hbl hbA hL (j + 1) (by omega) (by omega) dXL_law_777 ?_
  refine mw_calli hI hA (va_runV (As := [.int (iI (sx xs (j + 1)))]) (rest := [.int (iI (sp_sign Y (sx xs (j + 1))))]) B.fix (t_X3_sign l D kA H.size f hm h24 hBz (by omega)) (cwV 1 B.2.2.2.2.1 (gV kw_521 kw_522 kw_523 kw_4 kw_524) rfl rfl rfl (by decide +kernel) ⟨Nat.le_of_ble_eq_true rfl, Nat.le_of_ble_eq_true rfl⟩) ⟨mw_blind st_S.blind, mw_recv B hI (by obtain ⟨_, _, _, _, q, _⟩ := hm; exact q.1) rfl, mw_pre B hI (hSt.call hI hA)⟩ rfl rfl hl.1 rfl (lv_room (Nat.le_of_ble_eq_true rfl)) dXL_law_778 ⟨Nat.le_of_ble_eq_true rfl, Nat.le_of_ble_eq_true rfl⟩) (fun r f H locs hp hI2 => ?_)
  clear hI
  have hI := hI2
  clear hI2
  obtain ⟨rfl, Z1, hm1, x24, hZ1⟩ := hp
  have sc := sc_sign (a := (sx xs (j + 1))) hs
  rw [sc]
  refine mv_eqT (tgt := 930) B dXL_law_781 (by decide) ?_
  exact kk f H locs ls Y1 Z1 (hW.next hD1 hm1 x24 (fun i hi => (hY1 i hi).trans ((hs i hi).trans (hZ1 i hi).symm)) (fun i hi => by rw [hY1 i hi]; exact hB i hi)) hI hl
set_option maxHeartbeats 4000000 in
set_option maxRecDepth 100000 in
theorem lc_digits (B : mw_C p s m #[Value.ref b] meth c code 4 "BigDeskLaw" gw D vwCl (tyL kA)) (hA : ∀ q, s.heap.size ≤ q → A q) (hSt : st_S A s) (hX : va_X b L xs s s.heap) (hbl : b < s.heap.size) (hbA : ¬ A b) (hL : L ≤ 2560) {f : mw_M} {H : Heap} {locs : List Loc} {ls : Array Slot} {i : Int} {j : Nat} {Y Z : Nat → Int} (hi : i = (j : Int)) (hj : j + 5 ≤ L) (hI : mw_I D vwCl A s H locs f) (hW : lwI kA f d sl pa w ra o li si su di Y Z) (hl : lv_has ls 4 [(3, .int (iI i)), (2, .ref o), (1, .ref d), (0, .ref b)]) (kk : ∀ (f : mw_M) (H : Heap) (locs : List Loc) (ls : Array Slot) (Y Z : Nat → Int), lwI kA f d sl pa w ra o li si su di Y Z → mw_I D vwCl A s H locs f → lv_has ls 4 [(3, .int (iI i)), (2, .ref o), (1, .ref d), (0, .ref b)] → W p l e room_1 s m #[Value.ref b] below meth c H locs 600000 7302250 Q (F0 m 930 ls [])) : W p l e room_1 s m #[Value.ref b] below meth c H locs 600000 7302250 Q (F0 m 786 ls []) := by
  have x1 := sx_r xs (j + 1)
  have x2 := sx_r xs (j + 2)
  have x3 := sx_r xs (j + 3)
  have x4 := sx_r xs (j + 4)
  obtain ⟨hD, -, h24, hs, hB, hdis⟩ := id hW
  have hBz : ∀ i, i < 16 → ((Z i).natAbs : Int) < 1000000 ^ 50 := fun i hi => by rw [← hs i hi]; exact hB i hi
  refine mv_aload_n B dXL_law_786 rfl (lv_at hl 2 rfl) ?_
  refine mv_aload_n B dXL_law_787 rfl (lv_at hl 3 rfl) ?_
  refine mv_iload_n B dXL_law_788 rfl (lv_at hl 0 rfl) ?_
  refine mv_iconst B dXL_law_789 ?_
  refine mv_iadd B dXL_law_790 ?_
  refine mw_sld B hI hX hbl hbA hL (j + 1) (by omega) (by omega) dXL_law_791 ?_
  refine mw_calli hI hA (va_runV (As := [.int (iI (sx xs (j + 1)))]) (rest := []) B.fix (t_X2_digits l D kA H.size f hD hB (by omega)) (cwV 1 B.2.2.2.2.1 (gV kw_318 kw_319 kw_320 kw_1 kw_321) rfl rfl rfl (by decide +kernel) ⟨Nat.le_of_ble_eq_true rfl, Nat.le_of_ble_eq_true rfl⟩) ⟨mw_blind st_S.blind, mw_recv B hI hD.1 rfl, mw_pre B hI (hSt.call hI hA)⟩ rfl rfl hl.1 rfl (lv_room (Nat.le_of_ble_eq_true rfl)) dXL_law_792 ⟨Nat.le_of_ble_eq_true rfl, Nat.le_of_ble_eq_true rfl⟩) (fun r f H locs hp hI2 => ?_)
  clear hI
  have hI := hI2
  clear hI2
  obtain ⟨rfl, ⟨Y1, hD1, hY1⟩, off1⟩ := hp
  have hm := hW.mid off1
  refine mv_aload_n B dXL_law_795 rfl (lv_at hl 1 rfl) ?_
  refine mv_aload_n B dXL_law_796 rfl (lv_at hl 3 rfl) ?_
  refine mv_iload_n B dXL_law_797 rfl (lv_at hl 0 rfl) ?_
  refine mv_iconst B dXL_law_798 ?_
  refine mv_iadd B dXL_law_799 ?_
  refine mw_sld B hI hX hbl hbA hL (j + 1) (by omega) (by omega) dXL_law_800 ?_
  refine mw_calli hI hA (va_runV (As := [.int (iI (sx xs (j + 1)))]) (rest := [.int (iI (sp_digits Y (sx xs (j + 1))))]) B.fix (t_X3_digits l D kA H.size f hm h24 hBz (by omega)) (cwV 1 B.2.2.2.2.1 (gV kw_525 kw_526 kw_527 kw_4 kw_528) rfl rfl rfl (by decide +kernel) ⟨Nat.le_of_ble_eq_true rfl, Nat.le_of_ble_eq_true rfl⟩) ⟨mw_blind st_S.blind, mw_recv B hI (by obtain ⟨_, _, _, _, q, _⟩ := hm; exact q.1) rfl, mw_pre B hI (hSt.call hI hA)⟩ rfl rfl hl.1 rfl (lv_room (Nat.le_of_ble_eq_true rfl)) dXL_law_801 ⟨Nat.le_of_ble_eq_true rfl, Nat.le_of_ble_eq_true rfl⟩) (fun r f H locs hp hI2 => ?_)
  clear hI
  have hI := hI2
  clear hI2
  obtain ⟨rfl, Z1, hm1, x24, hZ1⟩ := hp
  have sc := sc_digits (a := (sx xs (j + 1))) hs
  rw [sc]
  refine mv_eqT (tgt := 930) B dXL_law_804 (by decide) ?_
  exact kk f H locs ls Y1 Z1 (hW.next hD1 hm1 x24 (fun i hi => (hY1 i hi).trans ((hs i hi).trans (hZ1 i hi).symm)) (fun i hi => by rw [hY1 i hi]; exact hB i hi)) hI hl
set_option maxHeartbeats 4000000 in
set_option maxRecDepth 100000 in
theorem lc_digitAt (B : mw_C p s m #[Value.ref b] meth c code 4 "BigDeskLaw" gw D vwCl (tyL kA)) (hA : ∀ q, s.heap.size ≤ q → A q) (hSt : st_S A s) (hX : va_X b L xs s s.heap) (hbl : b < s.heap.size) (hbA : ¬ A b) (hL : L ≤ 2560) {f : mw_M} {H : Heap} {locs : List Loc} {ls : Array Slot} {i : Int} {j : Nat} {Y Z : Nat → Int} (hi : i = (j : Int)) (hj : j + 5 ≤ L) (hI : mw_I D vwCl A s H locs f) (hW : lwI kA f d sl pa w ra o li si su di Y Z) (hl : lv_has ls 4 [(3, .int (iI i)), (2, .ref o), (1, .ref d), (0, .ref b)]) (kk : ∀ (f : mw_M) (H : Heap) (locs : List Loc) (ls : Array Slot) (Y Z : Nat → Int), lwI kA f d sl pa w ra o li si su di Y Z → mw_I D vwCl A s H locs f → lv_has ls 4 [(3, .int (iI i)), (2, .ref o), (1, .ref d), (0, .ref b)] → W p l e room_1 s m #[Value.ref b] below meth c H locs 600000 7302250 Q (F0 m 930 ls [])) : W p l e room_1 s m #[Value.ref b] below meth c H locs 600000 7302250 Q (F0 m 809 ls []) := by
  have x1 := sx_r xs (j + 1)
  have x2 := sx_r xs (j + 2)
  have x3 := sx_r xs (j + 3)
  have x4 := sx_r xs (j + 4)
  obtain ⟨hD, -, h24, hs, hB, hdis⟩ := id hW
  have hBz : ∀ i, i < 16 → ((Z i).natAbs : Int) < 1000000 ^ 50 := fun i hi => by rw [← hs i hi]; exact hB i hi
  refine mv_aload_n B dXL_law_809 rfl (lv_at hl 2 rfl) ?_
  refine mv_aload_n B dXL_law_810 rfl (lv_at hl 3 rfl) ?_
  refine mv_iload_n B dXL_law_811 rfl (lv_at hl 0 rfl) ?_
  refine mv_iconst B dXL_law_812 ?_
  refine mv_iadd B dXL_law_813 ?_
  refine mw_sld B hI hX hbl hbA hL (j + 1) (by omega) (by omega) dXL_law_814 ?_
  refine mv_aload_n B dXL_law_815 rfl (lv_at hl 3 rfl) ?_
  refine mv_iload_n B dXL_law_816 rfl (lv_at hl 0 rfl) ?_
  refine mv_iconst B dXL_law_817 ?_
  refine mv_iadd B dXL_law_818 ?_
  refine mw_sld B hI hX hbl hbA hL (j + 2) (by omega) (by omega) dXL_law_819 ?_
  refine mw_calli hI hA (va_runV (As := [.int (iI (sx xs (j + 1))), .int (iI (sx xs (j + 2)))]) (rest := []) B.fix (t_X2_digitAt l D kA H.size f hD hB (by omega) (by omega)) (cwV 2 B.2.2.2.2.1 (gV kw_328 kw_329 kw_330 kw_1 kw_331) rfl rfl rfl (by decide +kernel) ⟨Nat.le_of_ble_eq_true rfl, Nat.le_of_ble_eq_true rfl⟩) ⟨mw_blind st_S.blind, mw_recv B hI hD.1 rfl, mw_pre B hI (hSt.call hI hA)⟩ rfl rfl hl.1 rfl (lv_room (Nat.le_of_ble_eq_true rfl)) dXL_law_820 ⟨Nat.le_of_ble_eq_true rfl, Nat.le_of_ble_eq_true rfl⟩) (fun r f H locs hp hI2 => ?_)
  clear hI
  have hI := hI2
  clear hI2
  obtain ⟨rfl, ⟨Y1, hD1, hY1⟩, off1⟩ := hp
  have hm := hW.mid off1
  refine mv_aload_n B dXL_law_823 rfl (lv_at hl 1 rfl) ?_
  refine mv_aload_n B dXL_law_824 rfl (lv_at hl 3 rfl) ?_
  refine mv_iload_n B dXL_law_825 rfl (lv_at hl 0 rfl) ?_
  refine mv_iconst B dXL_law_826 ?_
  refine mv_iadd B dXL_law_827 ?_
  refine mw_sld B hI hX hbl hbA hL (j + 1) (by omega) (by omega) dXL_law_828 ?_
  refine mv_aload_n B dXL_law_829 rfl (lv_at hl 3 rfl) ?_
  refine mv_iload_n B dXL_law_830 rfl (lv_at hl 0 rfl) ?_
  refine mv_iconst B dXL_law_831 ?_
  refine mv_iadd B dXL_law_832 ?_
  refine mw_sld B hI hX hbl hbA hL (j + 2) (by omega) (by omega) dXL_law_833 ?_
  refine mw_calli hI hA (va_runV (As := [.int (iI (sx xs (j + 1))), .int (iI (sx xs (j + 2)))]) (rest := [.int (iI (sp_digitAt Y (sx xs (j + 1)) (sx xs (j + 2))))]) B.fix (t_X3_digitAt l D kA H.size f hm h24 hBz (by omega) (by omega)) (cwV 2 B.2.2.2.2.1 (gV kw_533 kw_534 kw_535 kw_4 kw_536) rfl rfl rfl (by decide +kernel) ⟨Nat.le_of_ble_eq_true rfl, Nat.le_of_ble_eq_true rfl⟩) ⟨mw_blind st_S.blind, mw_recv B hI (by obtain ⟨_, _, _, _, q, _⟩ := hm; exact q.1) rfl, mw_pre B hI (hSt.call hI hA)⟩ rfl rfl hl.1 rfl (lv_room (Nat.le_of_ble_eq_true rfl)) dXL_law_834 ⟨Nat.le_of_ble_eq_true rfl, Nat.le_of_ble_eq_true rfl⟩) (fun r f H locs hp hI2 => ?_)
  clear hI
  have hI := hI2
  clear hI2
  obtain ⟨rfl, Z1, hm1, x24, hZ1⟩ := hp
  have sc := sc_digitAt (a := (sx xs (j + 1))) (i := (sx xs (j + 2))) hs
  rw [sc]
  refine mv_eqT (tgt := 930) B dXL_law_837 (by decide) ?_
  exact kk f H locs ls Y1 Z1 (hW.next hD1 hm1 x24 (fun i hi => (hY1 i hi).trans ((hs i hi).trans (hZ1 i hi).symm)) (fun i hi => by rw [hY1 i hi]; exact hB i hi)) hI hl
set_option maxHeartbeats 4000000 in
set_option maxRecDepth 100000 in
theorem lc_modulo (B : mw_C p s m #[Value.ref b] meth c code 4 "BigDeskLaw" gw D vwCl (tyL kA)) (hA : ∀ q, s.heap.size ≤ q → A q) (hSt : st_S A s) (hX : va_X b L xs s s.heap) (hbl : b < s.heap.size) (hbA : ¬ A b) (hL : L ≤ 2560) {f : mw_M} {H : Heap} {locs : List Loc} {ls : Array Slot} {i : Int} {j : Nat} {Y Z : Nat → Int} (hi : i = (j : Int)) (hj : j + 5 ≤ L) (hI : mw_I D vwCl A s H locs f) (hW : lwI kA f d sl pa w ra o li si su di Y Z) (hl : lv_has ls 4 [(3, .int (iI i)), (2, .ref o), (1, .ref d), (0, .ref b)]) (kk : ∀ (f : mw_M) (H : Heap) (locs : List Loc) (ls : Array Slot) (Y Z : Nat → Int), lwI kA f d sl pa w ra o li si su di Y Z → mw_I D vwCl A s H locs f → lv_has ls 4 [(3, .int (iI i)), (2, .ref o), (1, .ref d), (0, .ref b)] → W p l e room_1 s m #[Value.ref b] below meth c H locs 600000 7302250 Q (F0 m 930 ls [])) : W p l e room_1 s m #[Value.ref b] below meth c H locs 600000 7302250 Q (F0 m 842 ls []) := by
  have x1 := sx_r xs (j + 1)
  have x2 := sx_r xs (j + 2)
  have x3 := sx_r xs (j + 3)
  have x4 := sx_r xs (j + 4)
  obtain ⟨hD, -, h24, hs, hB, hdis⟩ := id hW
  have hBz : ∀ i, i < 16 → ((Z i).natAbs : Int) < 1000000 ^ 50 := fun i hi => by rw [← hs i hi]; exact hB i hi
  refine mv_aload_n B dXL_law_842 rfl (lv_at hl 2 rfl) ?_
  refine mv_aload_n B dXL_law_843 rfl (lv_at hl 3 rfl) ?_
  refine mv_iload_n B dXL_law_844 rfl (lv_at hl 0 rfl) ?_
  refine mv_iconst B dXL_law_845 ?_
  refine mv_iadd B dXL_law_846 ?_
  refine mw_sld B hI hX hbl hbA hL (j + 1) (by omega) (by omega) dXL_law_847 ?_
  refine mv_aload_n B dXL_law_848 rfl (lv_at hl 3 rfl) ?_
  refine mv_iload_n B dXL_law_849 rfl (lv_at hl 0 rfl) ?_
  refine mv_iconst B dXL_law_850 ?_
  refine mv_iadd B dXL_law_851 ?_
  refine mw_sld B hI hX hbl hbA hL (j + 2) (by omega) (by omega) dXL_law_852 ?_
  refine mv_i2l B dXL_law_853 (by omega) ?_
  refine mv_bipush B dXL_law_854 (by decide) ?_
  refine mv_lshl32 B dXL_law_856 ?_
  refine mv_aload_n B dXL_law_857 rfl (lv_at hl 3 rfl) ?_
  refine mv_iload_n B dXL_law_858 rfl (lv_at hl 0 rfl) ?_
  refine mv_iconst B dXL_law_859 ?_
  refine mv_iadd B dXL_law_860 ?_
  refine mw_sld B hI hX hbl hbA hL (j + 3) (by omega) (by omega) dXL_law_861 ?_
  refine mv_i2l B dXL_law_862 (by omega) ?_
  refine mv_ldc2 (z := 4294967295) B dXL_law_863 kw_548 (by decide) ?_
  refine mv_lmask32 B dXL_law_866 ?_
  refine mv_lor32 B dXL_law_867 (by omega) ?_
  refine mw_calll hI hA (va_runV (As := [.int (iI (sx xs (j + 1))), .long (lI (sx xs (j + 2) * 4294967296 + sx xs (j + 3) % 4294967296))]) (rest := []) B.fix (t_X2_modulo l D kA H.size f hD hB (by omega) (by omega)) (cwV 2 B.2.2.2.2.1 (gV kw_336 kw_337 kw_338 kw_1 kw_339) rfl rfl rfl (by decide +kernel) ⟨Nat.le_of_ble_eq_true rfl, Nat.le_of_ble_eq_true rfl⟩) ⟨mw_blind st_S.blind, mw_recv B hI hD.1 rfl, mw_pre B hI (hSt.call hI hA)⟩ rfl rfl hl.1 rfl (lv_room (Nat.le_of_ble_eq_true rfl)) dXL_law_868 ⟨Nat.le_of_ble_eq_true rfl, Nat.le_of_ble_eq_true rfl⟩) (fun r f H locs hp hI2 => ?_)
  clear hI
  have hI := hI2
  clear hI2
  obtain ⟨rfl, ⟨Y1, hD1, hY1⟩, off1⟩ := hp
  have hm := hW.mid off1
  refine mv_aload_n B dXL_law_871 rfl (lv_at hl 1 rfl) ?_
  refine mv_aload_n B dXL_law_872 rfl (lv_at hl 3 rfl) ?_
  refine mv_iload_n B dXL_law_873 rfl (lv_at hl 0 rfl) ?_
  refine mv_iconst B dXL_law_874 ?_
  refine mv_iadd B dXL_law_875 ?_
  refine mw_sld B hI hX hbl hbA hL (j + 1) (by omega) (by omega) dXL_law_876 ?_
  refine mv_aload_n B dXL_law_877 rfl (lv_at hl 3 rfl) ?_
  refine mv_iload_n B dXL_law_878 rfl (lv_at hl 0 rfl) ?_
  refine mv_iconst B dXL_law_879 ?_
  refine mv_iadd B dXL_law_880 ?_
  refine mw_sld B hI hX hbl hbA hL (j + 2) (by omega) (by omega) dXL_law_881 ?_
  refine mv_i2l B dXL_law_882 (by omega) ?_
  refine mv_bipush B dXL_law_883 (by decide) ?_
  refine mv_lshl32 B dXL_law_885 ?_
  refine mv_aload_n B dXL_law_886 rfl (lv_at hl 3 rfl) ?_
  refine mv_iload_n B dXL_law_887 rfl (lv_at hl 0 rfl) ?_
  refine mv_iconst B dXL_law_888 ?_
  refine mv_iadd B dXL_law_889 ?_
  refine mw_sld B hI hX hbl hbA hL (j + 3) (by omega) (by omega) dXL_law_890 ?_
  refine mv_i2l B dXL_law_891 (by omega) ?_
  refine mv_ldc2 (z := 4294967295) B dXL_law_892 kw_548 (by decide) ?_
  refine mv_lmask32 B dXL_law_895 ?_
  refine mv_lor32 B dXL_law_896 (by omega) ?_
  refine mw_calll hI hA (va_runV (As := [.int (iI (sx xs (j + 1))), .long (lI (sx xs (j + 2) * 4294967296 + sx xs (j + 3) % 4294967296))]) (rest := [.long (lI (sp_modulo Y (sx xs (j + 1)) (sx xs (j + 2) * 4294967296 + sx xs (j + 3) % 4294967296)))]) B.fix (t_X3_modulo l D kA H.size f hm h24 hBz (by omega) (by omega)) (cwV 2 B.2.2.2.2.1 (gV kw_537 kw_538 kw_539 kw_4 kw_540) rfl rfl rfl (by decide +kernel) ⟨Nat.le_of_ble_eq_true rfl, Nat.le_of_ble_eq_true rfl⟩) ⟨mw_blind st_S.blind, mw_recv B hI (by obtain ⟨_, _, _, _, q, _⟩ := hm; exact q.1) rfl, mw_pre B hI (hSt.call hI hA)⟩ rfl rfl hl.1 rfl (lv_room (Nat.le_of_ble_eq_true rfl)) dXL_law_897 ⟨Nat.le_of_ble_eq_true rfl, Nat.le_of_ble_eq_true rfl⟩) (fun r f H locs hp hI2 => ?_)
  clear hI
  have hI := hI2
  clear hI2
  obtain ⟨rfl, Z1, hm1, x24, hZ1⟩ := hp
  have sc := sc_modulo (a := (sx xs (j + 1))) (m := (sx xs (j + 2) * 4294967296 + sx xs (j + 3) % 4294967296)) hs
  rw [sc]
  refine mv_leqT (tgt := 930) B dXL_law_900 dXL_law_901 (by decide) ?_
  exact kk f H locs ls Y1 Z1 (hW.next hD1 hm1 x24 (fun i hi => (hY1 i hi).trans ((hs i hi).trans (hZ1 i hi).symm)) (fun i hi => by rw [hY1 i hi]; exact hB i hi)) hI hl
set_option maxHeartbeats 4000000 in
set_option maxRecDepth 100000 in
theorem lc_low (B : mw_C p s m #[Value.ref b] meth c code 4 "BigDeskLaw" gw D vwCl (tyL kA)) (hA : ∀ q, s.heap.size ≤ q → A q) (hSt : st_S A s) (hX : va_X b L xs s s.heap) (hbl : b < s.heap.size) (hbA : ¬ A b) (hL : L ≤ 2560) {f : mw_M} {H : Heap} {locs : List Loc} {ls : Array Slot} {i : Int} {j : Nat} {Y Z : Nat → Int} (hi : i = (j : Int)) (hj : j + 5 ≤ L) (hI : mw_I D vwCl A s H locs f) (hW : lwI kA f d sl pa w ra o li si su di Y Z) (hl : lv_has ls 4 [(3, .int (iI i)), (2, .ref o), (1, .ref d), (0, .ref b)]) (kk : ∀ (f : mw_M) (H : Heap) (locs : List Loc) (ls : Array Slot) (Y Z : Nat → Int), lwI kA f d sl pa w ra o li si su di Y Z → mw_I D vwCl A s H locs f → lv_has ls 4 [(3, .int (iI i)), (2, .ref o), (1, .ref d), (0, .ref b)] → W p l e room_1 s m #[Value.ref b] below meth c H locs 600000 7302250 Q (F0 m 930 ls [])) : W p l e room_1 s m #[Value.ref b] below meth c H locs 600000 7302250 Q (F0 m 906 ls []) := by
  have x1 := sx_r xs (j + 1)
  have x2 := sx_r xs (j + 2)
  have x3 := sx_r xs (j + 3)
  have x4 := sx_r xs (j + 4)
  obtain ⟨hD, -, h24, hs, hB, hdis⟩ := id hW
  have hBz : ∀ i, i < 16 → ((Z i).natAbs : Int) < 1000000 ^ 50 := fun i hi => by rw [← hs i hi]; exact hB i hi
  refine mv_aload_n B dXL_law_906 rfl (lv_at hl 2 rfl) ?_
  refine mv_aload_n B dXL_law_907 rfl (lv_at hl 3 rfl) ?_
  refine mv_iload_n B dXL_law_908 rfl (lv_at hl 0 rfl) ?_
  refine mv_iconst B dXL_law_909 ?_
  refine mv_iadd B dXL_law_910 ?_
  refine mw_sld B hI hX hbl hbA hL (j + 1) (by omega) (by omega) dXL_law_911 ?_
  refine mw_calll hI hA (va_runV (As := [.int (iI (sx xs (j + 1)))]) (rest := []) B.fix (t_X2_low l D kA H.size f hD hB (by omega)) (cwV 1 B.2.2.2.2.1 (gV kw_348 kw_349 kw_350 kw_1 kw_351) rfl rfl rfl (by decide +kernel) ⟨Nat.le_of_ble_eq_true rfl, Nat.le_of_ble_eq_true rfl⟩) ⟨mw_blind st_S.blind, mw_recv B hI hD.1 rfl, mw_pre B hI (hSt.call hI hA)⟩ rfl rfl hl.1 rfl (lv_room (Nat.le_of_ble_eq_true rfl)) dXL_law_912 ⟨Nat.le_of_ble_eq_true rfl, Nat.le_of_ble_eq_true rfl⟩) (fun r f H locs hp hI2 => ?_)
  clear hI
  have hI := hI2
  clear hI2
  obtain ⟨rfl, ⟨Y1, hD1, hY1⟩, off1⟩ := hp
  have hm := hW.mid off1
  refine mv_aload_n B dXL_law_915 rfl (lv_at hl 1 rfl) ?_
  refine mv_aload_n B dXL_law_916 rfl (lv_at hl 3 rfl) ?_
  refine mv_iload_n B dXL_law_917 rfl (lv_at hl 0 rfl) ?_
  refine mv_iconst B dXL_law_918 ?_
  refine mv_iadd B dXL_law_919 ?_
  refine mw_sld B hI hX hbl hbA hL (j + 1) (by omega) (by omega) dXL_law_920 ?_
  refine mw_calll hI hA (va_runV (As := [.int (iI (sx xs (j + 1)))]) (rest := [.long (lI (sp_low Y (sx xs (j + 1))))]) B.fix (t_X3_low l D kA H.size f hm h24 hBz (by omega)) (cwV 1 B.2.2.2.2.1 (gV kw_544 kw_545 kw_546 kw_4 kw_547) rfl rfl rfl (by decide +kernel) ⟨Nat.le_of_ble_eq_true rfl, Nat.le_of_ble_eq_true rfl⟩) ⟨mw_blind st_S.blind, mw_recv B hI (by obtain ⟨_, _, _, _, q, _⟩ := hm; exact q.1) rfl, mw_pre B hI (hSt.call hI hA)⟩ rfl rfl hl.1 rfl (lv_room (Nat.le_of_ble_eq_true rfl)) dXL_law_921 ⟨Nat.le_of_ble_eq_true rfl, Nat.le_of_ble_eq_true rfl⟩) (fun r f H locs hp hI2 => ?_)
  clear hI
  have hI := hI2
  clear hI2
  obtain ⟨rfl, Z1, hm1, x24, hZ1⟩ := hp
  have sc := sc_low (a := (sx xs (j + 1))) hs
  rw [sc]
  refine mv_leqT (tgt := 930) B dXL_law_924 dXL_law_925 (by decide) ?_
  exact kk f H locs ls Y1 Z1 (hW.next hD1 hm1 x24 (fun i hi => (hY1 i hi).trans ((hs i hi).trans (hZ1 i hi).symm)) (fun i hi => by rw [hY1 i hi]; exact hB i hi)) hI hl
end LC
