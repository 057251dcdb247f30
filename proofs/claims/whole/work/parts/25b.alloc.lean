/-! WHAT IS MADE -/
section ALLOC
variable {p : Program} {l : Launch} {e : Env} {R : Room} {s : State} {m : MethodId} {args : Array Value} {below : List Frame} {meth : Method} {c : Code} {H : Heap} {locs : List Loc} {cells slots : Nat} {Q : State → Prop}
variable {cc : ByteArray} {nL : Nat} {own : String} {Ts : List Cond} {pc : Nat} {ls : Array Slot} {rest : List Value} {D : va_G} {cl : List vw_C} {tys : List (ClassId × FieldType)} {A : Nat → Prop} {f : mw_M} {a : Nat} {index : Nat}
theorem mw_fresh {ws : va_W} {q : Nat} {e1 : va_E} (hR : mw_R f ws) (hD : va_D A (ws ++ [(q, e1)])) : f q = none := by
  cases hq : f q with
  | none => rfl
  | some e2 =>
    obtain ⟨k, hk⟩ := (hR q e2).mp hq
    have hlt : k < ws.length := (List.getElem?_eq_some_iff.mp hk).1
    have h1 : (ws ++ [(q, e1)])[k]? = some (q, e2) := by rw [List.getElem?_append_left hlt]; exact hk
    have h2 : (ws ++ [(q, e1)])[ws.length]? = some (q, e1) := by rw [List.getElem?_append_right (Nat.le_refl _), Nat.sub_self]; rfl
    have := hD.1 k ws.length _ _ h1 h2 rfl
    omega
theorem tys_last {U : State} {cA cB : ClassId} {ty : FieldType} {t0 : Nat} (hK : va_K D cl (tys ++ [(cA, ty)]) U) (ht : tys[t0]? = some (cB, ty)) : cA = cB := by
  have hlt : t0 < tys.length := (List.getElem?_eq_some_iff.mp ht).1
  have h1 := (hK.2 t0 (cB, ty) (by rw [List.getElem?_append_left hlt]; exact ht)).2
  have h2 := (hK.2 tys.length (cA, ty) (by rw [List.getElem?_append_right (Nat.le_refl _), Nat.sub_self]; rfl)).2
  cases ty with
  | object C =>
    obtain ⟨_, _, _, _, _, q1⟩ := h1
    obtain ⟨_, _, _, _, _, q2⟩ := h2
    exact Option.some.inj (q2.symm.trans q1)
  | _ => exact Option.some.inj (h2.symm.trans h1)
theorem mw_newi (B : mw_C p s m args meth c cc nL own Ts D cl tys) (hI : mw_I D cl A s H locs f) (hA : ∀ q, s.heap.size ≤ q → A q) (harr : Cond.arrayClass .int ∈ Ts) (t0 : Nat) {cI : ClassId} (ht : tys[t0]? = some (cI, .int)) {N : Nat} (hN : N ≤ 100000) (hcells : cells + 1 ≤ R.cells) (hslots : slots + N ≤ R.slots) (hdg : decode cc pc = .ok (.newarray .int, 2))
    (kk : ∀ (q : Nat) (H1 : Heap), f q = none → mw_I D cl A s H1 locs (mw_set f q (mw_ar cI N (fun _ => 0))) → W p l e R s m args below meth c H1 locs (cells + 1) (slots + N) Q (F0 m (pc + 2) ls (.ref q :: rest))) : W p l e R s m args below meth c H locs cells slots Q (F0 m pc ls (.int (iI (N : Int)) :: rest)) := by
  obtain ⟨ws, hP, hD, hS, hR⟩ := hI
  refine va_newa (atype := .int) (ty := .int) (N' := N) (a0 := (N, .inl (fun _ => iI 0))) B.1 B.2.1 (B.2.2.2.2.1 _ harr) rfl B.2.2.2.2.2.2 hP hD hS hA (fun cA => rfl) (iI_pos (by omega)) (iI_clamp (by omega)) ?_ hcells hslots hdg (fun q cA H1 hK1 hP1 hD1 hS1 => ?_)
  · show N * 4 ≤ 536870912; omega
  · have e1 := tys_last hK1 ht
    subst e1
    exact kk q H1 (mw_fresh hR hD1) ⟨_, hP1, hD1, hS1, hR.push hD1⟩
theorem mw_newl (B : mw_C p s m args meth c cc nL own Ts D cl tys) (hI : mw_I D cl A s H locs f) (hA : ∀ q, s.heap.size ≤ q → A q) (harr : Cond.arrayClass .long ∈ Ts) (t0 : Nat) {cI : ClassId} (ht : tys[t0]? = some (cI, .long)) {N : Nat} (hN : N ≤ 100000) (hcells : cells + 1 ≤ R.cells) (hslots : slots + N ≤ R.slots) (hdg : decode cc pc = .ok (.newarray .long, 2))
    (kk : ∀ (q : Nat) (H1 : Heap), f q = none → mw_I D cl A s H1 locs (mw_set f q (.inl (cI, N, .inr (.inl (fun _ => lI 0))))) → W p l e R s m args below meth c H1 locs (cells + 1) (slots + N) Q (F0 m (pc + 2) ls (.ref q :: rest))) : W p l e R s m args below meth c H locs cells slots Q (F0 m pc ls (.int (iI (N : Int)) :: rest)) := by
  obtain ⟨ws, hP, hD, hS, hR⟩ := hI
  refine va_newa (atype := .long) (ty := .long) (N' := N) (a0 := (N, .inr (.inl (fun _ => lI 0)))) B.1 B.2.1 (B.2.2.2.2.1 _ harr) rfl B.2.2.2.2.2.2 hP hD hS hA (fun cA => rfl) (iI_pos (by omega)) (iI_clamp (by omega)) ?_ hcells hslots hdg (fun q cA H1 hK1 hP1 hD1 hS1 => ?_)
  · show N * 8 ≤ 536870912; omega
  · have e1 := tys_last hK1 ht
    subst e1
    exact kk q H1 (mw_fresh hR hD1) ⟨_, hP1, hD1, hS1, hR.push hD1⟩
theorem mw_newq {C : String} (B : mw_C p s m args meth c cc nL own Ts D cl tys) (hI : mw_I D cl A s H locs f) (hA : ∀ q, s.heap.size ≤ q → A q) (hlink : Cond.classLink own index C ∈ Ts) (hover : va_AO C s) (t0 : Nat) {cI : ClassId} (ht : tys[t0]? = some (cI, .object C)) {N : Nat} (hN : N ≤ 100000) (hcells : cells + 1 ≤ R.cells) (hslots : slots + N ≤ R.slots) (hdg : decode cc pc = .ok (.anewarray index, 3))
    (kk : ∀ (q : Nat) (H1 : Heap), f q = none → mw_I D cl A s H1 locs (mw_set f q (mw_qr cI N (fun _ => none))) → W p l e R s m args below meth c H1 locs (cells + 1) (slots + N) Q (F0 m (pc + 3) ls (.ref q :: rest))) : W p l e R s m args below meth c H locs cells slots Q (F0 m pc ls (.int (iI (N : Int)) :: rest)) := by
  obtain ⟨ws, hP, hD, hS, hR⟩ := hI
  refine va_newq (N' := N) B.1 B.2.1 B.2.2.2.1 (B.2.2.2.2.1 _ hlink) hover B.2.2.2.2.2.2 hP hD hS hA (iI_pos (by omega)) (iI_clamp (by omega)) (by omega) hcells hslots hdg (fun q cA H1 hK1 hP1 hD1 hS1 => ?_)
  have e1 := tys_last hK1 ht
  subst e1
  exact kk q H1 (mw_fresh hR hD1) ⟨_, hP1, hD1, hS1, hR.push hD1⟩
theorem mw_new {C : String} {T : u_T} {N ci : Nat} (B : mw_C p s m args meth c cc nL own Ts D cl tys) (hI : mw_I D cl A s H locs f) (hA : ∀ q, s.heap.size ≤ q → A q) (hin : ∀ w ∈ u_ws C T N, w ∈ Ts) (ty : Nat → FieldType) (hty : ∀ k, k < N → parseFieldDescriptor (T k).2.2.1 = some (ty k)) (h1 : Cond.classLink own index C ∈ Ts) (h2 : Cond.instantiable C N ∈ Ts) (h3 : Cond.initialized C ∈ Ts) (hc : cl[ci]? = some (C, T, N)) (fs : List Value) (hfs : ∀ j, j < N → defaultValue (ty j) = vp_V fs j) (hcells : cells + 1 ≤ R.cells) (hslots : slots + N ≤ R.slots) (hdg : decode cc pc = .ok (.new index, 3))
    (kk : ∀ (q : Nat) (H1 : Heap), f q = none → mw_I D cl A s H1 locs (mw_set f q (.inr (ci, fs))) → W p l e R s m args below meth c H1 locs (cells + 1) (slots + N) Q (F0 m (pc + 3) ls (.ref q :: rest))) : W p l e R s m args below meth c H locs cells slots Q (F0 m pc ls rest) := by
  obtain ⟨ws, hP, hD, hS, hR⟩ := hI
  refine va_new (fs := fs) B.1 B.2.1 B.2.2.2.2.1 hin ty hty B.2.2.2.1 (B.2.2.2.2.1 _ h1) (B.2.2.2.2.1 _ h2) (B.2.2.2.2.1 _ h3) B.2.2.2.2.2.2 hP hD hS hA hc hfs hcells hslots hdg (fun q H1 hP1 hD1 hS1 => ?_)
  exact kk q H1 (mw_fresh hR hD1) ⟨_, hP1, hD1, hS1, hR.push hD1⟩
theorem mw_obj (B : mw_C p s m args meth c cc nL own Ts D cl tys) (hls : ls.size = nL) (h1 : Cond.methodLink own index objectInit ∈ Ts) (h2 : Cond.instanceMethod objectInit ∈ Ts) (h3 : Cond.code objectInit ⟨#[0xb1]⟩ 1 none ∈ Ts) (hfr : 1 ≤ R.frames) (hlo : (rest.map fun v => v.category).sum + 12 ≤ R.locals) (hdg : decode cc pc = .ok (.invokespecial index, 3)) (kk : W p l e R s m args below meth c H locs cells slots Q (F0 m (pc + 3) ls rest)) : W p l e R s m args below meth c H locs cells slots Q (F0 m pc ls (.ref a :: rest)) :=
  W.objInit B.1 B.2.1 B.2.2.2.1 (B.2.2.2.2.1 _ h1) (B.2.2.2.2.1 _ h2) (B.2.2.2.2.1 _ h3) rfl (by rw [B.2.2.1]; exact hls) rfl hdg hfr (by show 2 * 0 + _ + 12 ≤ _; omega) kk
/-- an object's field is put: what it holds, and that all else stays -/
theorem mw_put2 (B : mw_C p s m args meth c cc nL own Ts D cl tys) (hI : mw_I D cl A s H locs f) {C : String} {T : u_T} {N ci index : Nat} {fs : List Value} (ha : f a = some (.inr (ci, fs))) (hin : ∀ w ∈ u_ws C T N, w ∈ Ts) (ty0 : Nat → FieldType) (hty : ∀ k, k < N → parseFieldDescriptor (T k).2.2.1 = some (ty0 k)) (hnm : ∀ a, a < N → ∀ b, b < N → a ≠ b → (T a).2.1 ≠ (T b).2.1) (hc : cl[ci]? = some (C, T, N)) (k : Nat) (hk : k < N) (hl : Cond.fieldLink own index (T k).1 (T k).2.1 (T k).2.2.1 ∈ Ts) (hfin : (T k).2.2.2 = false) {v : Value} (hn : narrow (ty0 k) v = v) (hfit : fits (ty0 k) v = true) (hlen : k < fs.length) (hdg : decode cc pc = .ok (.putfield index, 3))
    (kk : ∀ (f1 : mw_M) (H1 : Heap) (locs1 : List Loc), f1 a = some (.inr (ci, fs.set k v)) → (∀ q, q ≠ a → f1 q = f q) → mw_I D cl A s H1 locs1 f1 → W p l e R s m args below meth c H1 locs1 cells slots Q (F0 m (pc + 3) ls rest)) : W p l e R s m args below meth c H locs cells slots Q (F0 m pc ls (v :: .ref a :: rest)) :=
  mw_put B hI ha hin ty0 hty hnm hc k hk hl hfin hn hfit hlen hdg (fun H1 locs1 h => kk _ H1 locs1 (mw_set_self _ _ _) (fun q hq => mw_set_ne _ _ hq) h)
theorem mw_putF2 (B : mw_C p s m args meth c cc nL own Ts D cl tys) (hI : mw_I D cl A s H locs f) {C : String} {T : u_T} {N ci index : Nat} {fs : List Value} (ha : f a = some (.inr (ci, fs))) (hin : ∀ w ∈ u_ws C T N, w ∈ Ts) (ty0 : Nat → FieldType) (hty : ∀ k, k < N → parseFieldDescriptor (T k).2.2.1 = some (ty0 k)) (hnm : ∀ a, a < N → ∀ b, b < N → a ≠ b → (T a).2.1 ≠ (T b).2.1) (hc : cl[ci]? = some (C, T, N)) (k : Nat) (hk : k < N) (hl : Cond.fieldLink own index (T k).1 (T k).2.1 (T k).2.2.1 ∈ Ts) (hfin : (T k).2.2.2 = true) (hin2 : meth.name = "<init>") (hdecl : (T k).1 = own) {v : Value} (hn : narrow (ty0 k) v = v) (hfit : fits (ty0 k) v = true) (hlen : k < fs.length) (hdg : decode cc pc = .ok (.putfield index, 3))
    (kk : ∀ (f1 : mw_M) (H1 : Heap) (locs1 : List Loc), f1 a = some (.inr (ci, fs.set k v)) → (∀ q, q ≠ a → f1 q = f q) → mw_I D cl A s H1 locs1 f1 → W p l e R s m args below meth c H1 locs1 cells slots Q (F0 m (pc + 3) ls rest)) : W p l e R s m args below meth c H locs cells slots Q (F0 m pc ls (v :: .ref a :: rest)) :=
  mw_putF B hI ha hin ty0 hty hnm hc k hk hl hfin hin2 hdecl hn hfit hlen hdg (fun H1 locs1 h => kk _ H1 locs1 (mw_set_self _ _ _) (fun q hq => mw_set_ne _ _ hq) h)
theorem lI_shr1 {x : Int} (h : 0 ≤ x ∧ x ≤ 4611686018427387903) : lI x >>> ((iI 1).toInt64 &&& 63) = lI (x / 2) := by
  apply Int64.toInt_inj.mp
  have hD : (((iI 1).toInt64 &&& 63).toBitVec.smod 64).toNat = 1 := by decide
  have e1 : (lI x >>> ((iI 1).toInt64 &&& 63)).toInt = (lI x).toInt >>> 1 := by
    rw [← hD]
    exact BitVec.toInt_sshiftRight ..
  rw [e1, Int.shiftRight_eq_div_pow, lI_toInt ⟨by omega, by omega⟩, lI_toInt ⟨by omega, by omega⟩]
  rfl
theorem mv_lshr1 {x : Int} (B : mw_C p s m args meth c cc nL own Ts D cl tys) (hdg : decode cc pc = .ok (.lshr, 1)) (h : 0 ≤ x ∧ x ≤ 4611686018427387903) (k : W p l e R s m args below meth c H locs cells slots Q (F0 m (pc + 1) ls (.long (lI (x / 2)) :: rest))) : W p l e R s m args below meth c H locs cells slots Q (F0 m pc ls (.int (iI 1) :: .long (lI x) :: rest)) := lv_lshr B.1 B.2.1 hdg (lI_shr1 h) k
end ALLOC
