/-! THE WORLD AS A MAP: which cell lies at which address; no places, and two names may be one cell -/
abbrev mw_M : Type := Nat → Option va_E
def mw_set (f : mw_M) (a : Nat) (e : va_E) : mw_M := fun q => if q = a then some e else f q
theorem mw_set_self (f : mw_M) (a : Nat) (e : va_E) : mw_set f a e a = some e := by simp [mw_set]
theorem mw_set_ne (f : mw_M) {a q : Nat} (e : va_E) (h : q ≠ a) : mw_set f a e q = f q := by simp [mw_set, h]
def mw_A (f : mw_M) (sz : Nat) : Nat → Prop := fun q => (∃ e : va_E, f q = some e) ∨ sz ≤ q
def mw_R (f : mw_M) (ws : va_W) : Prop := ∀ (a : Nat) (e : va_E), f a = some e ↔ ∃ k : Nat, ws[k]? = some (a, e)
def mw_I (D : va_G) (cl : List vw_C) (A : Nat → Prop) (s : State) (H : Heap) (locs : List Loc) (f : mw_M) : Prop := ∃ ws : va_W, va_P D cl ws H ∧ va_D A ws ∧ va_S A s.heap H locs ∧ mw_R f ws
def mw_B (D : va_G) (cl : List vw_C) (A : Nat → Prop) (f : mw_M) (t : State) : Prop := ∃ ws : va_W, va_P D cl ws t.heap ∧ va_D A ws ∧ mw_R f ws
def mw_Pre (D : va_G) (cl : List vw_C) (tys : List (ClassId × FieldType)) (S : (Nat → Prop) → State → Prop) (f : mw_M) (sz : Nat) (U : State) : Prop := U.heap.size = sz ∧ mw_B D cl (fun _ => True) f U ∧ va_K D cl tys U ∧ S (mw_A f sz) U
theorem mw_R.set {f : mw_M} {ws : va_W} {A : Nat → Prop} {k a : Nat} {e0 : va_E} (e1 : va_E) (h : mw_R f ws) (hD : va_D A ws) (hk : ws[k]? = some (a, e0)) : mw_R (mw_set f a e1) (ws.set k (a, e1)) := by
  intro b e
  have hlt : k < ws.length := (List.getElem?_eq_some_iff.mp hk).1
  have hself : (ws.set k (a, e1))[k]? = some (a, e1) := by rw [List.getElem?_set_self hlt]
  by_cases hb : b = a
  · subst hb
    rw [mw_set_self]
    constructor
    · intro h1
      cases h1
      exact ⟨k, hself⟩
    · intro ⟨j, hj⟩
      by_cases hjk : j = k
      · subst hjk
        rw [hself] at hj
        cases hj
        rfl
      · rw [List.getElem?_set_ne (Ne.symm hjk)] at hj
        exact absurd (hD.1 j k _ _ hj hk rfl) hjk
  · rw [mw_set_ne _ _ hb, h b e]
    constructor
    · intro ⟨j, hj⟩
      have hjk : j ≠ k := fun q => by
        subst q
        rw [hk] at hj
        cases hj
        exact hb rfl
      exact ⟨j, by rw [List.getElem?_set_ne (Ne.symm hjk)]; exact hj⟩
    · intro ⟨j, hj⟩
      by_cases hjk : j = k
      · subst hjk
        rw [hself] at hj
        cases hj
        exact absurd rfl hb
      · rw [List.getElem?_set_ne (Ne.symm hjk)] at hj
        exact ⟨j, hj⟩
theorem mw_R.push {f : mw_M} {ws : va_W} {A : Nat → Prop} {a : Nat} {e1 : va_E} (h : mw_R f ws) (hD : va_D A (ws ++ [(a, e1)])) : mw_R (mw_set f a e1) (ws ++ [(a, e1)]) := by
  have hlast : (ws ++ [(a, e1)])[ws.length]? = some (a, e1) := by rw [List.getElem?_append_right (Nat.le_refl _), Nat.sub_self]; rfl
  have hold : ∀ (j : Nat) (q : Nat × va_E), ws[j]? = some q → (ws ++ [(a, e1)])[j]? = some q := fun j q hj => by
    rw [List.getElem?_append_left (List.getElem?_eq_some_iff.mp hj).1]; exact hj
  have hback : ∀ (j : Nat) (q : Nat × va_E), (ws ++ [(a, e1)])[j]? = some q → ws[j]? = some q ∨ q = (a, e1) := fun j q hj => by
    by_cases hl : j < ws.length
    · rw [List.getElem?_append_left hl] at hj
      exact Or.inl hj
    · rw [List.getElem?_append_right (by omega)] at hj
      have hz : j - ws.length < 1 := (List.getElem?_eq_some_iff.mp hj).1
      rw [show j - ws.length = 0 by omega] at hj
      cases hj
      exact Or.inr rfl
  intro b e
  by_cases hb : b = a
  · subst hb
    rw [mw_set_self]
    constructor
    · intro h1
      cases h1
      exact ⟨_, hlast⟩
    · intro ⟨j, hj⟩
      rcases hback j _ hj with h1 | h1
      · have := hD.1 j ws.length _ _ hj hlast rfl
        have := (List.getElem?_eq_some_iff.mp h1).1
        omega
      · cases h1
        rfl
  · rw [mw_set_ne _ _ hb, h b e]
    constructor
    · intro ⟨j, hj⟩
      exact ⟨j, hold j _ hj⟩
    · intro ⟨j, hj⟩
      rcases hback j _ hj with h1 | h1
      · exact ⟨j, h1⟩
      · cases h1
        exact absurd rfl hb
section MW
variable {p : Program} {l : Launch} {e : Env} {R : Room} {s : State} {m : MethodId} {args : Array Value} {below : List Frame} {meth : Method} {c : Code} {H : Heap} {locs : List Loc} {cells slots : Nat} {Q : State → Prop}
variable {cc : ByteArray} {nL : Nat} {own : String} {Ts : List Cond} {pc : Nat} {ls : Array Slot} {rest : List Value} {D : va_G} {cl : List vw_C} {tys : List (ClassId × FieldType)} {A : Nat → Prop} {f : mw_M} {a : Nat}
theorem mw_I.dom (hI : mw_I D cl A s H locs f) (hA : ∀ q, s.heap.size ≤ q → A q) : ∀ q, mw_A f H.size q → A q := by
  obtain ⟨ws, hP, hD, hS, hR⟩ := hI
  intro q h
  rcases h with ⟨e1, h⟩ | h
  · obtain ⟨k, hk⟩ := (hR q e1).mp h
    exact hD.2 k _ hk
  · exact hA q (Nat.le_trans hS.1 h)
theorem mw_I.sub (hI : mw_I D cl A s H locs f) : va_S A s.heap H locs := by
  obtain ⟨ws, hP, hD, hS, hR⟩ := hI
  exact hS
theorem mw_I.lt (hI : mw_I D cl A s H locs f) {e1 : va_E} (h : f a = some e1) : a < H.size := by
  obtain ⟨ws, hP, hD, hS, hR⟩ := hI
  obtain ⟨k, hk⟩ := (hR a e1).mp h
  exact (hP k _ hk).lt
theorem mw_get (B : mw_C p s m args meth c cc nL own Ts D cl tys) (hI : mw_I D cl A s H locs f) {C : String} {T : u_T} {N ci index : Nat} {fs : List Value} (ha : f a = some (.inr (ci, fs))) (hin : ∀ w ∈ u_ws C T N, w ∈ Ts) (hc : cl[ci]? = some (C, T, N)) (k : Nat) (hk : k < N) (hl : Cond.fieldLink own index (T k).1 (T k).2.1 (T k).2.2.1 ∈ Ts) {v : Value} (hv : fs[k]? = some v) (hdg : decode cc pc = .ok (.getfield index, 3))
    (kk : W p l e R s m args below meth c H locs cells slots Q (F0 m (pc + 3) ls (v :: rest))) : W p l e R s m args below meth c H locs cells slots Q (F0 m pc ls (.ref a :: rest)) := by
  obtain ⟨ws, hP, hD, hS, hR⟩ := hI
  obtain ⟨q0, he⟩ := (hR a _).mp ha
  exact va_get B.1 B.2.1 B.2.2.2.2.1 hin B.2.2.2.1 B.2.2.2.2.2.2 hP q0 he hc k hk (B.2.2.2.2.1 _ hl) (fun _ h9 => h9) hv hdg kk
theorem mw_put (B : mw_C p s m args meth c cc nL own Ts D cl tys) (hI : mw_I D cl A s H locs f) {C : String} {T : u_T} {N ci index : Nat} {fs : List Value} (ha : f a = some (.inr (ci, fs))) (hin : ∀ w ∈ u_ws C T N, w ∈ Ts) (ty0 : Nat → FieldType) (hty : ∀ k, k < N → parseFieldDescriptor (T k).2.2.1 = some (ty0 k)) (hnm : ∀ a, a < N → ∀ b, b < N → a ≠ b → (T a).2.1 ≠ (T b).2.1) (hc : cl[ci]? = some (C, T, N)) (k : Nat) (hk : k < N) (hl : Cond.fieldLink own index (T k).1 (T k).2.1 (T k).2.2.1 ∈ Ts) (hfin : (T k).2.2.2 = false) {v : Value} (hn : narrow (ty0 k) v = v) (hfit : fits (ty0 k) v = true) (hlen : k < fs.length) (hdg : decode cc pc = .ok (.putfield index, 3))
    (kk : ∀ (H1 : Heap) (locs1 : List Loc), mw_I D cl A s H1 locs1 (mw_set f a (.inr (ci, fs.set k v))) → W p l e R s m args below meth c H1 locs1 cells slots Q (F0 m (pc + 3) ls rest)) : W p l e R s m args below meth c H locs cells slots Q (F0 m pc ls (v :: .ref a :: rest)) := by
  obtain ⟨ws, hP, hD, hS, hR⟩ := hI
  obtain ⟨q0, he⟩ := (hR a _).mp ha
  exact va_put B.1 B.2.1 B.2.2.2.2.1 hin ty0 hty hnm B.2.2.2.1 B.2.2.2.2.2.2 hP hD hS q0 he hc k hk (B.2.2.2.2.1 _ hl) (fun _ h9 => h9) hfin (hty k hk) hn hfit hlen hdg (fun H1 locs1 hP1 hD1 hS1 => kk H1 locs1 ⟨_, hP1, hD1, hS1, hR.set _ hD he⟩)
theorem mw_putF (B : mw_C p s m args meth c cc nL own Ts D cl tys) (hI : mw_I D cl A s H locs f) {C : String} {T : u_T} {N ci index : Nat} {fs : List Value} (ha : f a = some (.inr (ci, fs))) (hin : ∀ w ∈ u_ws C T N, w ∈ Ts) (ty0 : Nat → FieldType) (hty : ∀ k, k < N → parseFieldDescriptor (T k).2.2.1 = some (ty0 k)) (hnm : ∀ a, a < N → ∀ b, b < N → a ≠ b → (T a).2.1 ≠ (T b).2.1) (hc : cl[ci]? = some (C, T, N)) (k : Nat) (hk : k < N) (hl : Cond.fieldLink own index (T k).1 (T k).2.1 (T k).2.2.1 ∈ Ts) (hfin : (T k).2.2.2 = true) (hin2 : meth.name = "<init>") (hdecl : (T k).1 = own) {v : Value} (hn : narrow (ty0 k) v = v) (hfit : fits (ty0 k) v = true) (hlen : k < fs.length) (hdg : decode cc pc = .ok (.putfield index, 3))
    (kk : ∀ (H1 : Heap) (locs1 : List Loc), mw_I D cl A s H1 locs1 (mw_set f a (.inr (ci, fs.set k v))) → W p l e R s m args below meth c H1 locs1 cells slots Q (F0 m (pc + 3) ls rest)) : W p l e R s m args below meth c H locs cells slots Q (F0 m pc ls (v :: .ref a :: rest)) := by
  obtain ⟨ws, hP, hD, hS, hR⟩ := hI
  obtain ⟨q0, he⟩ := (hR a _).mp ha
  exact va_putF B.1 B.2.1 B.2.2.2.2.1 hin ty0 hty hnm B.2.2.2.1 B.2.2.2.2.2.2 hP hD hS q0 he hc k hk (B.2.2.2.2.1 _ hl) (fun _ h9 => h9) hfin hin2 hdecl (hty k hk) hn hfit hlen hdg (fun H1 locs1 hP1 hD1 hS1 => kk H1 locs1 ⟨_, hP1, hD1, hS1, hR.set _ hD he⟩)
/-- an array of ints that holds the integers g -/
abbrev mw_ar (cI : ClassId) (n : Nat) (g : Nat → Int) : va_E := .inl (cI, n, .inl (fun j => iI (g j)))
def upI (g : Nat → Int) (k : Nat) (x : Int) : Nat → Int := fun j => if j = k then x else g j
theorem upI_self (g : Nat → Int) (k : Nat) (x : Int) : upI g k x k = x := by simp [upI]
theorem upI_ne (g : Nat → Int) {k j : Nat} (x : Int) (h : j ≠ k) : upI g k x j = g j := by simp [upI, h]
theorem upd_upI (g : Nat → Int) (k : Nat) (x : Int) : upd (fun j => iI (g j)) k (iI x) = fun j => iI (upI g k x j) := by
  funext j
  by_cases h : j = k
  · simp [upd, upI, h]
  · simp [upd, upI, h]
theorem mw_iald (B : mw_C p s m args meth c cc nL own Ts D cl tys) (hI : mw_I D cl A s H locs f) (t0 : Nat) {cI : ClassId} {n : Nat} {g : Nat → Int} (ha : f a = some (mw_ar cI n g)) (ht : tys[t0]? = some (cI, .int)) {x : Int} (i : Nat) (hi : x = (i : Int)) (hin : i < n) (hn : n ≤ 2147483647) (hdg : decode cc pc = .ok (.iaload, 1))
    (kk : W p l e R s m args below meth c H locs cells slots Q (F0 m (pc + 1) ls (.int (iI (g i)) :: rest))) : W p l e R s m args below meth c H locs cells slots Q (F0 m pc ls (.int (iI x) :: .ref a :: rest)) := by
  subst hi
  obtain ⟨ws, hP, hD, hS, hR⟩ := hI
  obtain ⟨q0, he⟩ := (hR a _).mp ha
  refine va_iald B.1 B.2.1 B.2.2.2.2.2.2 hP q0 t0 he ht (iI_in hin hn) hdg ?_
  rw [iI_clamp (by omega)]
  exact kk
theorem mw_iast (B : mw_C p s m args meth c cc nL own Ts D cl tys) (hI : mw_I D cl A s H locs f) (t0 : Nat) {cI : ClassId} {n : Nat} {g : Nat → Int} (ha : f a = some (mw_ar cI n g)) (ht : tys[t0]? = some (cI, .int)) {x v : Int} (i : Nat) (hi : x = (i : Int)) (hin : i < n) (hn : n ≤ 2147483647) (hdg : decode cc pc = .ok (.iastore, 1))
    (kk : ∀ (H1 : Heap) (locs1 : List Loc), mw_I D cl A s H1 locs1 (mw_set f a (mw_ar cI n (upI g i v))) → W p l e R s m args below meth c H1 locs1 cells slots Q (F0 m (pc + 1) ls rest)) : W p l e R s m args below meth c H locs cells slots Q (F0 m pc ls (.int (iI v) :: .int (iI x) :: .ref a :: rest)) := by
  subst hi
  obtain ⟨ws, hP, hD, hS, hR⟩ := hI
  obtain ⟨q0, he⟩ := (hR a _).mp ha
  refine va_iast B.1 B.2.1 B.2.2.2.2.2.2 hP hD hS q0 t0 he ht (iI_in hin hn) hdg (fun H1 locs1 hP1 hD1 hS1 => ?_)
  rw [iI_clamp (by omega), upd_upI] at hP1 hD1
  exact kk H1 locs1 ⟨_, hP1, hD1, hS1, hR.set _ hD he⟩
theorem mw_alen (B : mw_C p s m args meth c cc nL own Ts D cl tys) (hI : mw_I D cl A s H locs f) (t0 : Nat) {cI : ClassId} {x : vp_A} (ha : f a = some (.inl (cI, x))) {ty : FieldType} (ht : tys[t0]? = some (cI, ty)) (hdg : decode cc pc = .ok (.arraylength, 1))
    (kk : W p l e R s m args below meth c H locs cells slots Q (F0 m (pc + 1) ls (.int (iI (x.1 : Int)) :: rest))) : W p l e R s m args below meth c H locs cells slots Q (F0 m pc ls (.ref a :: rest)) := by
  obtain ⟨ws, hP, hD, hS, hR⟩ := hI
  obtain ⟨q0, he⟩ := (hR a _).mp ha
  exact va_alen B.1 B.2.1 B.2.2.2.2.2.2 hP q0 t0 he ht (Int32.ofInt_eq_ofNat.symm) hdg kk
/-- an array of references -/
abbrev mw_qr (cA : ClassId) (n : Nat) (g : Nat → Option Nat) : va_E := .inl (cA, n, .inr (.inr (.inr (.inr g))))
theorem mw_aald (B : mw_C p s m args meth c cc nL own Ts D cl tys) (hI : mw_I D cl A s H locs f) (t0 : Nat) {cA : ClassId} {C : String} {n : Nat} {g : Nat → Option Nat} (ha : f a = some (mw_qr cA n g)) (ht : tys[t0]? = some (cA, .object C)) {x : Int} (i : Nat) (hi : x = (i : Int)) (hin : i < n) (hn : n ≤ 2147483647) {y : Nat} (hy : g i = some y) (hdg : decode cc pc = .ok (.aaload, 1))
    (kk : W p l e R s m args below meth c H locs cells slots Q (F0 m (pc + 1) ls (.ref y :: rest))) : W p l e R s m args below meth c H locs cells slots Q (F0 m pc ls (.int (iI x) :: .ref a :: rest)) := by
  subst hi
  obtain ⟨ws, hP, hD, hS, hR⟩ := hI
  obtain ⟨q0, he⟩ := (hR a _).mp ha
  refine va_aldq B.1 B.2.1 B.2.2.2.2.2.2 hP q0 t0 he ht (iI_in hin hn) hdg ?_
  rw [iI_clamp (by omega), hy]
  exact kk
theorem mw_aast (B : mw_C p s m args meth c cc nL own Ts D cl tys) (hI : mw_I D cl A s H locs f) (t0 ci : Nat) {cA : ClassId} {r : vw_C} {n v : Nat} {vs : List Value} {g : Nat → Option Nat} (ha : f a = some (mw_qr cA n g)) (ht : tys[t0]? = some (cA, .object r.1)) (hv : f v = some (.inr (ci, vs))) (hc : cl[ci]? = some r) {x : Int} (i : Nat) (hi : x = (i : Int)) (hin : i < n) (hn : n ≤ 2147483647) (hdg : decode cc pc = .ok (.aastore, 1))
    (kk : ∀ (H1 : Heap) (locs1 : List Loc), mw_I D cl A s H1 locs1 (mw_set f a (mw_qr cA n (va_up g i (some v)))) → W p l e R s m args below meth c H1 locs1 cells slots Q (F0 m (pc + 1) ls rest)) : W p l e R s m args below meth c H locs cells slots Q (F0 m pc ls (.ref v :: .int (iI x) :: .ref a :: rest)) := by
  subst hi
  obtain ⟨ws, hP, hD, hS, hR⟩ := hI
  obtain ⟨q0, he⟩ := (hR a _).mp ha
  obtain ⟨q1, hq1⟩ := (hR v _).mp hv
  refine va_astq B.1 B.2.1 B.2.2.2.2.2.2 hP hD hS q0 t0 q1 ci he ht hq1 hc (iI_in hin hn) hdg (fun H1 locs1 hP1 hD1 hS1 => ?_)
  rw [iI_clamp (by omega)] at hP1 hD1
  exact kk H1 locs1 ⟨_, hP1, hD1, hS1, hR.set _ hD he⟩
/-- a call's run, and the world behind it -/
theorem mw_calli {rest0 st0 : List Value} {av : Array Value} {mc ms : Nat} {post : Int32 → mw_M → Prop} (hI : mw_I D cl A s H locs f) (hA : ∀ q, s.heap.size ≤ q → A q) (hr : va_Run p l e R s m args below meth c H locs cells slots mc ms (F0 m pc ls st0) rest0 (va_Qi post (mw_B D cl (mw_A f H.size)) (mw_A f H.size) av) (mw_A f H.size))
    (kk : ∀ (r : Int32) (f1 : mw_M) (H1 : Heap) (locs1 : List Loc), post r f1 → mw_I D cl A s H1 locs1 f1 → W p l e R s m args below meth c H1 locs1 (cells + mc) (slots + ms) Q (F0 m (pc + 3) ls (.int r :: rest0))) : W p l e R s m args below meth c H locs cells slots Q (F0 m pc ls st0) := by
  have hF := hI.dom hA
  refine va_calli hr hI.sub (fun q _ h => hF q h) hF (fun r u t H1 locs1 ht hvm hw hB hz hk hS1 => ?_)
  obtain ⟨ws1, hP1, hD1, hR1⟩ := hB
  rw [ht] at hP1
  exact kk r u H1 locs1 hw ⟨ws1, hP1, hD1.weaken (fun _ _ _ h => hF _ h), hS1, hR1⟩
theorem mw_calll {rest0 st0 : List Value} {av : Array Value} {mc ms : Nat} {post : Int64 → mw_M → Prop} (hI : mw_I D cl A s H locs f) (hA : ∀ q, s.heap.size ≤ q → A q) (hr : va_Run p l e R s m args below meth c H locs cells slots mc ms (F0 m pc ls st0) rest0 (va_Ql post (mw_B D cl (mw_A f H.size)) (mw_A f H.size) av) (mw_A f H.size))
    (kk : ∀ (r : Int64) (f1 : mw_M) (H1 : Heap) (locs1 : List Loc), post r f1 → mw_I D cl A s H1 locs1 f1 → W p l e R s m args below meth c H1 locs1 (cells + mc) (slots + ms) Q (F0 m (pc + 3) ls (.long r :: rest0))) : W p l e R s m args below meth c H locs cells slots Q (F0 m pc ls st0) := by
  have hF := hI.dom hA
  refine va_calll hr hI.sub (fun q _ h => hF q h) hF (fun r u t H1 locs1 ht hvm hw hB hz hk hS1 => ?_)
  obtain ⟨ws1, hP1, hD1, hR1⟩ := hB
  rw [ht] at hP1
  exact kk r u H1 locs1 hw ⟨ws1, hP1, hD1.weaken (fun _ _ _ h => hF _ h), hS1, hR1⟩
theorem mw_callv {rest0 st0 : List Value} {av : Array Value} {mc ms : Nat} {post : mw_M → Prop} (hI : mw_I D cl A s H locs f) (hA : ∀ q, s.heap.size ≤ q → A q) (hr : va_Run p l e R s m args below meth c H locs cells slots mc ms (F0 m pc ls st0) rest0 (va_Qv post (mw_B D cl (mw_A f H.size)) (mw_A f H.size) av) (mw_A f H.size))
    (kk : ∀ (f1 : mw_M) (H1 : Heap) (locs1 : List Loc), post f1 → mw_I D cl A s H1 locs1 f1 → W p l e R s m args below meth c H1 locs1 (cells + mc) (slots + ms) Q (F0 m (pc + 3) ls rest0)) : W p l e R s m args below meth c H locs cells slots Q (F0 m pc ls st0) := by
  have hF := hI.dom hA
  refine va_callv hr hI.sub (fun q _ h => hF q h) hF (fun u t H1 locs1 ht hvm hw hB hz hk hS1 => ?_)
  obtain ⟨ws1, hP1, hD1, hR1⟩ := hB
  rw [ht] at hP1
  exact kk u H1 locs1 hw ⟨ws1, hP1, hD1.weaken (fun _ _ _ h => hF _ h), hS1, hR1⟩
/-- an answer that is a cell: the state is the map and the address -/
theorem mw_callr {rest0 st0 : List Value} {av : Array Value} {mc ms : Nat} {post : Nat × mw_M → Prop} (hI : mw_I D cl A s H locs f) (hA : ∀ q, s.heap.size ≤ q → A q) (hr : va_Run p l e R s m args below meth c H locs cells slots mc ms (F0 m pc ls st0) rest0 (va_Qr post (fun u a t => a = u.1 ∧ mw_B D cl (mw_A f H.size) u.2 t) (mw_A f H.size) av) (mw_A f H.size))
    (kk : ∀ (r : Nat) (f1 : mw_M) (H1 : Heap) (locs1 : List Loc), post (r, f1) → mw_I D cl A s H1 locs1 f1 → W p l e R s m args below meth c H1 locs1 (cells + mc) (slots + ms) Q (F0 m (pc + 3) ls (.ref r :: rest0))) : W p l e R s m args below meth c H locs cells slots Q (F0 m pc ls st0) := by
  have hF := hI.dom hA
  refine va_callr hr hI.sub (fun q _ h => hF q h) hF (fun u a1 t H1 locs1 ht hvm hw hB hz hk hS1 => ?_)
  obtain ⟨rfl, ws1, hP1, hD1, hR1⟩ := hB
  rw [ht] at hP1
  exact kk u.1 u.2 H1 locs1 hw ⟨ws1, hP1, hD1.weaken (fun _ _ _ h => hF _ h), hS1, hR1⟩
/-- what a callee may take as given -/
theorem mw_pre {S : (Nat → Prop) → State → Prop} {av : List Value} (B : mw_C p s m args meth c cc nL own Ts D cl tys) (hI : mw_I D cl A s H locs f) (hSt : ∀ U : State, U.heap = H → s.WarmedH U.vm → S (mw_A f H.size) U) : ∀ U : State, U.heap = H → s.WarmedH U.vm → va_Pc av (mw_Pre D cl tys S f H.size) av.toArray U := by
  obtain ⟨ws, hP, hD, hS, hR⟩ := hI
  intro U hU hW
  exact ⟨rfl, by rw [hU], ⟨ws, by rw [hU]; exact hP, hD.weaken (fun _ _ _ _ => trivial), hR⟩, va_K.moved hW.alike B.2.2.2.2.2.2, hSt U hU hW⟩
theorem mw_blind {S : (Nat → Prop) → State → Prop} {av : List Value} {sz : Nat} (hS : ∀ (A : Nat → Prop) (u U : State), u.heap = U.heap → u.vm.Alike U.vm → u.vm = U.vm → S A u → S A U) : FrameBlind (va_Pc av (mw_Pre D cl tys S f sz)) := by
  intro a U g mk q
  obtain ⟨q0, q1, q2, q3, q4⟩ := q
  exact ⟨q0, q1, q2, va_K.moved (u := U) (U := U.calling g mk a) (Vm.Alike.refl U.vm) q3, hS _ U (U.calling g mk a) rfl (Vm.Alike.refl U.vm) rfl q4⟩
theorem mw_recv (B : mw_C p s m args meth c cc nL own Ts D cl tys) (hI : mw_I D cl A s H locs f) {q : vw_C} {ci : Nat} {fs : List Value} (ha : f a = some (.inr (ci, fs))) (hc : cl[ci]? = some q) : ∃ cell : Cell, H[a]? = some cell ∧ cell.vm.isStatics = false ∧ s.vm.findClass q.1 = some cell.cls := by
  obtain ⟨ws, hP, hD, hS, hR⟩ := hI
  obtain ⟨q0, he⟩ := (hR a _).mp ha
  exact va_recv B.2.2.2.2.2.2 hP hc he
end MW
