/-! THE LIBRARY'S MEMBERS, with integers -/
section LIB
variable {p : Program} {l : Launch} {e : Env} {R : Room} {s : State} {m : MethodId} {args : Array Value} {below : List Frame} {meth : Method} {c : Code} {H : Heap} {locs : List Loc} {cells slots : Nat} {Q : State → Prop}
variable {cc : ByteArray} {nL : Nat} {own : String} {Ts : List Cond} {pc : Nat} {ls : Array Slot} {rest : List Value} {D : va_G} {cl : List vw_C} {tys : List (ClassId × FieldType)} {A : Nat → Prop} {f : mw_M} {a : Nat} {index : Nat}
theorem mv_mmax {x y : Int} (B : mw_C p s m args meth c cc nL own Ts D cl tys) (hls : ls.size = nL) (h1 : Cond.methodLink own index Lib.Math.max.name ∈ Ts) (h2 : Cond.static Lib.Math.max.name ∈ Ts) (h3 : Cond.initialized "java/lang/Math" ∈ Ts) (h4 : Cond.code Lib.Math.max.name Lib.Math.max.code 2 (some .int) ∈ Ts) (hfr : 1 ≤ R.frames) (hlo : (rest.map fun v => v.category).sum + 13 ≤ R.locals) (hc : cells ≤ R.cells) (hs : slots ≤ R.slots) (h : (-2147483648 ≤ x ∧ x ≤ 2147483647) ∧ (-2147483648 ≤ y ∧ y ≤ 2147483647)) (hdg : decode cc pc = .ok (.invokestatic index, 3))
    (kk : W p l e R s m args below meth c H locs cells slots Q (F0 m (pc + 3) ls (.int (iI (max x y)) :: rest))) : W p l e R s m args below meth c H locs cells slots Q (F0 m pc ls (.int (iI y) :: .int (iI x) :: rest)) := by
  refine va_mmax B.1 B.2.1 (by rw [B.2.2.1, hls]) B.2.2.2.1 (B.2.2.2.2.1 _ h1) (B.2.2.2.2.1 _ h2) (B.2.2.2.2.1 _ h3) (B.2.2.2.2.1 _ h4) hfr hlo hc hs hdg ?_
  rw [show (if iI x < iI y then iI y else iI x) = iI (max x y) by
    by_cases q : x < y
    · rw [if_pos ((iI_lt h).mpr q), show max x y = y by omega]
    · rw [if_neg (fun q2 => q ((iI_lt h).mp q2)), show max x y = x by omega]]
  exact kk
theorem mv_mmin {x y : Int} (B : mw_C p s m args meth c cc nL own Ts D cl tys) (hls : ls.size = nL) (h1 : Cond.methodLink own index Lib.Math.min.name ∈ Ts) (h2 : Cond.static Lib.Math.min.name ∈ Ts) (h3 : Cond.initialized "java/lang/Math" ∈ Ts) (h4 : Cond.code Lib.Math.min.name Lib.Math.min.code 2 (some .int) ∈ Ts) (hfr : 1 ≤ R.frames) (hlo : (rest.map fun v => v.category).sum + 13 ≤ R.locals) (hc : cells ≤ R.cells) (hs : slots ≤ R.slots) (h : (-2147483648 ≤ x ∧ x ≤ 2147483647) ∧ (-2147483648 ≤ y ∧ y ≤ 2147483647)) (hdg : decode cc pc = .ok (.invokestatic index, 3))
    (kk : W p l e R s m args below meth c H locs cells slots Q (F0 m (pc + 3) ls (.int (iI (min x y)) :: rest))) : W p l e R s m args below meth c H locs cells slots Q (F0 m pc ls (.int (iI y) :: .int (iI x) :: rest)) := by
  refine va_mmin B.1 B.2.1 (by rw [B.2.2.1, hls]) B.2.2.2.1 (B.2.2.2.2.1 _ h1) (B.2.2.2.2.1 _ h2) (B.2.2.2.2.1 _ h3) (B.2.2.2.2.1 _ h4) hfr hlo hc hs hdg ?_
  have e1 : (if iI y < iI x then iI y else iI x) = iI (min x y) := by
    by_cases q : y < x
    · rw [if_pos ((iI_lt ⟨h.2, h.1⟩).mpr q), show min x y = y by omega]
    · rw [if_neg (fun q2 => q ((iI_lt ⟨h.2, h.1⟩).mp q2)), show min x y = x by omega]
  rw [e1]
  exact kk
theorem mv_labs {x : Int} (B : mw_C p s m args meth c cc nL own Ts D cl tys) (hls : ls.size = nL) (h1 : Cond.methodLink own index Lib.MathLoose.abs_long.x ∈ Ts) (h2 : Cond.static Lib.MathLoose.abs_long.x ∈ Ts) (h3 : Cond.initialized "java/lang/Math" ∈ Ts) (h4 : Cond.code Lib.MathLoose.abs_long.x Lib.MathLoose.abs_long.code 2 (some .long) ∈ Ts) (hfr : 1 ≤ R.frames) (hlo : (rest.map fun v => v.category).sum + 13 ≤ R.locals) (hc : cells ≤ R.cells) (hs : slots ≤ R.slots) (h : -9223372036854775807 ≤ x ∧ x ≤ 9223372036854775807) (hdg : decode cc pc = .ok (.invokestatic index, 3))
    (kk : W p l e R s m args below meth c H locs cells slots Q (F0 m (pc + 3) ls (.long (lI (x.natAbs : Int)) :: rest))) : W p l e R s m args below meth c H locs cells slots Q (F0 m pc ls (.long (lI x) :: rest)) := by
  refine va_mabs_long B.1 B.2.1 (by rw [B.2.2.1, hls]) B.2.2.2.1 (B.2.2.2.2.1 _ h1) (B.2.2.2.2.1 _ h2) (B.2.2.2.2.1 _ h3) (B.2.2.2.2.1 _ h4) hfr hlo hc hs hdg ?_
  have hz : (0 : Int64) < lI x ↔ 0 < x := lI_lt (a := 0) ⟨by decide, by omega⟩
  have e1 : (if 0 < lI x then lI x else -lI x) = lI (x.natAbs : Int) := by
    by_cases q : 0 < x
    · rw [if_pos (hz.mpr q)]; congr 1; omega
    · rw [if_neg (fun q2 => q (hz.mp q2)), lI_neg]; congr 1; omega
  rw [e1]
  exact kk
/-- arraycopy from the beginning of one row of ints to the beginning of another, or of the same -/
def cpI (g g' : Nat → Int) (n : Nat) : Nat → Int := fun j => if j < n then g j else g' j
theorem mw_copy {cI : ClassId} {n0 n1 k a0 : Nat} {g0 g1 : Nat → Int} (B : mw_C p s m args meth c cc nL own Ts D cl tys) (hI : mw_I D cl A s H locs f) (hls : ls.size = nL) (h1 : Cond.methodLink own index arraycopyName ∈ Ts) (h2 : Cond.native arraycopyName ∈ Ts) (h3 : Cond.static arraycopyName ∈ Ts) (h4 : Cond.initialized "java/lang/System" ∈ Ts) (t0 : Nat) (ht : tys[t0]? = some (cI, .int)) (ha0 : f a0 = some (mw_ar cI n0 g0)) (ha : f a = some (mw_ar cI n1 g1)) (hk0 : k ≤ n0) (hk1 : k ≤ n1) (hn : n0 ≤ 2147483647) (hfr : 1 ≤ R.frames) (hlo : (rest.map fun v => v.category).sum + (nativeFrameWords "java/lang/System" "arraycopy" 5 + 11) ≤ R.locals) (hdg : decode cc pc = .ok (.invokestatic index, 3))
    (kk : ∀ (H1 : Heap) (locs1 : List Loc), mw_I D cl A s H1 locs1 (mw_set f a (mw_ar cI n1 (cpI g0 g1 k))) → W p l e R s m args below meth c H1 locs1 cells slots Q (F0 m (pc + 3) ls rest)) : W p l e R s m args below meth c H locs cells slots Q (F0 m pc ls (.int (iI (k : Int)) :: .int (iI 0) :: .ref a :: .int (iI 0) :: .ref a0 :: rest)) := by
  obtain ⟨ws, hP, hD, hS, hR⟩ := hI
  obtain ⟨q0, he0⟩ := (hR a0 _).mp ha0
  obtain ⟨q1, he⟩ := (hR a _).mp ha
  have z0 : (iI 0).toNatClampNeg = 0 := rfl
  have zk : (iI (k : Int)).toNatClampNeg = k := iI_clamp (by omega)
  refine va_copyi B.1 B.2.1 (by rw [B.2.2.1, hls]) B.2.2.2.1 (B.2.2.2.2.1 _ h1) (B.2.2.2.2.1 _ h2) (B.2.2.2.2.1 _ h3) (B.2.2.2.2.1 _ h4) B.2.2.2.2.2.2 hP hD hS q0 q1 t0 t0 he0 he ht ht rfl (by decide) (by decide) (iI_pos (by omega)) (by rw [z0, zk]; omega) (by rw [z0, zk]; omega) (fun _ _ => rfl) hfr hlo hdg (fun H1 locs1 hP1 hD1 hS1 => ?_)
  rw [z0, zk] at hP1 hD1
  have e1 : va_cpy (fun j => iI (g0 j)) (fun j => iI (g1 j)) 0 0 k = fun j => iI (cpI g0 g1 k j) := by
    funext j
    by_cases q : j < k
    · simp [va_cpy, cpI, q]
    · simp [va_cpy, cpI, q]
  rw [e1] at hP1 hD1
  exact kk H1 locs1 ⟨_, hP1, hD1, hS1, hR.set _ hD he⟩
end LIB
section TAB
variable {p : Program} {l : Launch} {e : Env} {R : Room} {s : State} {m : MethodId} {args : Array Value} {below : List Frame} {meth : Method} {c : Code} {H : Heap} {locs : List Loc} {cells slots : Nat} {Q : State → Prop}
variable {cc : ByteArray} {nL : Nat} {own : String} {Ts : List Cond} {pc : Nat} {ls : Array Slot} {rest : List Value} {D : va_G} {cl : List vw_C} {tys : List (ClassId × FieldType)} {A : Nat → Prop} {f : mw_M} {a : Nat} {index : Nat}
theorem mv_gets {C n d host : String} {v : Value} (B : mw_C p s m args meth c cc nL own Ts D cl tys) (hI : mw_I D cl A s H locs f) (hZ : va_Z C n d v A s s.heap) (hN : va_Nw (.fieldLinkNest own index C n d host) s) (hdg : decode cc pc = .ok (.getstatic index, 3)) (kk : W p l e R s m args below meth c H locs cells slots Q (F0 m (pc + 3) ls (v :: rest))) : W p l e R s m args below meth c H locs cells slots Q (F0 m pc ls rest) :=
  va_getsN B.1 B.2.1 hZ hI.sub B.2.2.2.1 (va_Nw.use rfl hN) (fun _ h => h) hdg kk
theorem mv_tab {t N : Nat} {g : Nat → Int} {x : Int} (B : mw_C p s m args meth c cc nL own Ts D cl tys) (hI : mw_I D cl A s H locs f) (hT : va_T .int t N (fun j => .int (iI (g j))) A s s.heap) (i : Nat) (hi : x = (i : Int)) (hin : i < N) (hN : N ≤ 2147483647) (hdg : decode cc pc = .ok (.iaload, 1)) (kk : W p l e R s m args below meth c H locs cells slots Q (F0 m (pc + 1) ls (.int (iI (g i)) :: rest))) : W p l e R s m args below meth c H locs cells slots Q (F0 m pc ls (.int (iI x) :: .ref t :: rest)) := by
  subst hi
  exact va_ti B.1 B.2.1 hT hI.sub (iI_in hin hN) (by rw [iI_clamp (by omega)]) hdg kk
theorem mv_tlen {t N : Nat} {g : Nat → Value} (B : mw_C p s m args meth c cc nL own Ts D cl tys) (hI : mw_I D cl A s H locs f) (hT : va_T .int t N g A s s.heap) (hdg : decode cc pc = .ok (.arraylength, 1)) (kk : W p l e R s m args below meth c H locs cells slots Q (F0 m (pc + 1) ls (.int (iI (N : Int)) :: rest))) : W p l e R s m args below meth c H locs cells slots Q (F0 m pc ls (.ref t :: rest)) :=
  va_tlen B.1 B.2.1 hT hI.sub (Int32.ofInt_eq_ofNat.symm) hdg kk
end TAB
