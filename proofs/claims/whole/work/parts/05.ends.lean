/-! A METHOD'S START AND ITS END, over the map -/
section MS
variable {p : Program} {l : Launch} {e : Env} {R : Room} {s : State} {m : MethodId} {args : Array Value} {below : List Frame} {meth : Method} {c : Code} {H : Heap} {locs : List Loc} {cells slots : Nat} {Q : State → Prop}
variable {cc : ByteArray} {nL : Nat} {own : String} {Ts : List Cond} {pc : Nat} {ls : Array Slot} {rest : List Value} {D : va_G} {cl : List vw_C} {tys : List (ClassId × FieldType)} {A : Nat → Prop} {f : mw_M} {a : Nat}
theorem mw_I.B (hI : mw_I D cl A s H locs f) {t : State} (ht : t.heap = H) : mw_B D cl A f t := by
  obtain ⟨ws, hP, hD, hS, hR⟩ := hI
  exact ⟨ws, by rw [ht]; exact hP, hD, hR⟩
abbrev mw_Mi (l : Launch) (y : MethodName) (ws : List Cond) (rm : Room) (D : va_G) (cl : List vw_C) (tys : List (ClassId × FieldType)) (S : (Nat → Prop) → State → Prop) (av : List Value) (f : mw_M) (sz : Nat) (post : Int32 → mw_M → Prop) (mc ms : Nat) : Prop := Met l y ws rm (va_Pc av (mw_Pre D cl tys S f sz)) (va_Qi post (mw_B D cl (mw_A f sz)) (mw_A f sz)) mc ms (mw_A f sz)
theorem mw_ofi {y : MethodName} {ws Ts : List Cond} {rm : Room} {S : (Nat → Prop) → State → Prop} {av : List Value} {sz mc ms : Nat} {post : Int32 → mw_M → Prop} {maxL : Nat} {ret : Option FieldType} (hy : plainName y.cls = true) (hw : ws = Cond.code y cc maxL ret :: Ts) (hlen : (lg_sl av).length ≤ maxL)
    (body : ∀ (p : Program) (e : Env) (s : State) (m : MethodId) (below : List Frame) (meth : Method) (c : Code) (A : Nat → Prop) (ls : Array Slot) (Q : State → Prop), Q = MQ below (va_Qi post (mw_B D cl A) A) av.toArray s mc ms A → mw_C p s m av.toArray meth c cc maxL y.cls Ts D cl tys → meth.sig.returnType = ret → meth.name = y.name → (∀ q, s.heap.size ≤ q → A q) → mw_I D cl A s s.heap [] f → S A s → lv_has ls maxL (lv_args 0 av) →
      W p l e rm s m av.toArray below meth c s.heap [] 0 0 Q (F0 m 0 ls [])) : mw_Mi l y ws rm D cl tys S av f sz post mc ms := by
  refine Met.ofW (cc := cc) (maxL := maxL) (ret := ret) hy hw ?_
  intro p e s m args below meth c s₁ B hml hv
  obtain ⟨rfl, hsz, ⟨ws1, hP, hD0, hR⟩, hK, hS⟩ := hv
  have hts := atoms_spec (ws := ws) B.pre
  subst hsz
  have hDA : va_D (mw_A f s.heap.size) ws1 := ⟨hD0.1, fun k q hk => Or.inl ⟨q.2, (hR q.1 q.2).mpr ⟨k, hk⟩⟩⟩
  have hl := lv_entry av (n := maxL) hlen
  rw [lg_entry_eq]
  exact body p e s m below meth c (mw_A f s.heap.size) _ _ rfl ⟨B.exec, B.bytes, hml, findClass_of_methodNamed B.named, fun w h => hts w (by rw [hw]; exact List.mem_cons_of_mem _ h), B.notSynchronized, hK⟩ B.returns (name_of_methodNamed B.named B.method).1 (fun q h => Or.inr h) ⟨ws1, hP, hDA, va_S.rf, hR⟩ hS hl
abbrev mw_Ml (l : Launch) (y : MethodName) (ws : List Cond) (rm : Room) (D : va_G) (cl : List vw_C) (tys : List (ClassId × FieldType)) (S : (Nat → Prop) → State → Prop) (av : List Value) (f : mw_M) (sz : Nat) (post : Int64 → mw_M → Prop) (mc ms : Nat) : Prop := Met l y ws rm (va_Pc av (mw_Pre D cl tys S f sz)) (va_Ql post (mw_B D cl (mw_A f sz)) (mw_A f sz)) mc ms (mw_A f sz)
theorem mw_ofl {y : MethodName} {ws Ts : List Cond} {rm : Room} {S : (Nat → Prop) → State → Prop} {av : List Value} {sz mc ms : Nat} {post : Int64 → mw_M → Prop} {maxL : Nat} {ret : Option FieldType} (hy : plainName y.cls = true) (hw : ws = Cond.code y cc maxL ret :: Ts) (hlen : (lg_sl av).length ≤ maxL)
    (body : ∀ (p : Program) (e : Env) (s : State) (m : MethodId) (below : List Frame) (meth : Method) (c : Code) (A : Nat → Prop) (ls : Array Slot) (Q : State → Prop), Q = MQ below (va_Ql post (mw_B D cl A) A) av.toArray s mc ms A → mw_C p s m av.toArray meth c cc maxL y.cls Ts D cl tys → meth.sig.returnType = ret → meth.name = y.name → (∀ q, s.heap.size ≤ q → A q) → mw_I D cl A s s.heap [] f → S A s → lv_has ls maxL (lv_args 0 av) →
      W p l e rm s m av.toArray below meth c s.heap [] 0 0 Q (F0 m 0 ls [])) : mw_Ml l y ws rm D cl tys S av f sz post mc ms := by
  refine Met.ofW (cc := cc) (maxL := maxL) (ret := ret) hy hw ?_
  intro p e s m args below meth c s₁ B hml hv
  obtain ⟨rfl, hsz, ⟨ws1, hP, hD0, hR⟩, hK, hS⟩ := hv
  have hts := atoms_spec (ws := ws) B.pre
  subst hsz
  have hDA : va_D (mw_A f s.heap.size) ws1 := ⟨hD0.1, fun k q hk => Or.inl ⟨q.2, (hR q.1 q.2).mpr ⟨k, hk⟩⟩⟩
  have hl := lv_entry av (n := maxL) hlen
  rw [lg_entry_eq]
  exact body p e s m below meth c (mw_A f s.heap.size) _ _ rfl ⟨B.exec, B.bytes, hml, findClass_of_methodNamed B.named, fun w h => hts w (by rw [hw]; exact List.mem_cons_of_mem _ h), B.notSynchronized, hK⟩ B.returns (name_of_methodNamed B.named B.method).1 (fun q h => Or.inr h) ⟨ws1, hP, hDA, va_S.rf, hR⟩ hS hl
abbrev mw_Mv (l : Launch) (y : MethodName) (ws : List Cond) (rm : Room) (D : va_G) (cl : List vw_C) (tys : List (ClassId × FieldType)) (S : (Nat → Prop) → State → Prop) (av : List Value) (f : mw_M) (sz : Nat) (post : mw_M → Prop) (mc ms : Nat) : Prop := Met l y ws rm (va_Pc av (mw_Pre D cl tys S f sz)) (va_Qv post (mw_B D cl (mw_A f sz)) (mw_A f sz)) mc ms (mw_A f sz)
theorem mw_ofv {y : MethodName} {ws Ts : List Cond} {rm : Room} {S : (Nat → Prop) → State → Prop} {av : List Value} {sz mc ms : Nat} {post : mw_M → Prop} {maxL : Nat} {ret : Option FieldType} (hy : plainName y.cls = true) (hw : ws = Cond.code y cc maxL ret :: Ts) (hlen : (lg_sl av).length ≤ maxL)
    (body : ∀ (p : Program) (e : Env) (s : State) (m : MethodId) (below : List Frame) (meth : Method) (c : Code) (A : Nat → Prop) (ls : Array Slot) (Q : State → Prop), Q = MQ below (va_Qv post (mw_B D cl A) A) av.toArray s mc ms A → mw_C p s m av.toArray meth c cc maxL y.cls Ts D cl tys → meth.sig.returnType = ret → meth.name = y.name → (∀ q, s.heap.size ≤ q → A q) → mw_I D cl A s s.heap [] f → S A s → lv_has ls maxL (lv_args 0 av) →
      W p l e rm s m av.toArray below meth c s.heap [] 0 0 Q (F0 m 0 ls [])) : mw_Mv l y ws rm D cl tys S av f sz post mc ms := by
  refine Met.ofW (cc := cc) (maxL := maxL) (ret := ret) hy hw ?_
  intro p e s m args below meth c s₁ B hml hv
  obtain ⟨rfl, hsz, ⟨ws1, hP, hD0, hR⟩, hK, hS⟩ := hv
  have hts := atoms_spec (ws := ws) B.pre
  subst hsz
  have hDA : va_D (mw_A f s.heap.size) ws1 := ⟨hD0.1, fun k q hk => Or.inl ⟨q.2, (hR q.1 q.2).mpr ⟨k, hk⟩⟩⟩
  have hl := lv_entry av (n := maxL) hlen
  rw [lg_entry_eq]
  exact body p e s m below meth c (mw_A f s.heap.size) _ _ rfl ⟨B.exec, B.bytes, hml, findClass_of_methodNamed B.named, fun w h => hts w (by rw [hw]; exact List.mem_cons_of_mem _ h), B.notSynchronized, hK⟩ B.returns (name_of_methodNamed B.named B.method).1 (fun q h => Or.inr h) ⟨ws1, hP, hDA, va_S.rf, hR⟩ hS hl
abbrev mw_Mr (l : Launch) (y : MethodName) (ws : List Cond) (rm : Room) (D : va_G) (cl : List vw_C) (tys : List (ClassId × FieldType)) (S : (Nat → Prop) → State → Prop) (av : List Value) (f : mw_M) (sz : Nat) (post : Nat × mw_M → Prop) (mc ms : Nat) : Prop := Met l y ws rm (va_Pc av (mw_Pre D cl tys S f sz)) (va_Qr post (fun u a t => a = u.1 ∧ mw_B D cl (mw_A f sz) u.2 t) (mw_A f sz)) mc ms (mw_A f sz)
theorem mw_ofr {y : MethodName} {ws Ts : List Cond} {rm : Room} {S : (Nat → Prop) → State → Prop} {av : List Value} {sz mc ms : Nat} {post : Nat × mw_M → Prop} {maxL : Nat} {ret : Option FieldType} (hy : plainName y.cls = true) (hw : ws = Cond.code y cc maxL ret :: Ts) (hlen : (lg_sl av).length ≤ maxL)
    (body : ∀ (p : Program) (e : Env) (s : State) (m : MethodId) (below : List Frame) (meth : Method) (c : Code) (A : Nat → Prop) (ls : Array Slot) (Q : State → Prop), Q = MQ below (va_Qr post (fun u a t => a = u.1 ∧ mw_B D cl A u.2 t) A) av.toArray s mc ms A → mw_C p s m av.toArray meth c cc maxL y.cls Ts D cl tys → meth.sig.returnType = ret → meth.name = y.name → (∀ q, s.heap.size ≤ q → A q) → mw_I D cl A s s.heap [] f → S A s → lv_has ls maxL (lv_args 0 av) →
      W p l e rm s m av.toArray below meth c s.heap [] 0 0 Q (F0 m 0 ls [])) : mw_Mr l y ws rm D cl tys S av f sz post mc ms := by
  refine Met.ofW (cc := cc) (maxL := maxL) (ret := ret) hy hw ?_
  intro p e s m args below meth c s₁ B hml hv
  obtain ⟨rfl, hsz, ⟨ws1, hP, hD0, hR⟩, hK, hS⟩ := hv
  have hts := atoms_spec (ws := ws) B.pre
  subst hsz
  have hDA : va_D (mw_A f s.heap.size) ws1 := ⟨hD0.1, fun k q hk => Or.inl ⟨q.2, (hR q.1 q.2).mpr ⟨k, hk⟩⟩⟩
  have hl := lv_entry av (n := maxL) hlen
  rw [lg_entry_eq]
  exact body p e s m below meth c (mw_A f s.heap.size) _ _ rfl ⟨B.exec, B.bytes, hml, findClass_of_methodNamed B.named, fun w h => hts w (by rw [hw]; exact List.mem_cons_of_mem _ h), B.notSynchronized, hK⟩ B.returns (name_of_methodNamed B.named B.method).1 (fun q h => Or.inr h) ⟨ws1, hP, hDA, va_S.rf, hR⟩ hS hl
theorem mw_iret {post : Int32 → mw_M → Prop} {v : Int32} (B : mw_C p s m args meth c cc nL own Ts D cl tys) (hQ : Q = MQ below (va_Qi post (mw_B D cl A) A) args s cells slots A) (hr : meth.sig.returnType = some .int) (hI : mw_I D cl A s H locs f) (hp : post v f) (hdg : decode cc pc = .ok (.ireturn, 1)) : W p l e R s m args below meth c H locs cells slots Q (F0 m pc ls [.int v]) :=
  hQ ▸ W.iret (hlocks := B.2.2.2.2.2.1) B.1 B.2.1 hr (fun t ht hW => ⟨⟨v, f, rfl, hp, hI.B ht⟩, hI.sub.F ht⟩) hI.sub.2.2 hdg
theorem mw_zret {post : Int32 → mw_M → Prop} {v : Int32} (B : mw_C p s m args meth c cc nL own Ts D cl tys) (hQ : Q = MQ below (va_Qi post (mw_B D cl A) A) args s cells slots A) (hr : meth.sig.returnType = some .boolean) (hn : narrow .boolean (.int v) = .int v) (hI : mw_I D cl A s H locs f) (hp : post v f) (hdg : decode cc pc = .ok (.ireturn, 1)) : W p l e R s m args below meth c H locs cells slots Q (F0 m pc ls [.int v]) :=
  hQ ▸ W.zret (hlocks := B.2.2.2.2.2.1) B.1 B.2.1 hr hn (fun t ht hW => ⟨⟨v, f, rfl, hp, hI.B ht⟩, hI.sub.F ht⟩) hI.sub.2.2 hdg
theorem mw_lret {post : Int64 → mw_M → Prop} {v : Int64} (B : mw_C p s m args meth c cc nL own Ts D cl tys) (hQ : Q = MQ below (va_Ql post (mw_B D cl A) A) args s cells slots A) (hr : meth.sig.returnType = some .long) (hI : mw_I D cl A s H locs f) (hp : post v f) (hdg : decode cc pc = .ok (.lreturn, 1)) : W p l e R s m args below meth c H locs cells slots Q (F0 m pc ls [.long v]) :=
  hQ ▸ W.lret (hlocks := B.2.2.2.2.2.1) B.1 B.2.1 hr (fun t ht hW => ⟨⟨v, f, rfl, hp, hI.B ht⟩, hI.sub.F ht⟩) hI.sub.2.2 hdg
theorem mw_vret {post : mw_M → Prop} (B : mw_C p s m args meth c cc nL own Ts D cl tys) (hQ : Q = MQ below (va_Qv post (mw_B D cl A) A) args s cells slots A) (hr : meth.sig.returnType = none) (hI : mw_I D cl A s H locs f) (hp : post f) (hdg : decode cc pc = .ok (.return_, 1)) : W p l e R s m args below meth c H locs cells slots Q (F0 m pc ls []) :=
  hQ ▸ W.vret (hlocks := B.2.2.2.2.2.1) B.1 B.2.1 hr (fun t ht hW => ⟨⟨f, rfl, hp, hI.B ht⟩, hI.sub.F ht⟩) hI.sub.2.2 hdg
theorem mw_aret {post : Nat × mw_M → Prop} {v : Nat} {rt : String} (B : mw_C p s m args meth c cc nL own Ts D cl tys) (hQ : Q = MQ below (va_Qr post (fun u a t => a = u.1 ∧ mw_B D cl A u.2 t) A) args s cells slots A) (hr : meth.sig.returnType = some (.object rt)) (hI : mw_I D cl A s H locs f) (hp : post (v, f)) (hdg : decode cc pc = .ok (.areturn, 1)) : W p l e R s m args below meth c H locs cells slots Q (F0 m pc ls [.ref v]) :=
  hQ ▸ W.aret (hlocks := B.2.2.2.2.2.1) B.1 B.2.1 hr (Or.inl ⟨_, rfl⟩) (Or.inr ⟨_, rfl⟩) (fun t ht hW => ⟨⟨(v, f), v, rfl, hp, rfl, hI.B ht⟩, hI.sub.F ht⟩) hI.sub.2.2 hdg
end MS
