/-! a new Whole, three instructions at once -/
section MK
variable {p : Program} {l : Launch} {e : Env} {R : Room} {s : State} {m : MethodId} {args : Array Value} {below : List Frame} {meth : Method} {c : Code} {H : Heap} {locs : List Loc} {cells slots : Nat} {Q : State → Prop}
variable {cc : ByteArray} {nL : Nat} {own : String} {pc : Nat} {ls : Array Slot} {rest : List Value} {D : va_G} {kA : Nat → ClassId} {A : Nat → Prop} {f : mw_M} {i1 i2 : Nat}
theorem mk_whole (B : mw_C p s m args meth c cc nL own gw D vwCl (tyL kA)) (hI : mw_I D vwCl A s H locs f) (hA : ∀ q, s.heap.size ≤ q → A q) (hSt : st_S A s) (hls : ls.size = nL) (k1 : Cond.classLink own i1 "BigDesk$Whole" ∈ gw) (k2 : Cond.methodLink own i2 yX1_init ∈ gw) (hfr : 2 ≤ R.frames) (hlo : 44 ≤ R.locals) (hc : cells + 2 ≤ R.cells) (hs : slots + 107 ≤ R.slots) (hrest : (rest.map fun v => v.category).sum ≤ 7) (d1 : decode cc pc = .ok (.new i1, 3)) (d2 : decode cc (pc + 3) = .ok (.dup, 1)) (d3 : decode cc (pc + 4) = .ok (.invokespecial i2, 3))
    (kk : ∀ (h r : Nat) (f1 : mw_M) (H1 : Heap) (locs1 : List Loc), f h = none → f r = none → h ≠ r → f1 h = some (wh r 0 0) → f1 r = some (mw_ar (kA 0) 104 (fun _ => 0)) → (∀ k, k ≠ h → k ≠ r → f1 k = f k) → mw_I D vwCl A s H1 locs1 f1 → W p l e R s m args below meth c H1 locs1 (cells + 2) (slots + 107) Q (F0 m (pc + 7) ls (.ref h :: rest))) : W p l e R s m args below meth c H locs cells slots Q (F0 m pc ls rest) := by
  refine mw_new (C := RX1) (T := TX1) (N := 3) (ci := 1) B hI hA uin_X1 tyX1 tyX1_ok k1 kw_17 kw_2 rfl [.null, .int (iI 0), .int (iI 0)] (fun j hj => by rcases (show j = 0 ∨ j = 1 ∨ j = 2 by omega) with rfl | rfl | rfl <;> rfl) (by omega) (by omega) d1 (fun h H hfh hI => ?_)
  refine mv_dup B d2 rfl ?_
  refine mw_callv hI hA (va_runI (As := []) (rest := .ref h :: rest) B.fix (t_X1_init l D kA H.size _ (mw_set_self _ _ _)) (cwI 0 B.2.2.2.2.1 (gC kw_20) rfl rfl rfl (B.2.2.2.2.1 _ kw_2) (B.2.2.2.2.1 _ k2) (B.2.2.2.2.1 _ kw_19) rfl (by decide +kernel) ⟨hfr, hlo⟩) ⟨mw_blind st_S.blind, mw_pre B hI (hSt.call hI hA)⟩ rfl rfl hls rfl (lv_room (by rw [List.map_cons, List.sum_cons]; show 1 + _ ≤ 8; omega)) d3 ⟨by show cells + 1 + 1 ≤ _; omega, by show slots + 3 + 104 ≤ _; omega⟩) (fun f1 H1 locs1 hp hI1 => ?_)
  obtain ⟨r, q1, q2, q3, q4, q5⟩ := hp
  have hrn : f r = none := by rw [mw_set_ne _ _ q2] at q1; exact q1
  exact kk h r f1 H1 locs1 hfh hrn (Ne.symm q2) q3 q4 (fun k a1 a2 => by rw [q5 k a1 a2]; exact mw_set_ne _ _ a1) hI1
end MK
theorem Rp_zero {kA : Nat → ClassId} {f : mw_M} {h r : Nat} (h1 : f h = some (wh r 0 0)) (h2 : f r = some (mw_ar (kA 0) 104 (fun _ => 0))) : Rp (kA 0) f h r 0 := ⟨fun _ => 0, 0, 0, h1, h2, by decide, fun i hi => absurd hi (by omega), fun q => absurd q (by omega), Or.inl ⟨rfl, rfl⟩⟩
/-- n numbers, all 0, at addresses that are new -/
def nws (kA : Nat → ClassId) (f0 f : mw_M) (w ra : Nat → Nat) (n : Nat) : Prop :=
  (∀ i, i < n → f (w i) = some (wh (ra i) 0 0) ∧ f (ra i) = some (mw_ar (kA 0) 104 (fun _ => 0)) ∧ f0 (w i) = none ∧ f0 (ra i) = none) ∧ (∀ i j, i < n → j < n → i ≠ j → w i ≠ w j ∧ ra i ≠ ra j) ∧ ∀ k, (∀ i, i < n → k ≠ w i ∧ k ≠ ra i) → f k = f0 k
theorem nws.zero {kA : Nat → ClassId} {f0 : mw_M} {w ra : Nat → Nat} : nws kA f0 f0 w ra 0 := ⟨fun i hi => absurd hi (by omega), fun i j hi => absurd hi (by omega), fun _ _ => rfl⟩
theorem nws.push {kA : Nat → ClassId} {f0 f f1 : mw_M} {w ra : Nat → Nat} {n h r : Nat} (H : nws kA f0 f w ra n) (h1 : f h = none) (h2 : f r = none) (h4 : f1 h = some (wh r 0 0)) (h5 : f1 r = some (mw_ar (kA 0) 104 (fun _ => 0))) (h6 : ∀ k, k ≠ h → k ≠ r → f1 k = f k) : nws kA f0 f1 (va_up w n h) (va_up ra n r) (n + 1) := by
  obtain ⟨a1, a2, a3⟩ := H
  have nh : ∀ i, i < n → w i ≠ h ∧ w i ≠ r ∧ ra i ≠ h ∧ ra i ≠ r := fun i hi => by
    obtain ⟨b1, b2, -, -⟩ := a1 i hi
    exact ⟨fun q => (by rw [q, h1] at b1; cases b1), fun q => (by rw [q, h2] at b1; cases b1), fun q => (by rw [q, h1] at b2; cases b2), fun q => (by rw [q, h2] at b2; cases b2)⟩
  have fr : ∀ k, f k = none → f0 k = none := fun k hk => by
    by_cases q : ∀ i, i < n → k ≠ w i ∧ k ≠ ra i
    · rw [← a3 k q]; exact hk
    · exfalso
      apply q
      intro i hi
      obtain ⟨b1, b2, -, -⟩ := a1 i hi
      exact ⟨fun q => (by rw [q, b1] at hk; cases hk), fun q => (by rw [q, b2] at hk; cases hk)⟩
  refine ⟨fun i hi => ?_, fun i j hi hj hij => ?_, fun k hk => ?_⟩
  · by_cases q : i = n
    · subst q
      rw [va_up_self, va_up_self]
      exact ⟨h4, h5, fr h h1, fr r h2⟩
    · rw [va_up_ne _ _ q, va_up_ne _ _ q]
      obtain ⟨b1, b2, b3, b4⟩ := a1 i (by omega)
      obtain ⟨c1, c2, c3, c4⟩ := nh i (by omega)
      exact ⟨by rw [h6 _ c1 c2]; exact b1, by rw [h6 _ c3 c4]; exact b2, b3, b4⟩
  · by_cases q : i = n
    · subst q
      rw [va_up_self, va_up_self, va_up_ne _ _ (Ne.symm hij), va_up_ne _ _ (Ne.symm hij)]
      obtain ⟨c1, c2, c3, c4⟩ := nh j (by omega)
      exact ⟨Ne.symm c1, Ne.symm c4⟩
    · by_cases q2 : j = n
      · subst q2
        rw [va_up_self, va_up_self, va_up_ne _ _ q, va_up_ne _ _ q]
        obtain ⟨c1, c2, c3, c4⟩ := nh i (by omega)
        exact ⟨c1, c4⟩
      · rw [va_up_ne _ _ q, va_up_ne _ _ q, va_up_ne _ _ q2, va_up_ne _ _ q2]
        exact a2 i j (by omega) (by omega) hij
  · have k0 := hk n (by omega)
    rw [va_up_self, va_up_self] at k0
    rw [h6 k k0.1 k0.2]
    refine a3 k (fun i hi => ?_)
    have k1 := hk i (by omega)
    rw [va_up_ne _ _ (by omega), va_up_ne _ _ (by omega)] at k1
    exact k1
