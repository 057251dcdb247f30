/-! A WHOLE: its cell, its row; the rows of its fields -/
abbrev ciW : Nat := 1
abbrev wh (r : Nat) (n b : Int) : va_E := .inr (ciW, [.ref r, .int (iI n), .int (iI b)])
abbrev ww_in (Ts : List Cond) : Prop := ∀ w ∈ u_ws RX1 TX1 3, w ∈ Ts
/-- h is a Whole with the row g at r; all but its two cells is as in f0 -/
def wSt (cI : ClassId) (f0 : mw_M) (h r : Nat) (f : mw_M) (g : Nat → Int) (n b : Int) : Prop := f h = some (wh r n b) ∧ f r = some (mw_ar cI 104 g) ∧ ∀ q, q ≠ h → q ≠ r → f q = f0 q
theorem wSt.self {cI : ClassId} {f0 : mw_M} {h r : Nat} {g : Nat → Int} {n b : Int} (h1 : f0 h = some (wh r n b)) (h2 : f0 r = some (mw_ar cI 104 g)) : wSt cI f0 h r f0 g n b := ⟨h1, h2, fun _ _ _ => rfl⟩
theorem wh_ne {f : mw_M} {h q r r2 : Nat} {n b : Int} {cI : ClassId} {g : Nat → Int} (h1 : f h = some (wh r n b)) (h2 : f q = some (mw_ar cI r2 g)) : h ≠ q := fun e => by
  rw [e, h2] at h1
  cases h1
theorem wSt.ne {cI : ClassId} {f0 : mw_M} {h r : Nat} {f : mw_M} {g : Nat → Int} {n b : Int} (hT : wSt cI f0 h r f g n b) : h ≠ r := wh_ne hT.1 hT.2.1
theorem wSt.get {cI : ClassId} {f0 : mw_M} {h r : Nat} {f : mw_M} {g : Nat → Int} {n b : Int} (hT : wSt cI f0 h r f g n b) {q : Nat} {e : va_E} (h1 : f0 q = some e) (h2 : q ≠ h) (h3 : q ≠ r) : f q = some e := by rw [hT.2.2 q h2 h3]; exact h1
theorem wSt.trans {cI : ClassId} {f0 f1 : mw_M} {h r : Nat} {f : mw_M} {g g1 : Nat → Int} {n b n1 b1 : Int} (hT : wSt cI f0 h r f1 g1 n1 b1) (h2 : wSt cI f1 h r f g n b) : wSt cI f0 h r f g n b := ⟨h2.1, h2.2.1, fun q a1 a2 => (h2.2.2 q a1 a2).trans (hT.2.2 q a1 a2)⟩
theorem wSt.put {cI : ClassId} {f0 : mw_M} {h r : Nat} {f : mw_M} {g : Nat → Int} {n b : Int} (hT : wSt cI f0 h r f g n b) (n' b' : Int) : wSt cI f0 h r (mw_set f h (wh r n' b')) g n' b' := by
  refine ⟨mw_set_self _ _ _, ?_, fun q a1 a2 => ?_⟩
  · rw [mw_set_ne _ _ (Ne.symm hT.ne)]; exact hT.2.1
  · rw [mw_set_ne _ _ a1]; exact hT.2.2 q a1 a2
theorem wSt.ast {cI : ClassId} {f0 : mw_M} {h r : Nat} {f : mw_M} {g : Nat → Int} {n b : Int} (hT : wSt cI f0 h r f g n b) (g' : Nat → Int) : wSt cI f0 h r (mw_set f r (mw_ar cI 104 g')) g' n b := by
  refine ⟨?_, mw_set_self _ _ _, fun q a1 a2 => ?_⟩
  · rw [mw_set_ne _ _ hT.ne]; exact hT.1
  · rw [mw_set_ne _ _ a2]; exact hT.2.2 q a1 a2
section WWR
variable {p : Program} {l : Launch} {e : Env} {R : Room} {s : State} {m : MethodId} {args : Array Value} {below : List Frame} {meth : Method} {c : Code} {H : Heap} {locs : List Loc} {cells slots : Nat} {Q : State → Prop}
variable {cc : ByteArray} {nL : Nat} {own : String} {Ts : List Cond} {pc : Nat} {ls : Array Slot} {rest : List Value} {D : va_G} {tys : List (ClassId × FieldType)} {A : Nat → Prop} {f : mw_M} {a : Nat} {f0 : mw_M} {h r : Nat} {g : Nat → Int} {n b : Int} {cI : ClassId} {index : Nat}
theorem ww_parts (B : mw_C p s m args meth c cc nL own Ts D vwCl tys) (hI : mw_I D vwCl A s H locs f) (ha : f a = some (wh r n b)) (hw : ww_in Ts) (hl : Cond.fieldLink own index "BigDesk$Whole" "parts" "[I" ∈ Ts) (hdg : decode cc pc = .ok (.getfield index, 3)) (kk : W p l e R s m args below meth c H locs cells slots Q (F0 m (pc + 3) ls (.ref r :: rest))) : W p l e R s m args below meth c H locs cells slots Q (F0 m pc ls (.ref a :: rest)) :=
  mw_get (C := RX1) (T := TX1) (N := 3) B hI ha hw rfl 0 (by decide) hl rfl hdg kk
theorem ww_size (B : mw_C p s m args meth c cc nL own Ts D vwCl tys) (hI : mw_I D vwCl A s H locs f) (ha : f a = some (wh r n b)) (hw : ww_in Ts) (hl : Cond.fieldLink own index "BigDesk$Whole" "size" "I" ∈ Ts) (hdg : decode cc pc = .ok (.getfield index, 3)) (kk : W p l e R s m args below meth c H locs cells slots Q (F0 m (pc + 3) ls (.int (iI n) :: rest))) : W p l e R s m args below meth c H locs cells slots Q (F0 m pc ls (.ref a :: rest)) :=
  mw_get (C := RX1) (T := TX1) (N := 3) B hI ha hw rfl 1 (by decide) hl rfl hdg kk
theorem ww_below (B : mw_C p s m args meth c cc nL own Ts D vwCl tys) (hI : mw_I D vwCl A s H locs f) (ha : f a = some (wh r n b)) (hw : ww_in Ts) (hl : Cond.fieldLink own index "BigDesk$Whole" "below" "Z" ∈ Ts) (hdg : decode cc pc = .ok (.getfield index, 3)) (kk : W p l e R s m args below meth c H locs cells slots Q (F0 m (pc + 3) ls (.int (iI b) :: rest))) : W p l e R s m args below meth c H locs cells slots Q (F0 m pc ls (.ref a :: rest)) :=
  mw_get (C := RX1) (T := TX1) (N := 3) B hI ha hw rfl 2 (by decide) hl rfl hdg kk
theorem ww_puts {n' : Int} (B : mw_C p s m args meth c cc nL own Ts D vwCl tys) (hI : mw_I D vwCl A s H locs f) (hT : wSt cI f0 h r f g n b) (hw : ww_in Ts) (hl : Cond.fieldLink own index "BigDesk$Whole" "size" "I" ∈ Ts) (hdg : decode cc pc = .ok (.putfield index, 3)) (kk : ∀ (f1 : mw_M) (H1 : Heap) (locs1 : List Loc), wSt cI f0 h r f1 g n' b → mw_I D vwCl A s H1 locs1 f1 → W p l e R s m args below meth c H1 locs1 cells slots Q (F0 m (pc + 3) ls rest)) : W p l e R s m args below meth c H locs cells slots Q (F0 m pc ls (.int (iI n') :: .ref h :: rest)) :=
  mw_put (C := RX1) (T := TX1) (N := 3) B hI hT.1 hw tyX1 tyX1_ok nmX1 rfl 1 (by decide) hl rfl rfl rfl (Nat.le_of_ble_eq_true rfl) hdg (fun H1 locs1 h1 => kk _ H1 locs1 (hT.put n' b) h1)
theorem bool_nar {b : Int} (hb : b = 0 ∨ b = 1) : narrow .boolean (.int (iI b)) = .int (iI b) ∧ fits .boolean (.int (iI b)) = true := by
  rcases hb with rfl | rfl <;> exact ⟨by decide, by decide⟩
theorem ww_putb {b' : Int} (B : mw_C p s m args meth c cc nL own Ts D vwCl tys) (hI : mw_I D vwCl A s H locs f) (hT : wSt cI f0 h r f g n b) (hb : b' = 0 ∨ b' = 1) (hw : ww_in Ts) (hl : Cond.fieldLink own index "BigDesk$Whole" "below" "Z" ∈ Ts) (hdg : decode cc pc = .ok (.putfield index, 3)) (kk : ∀ (f1 : mw_M) (H1 : Heap) (locs1 : List Loc), wSt cI f0 h r f1 g n b' → mw_I D vwCl A s H1 locs1 f1 → W p l e R s m args below meth c H1 locs1 cells slots Q (F0 m (pc + 3) ls rest)) : W p l e R s m args below meth c H locs cells slots Q (F0 m pc ls (.int (iI b') :: .ref h :: rest)) :=
  mw_put (C := RX1) (T := TX1) (N := 3) B hI hT.1 hw tyX1 tyX1_ok nmX1 rfl 2 (by decide) hl rfl (bool_nar hb).1 (bool_nar hb).2 (Nat.le_of_ble_eq_true rfl) hdg (fun H1 locs1 h1 => kk _ H1 locs1 (hT.put n b') h1)
theorem ww_iast {kA : Nat → ClassId} (B : mw_C p s m args meth c cc nL own Ts D vwCl (tyL kA)) (hI : mw_I D vwCl A s H locs f) (hT : wSt (kA 0) f0 h r f g n b) {x v : Int} (i : Nat) (hi : x = (i : Int)) (hin : i < 104) (hdg : decode cc pc = .ok (.iastore, 1)) (kk : ∀ (f1 : mw_M) (H1 : Heap) (locs1 : List Loc), wSt (kA 0) f0 h r f1 (upI g i v) n b → mw_I D vwCl A s H1 locs1 f1 → W p l e R s m args below meth c H1 locs1 cells slots Q (F0 m (pc + 1) ls rest)) : W p l e R s m args below meth c H locs cells slots Q (F0 m pc ls (.int (iI v) :: .int (iI x) :: .ref r :: rest)) :=
  mw_iast B hI 0 hT.2.1 rfl i hi hin (by decide) hdg (fun H1 locs1 h1 => kk _ H1 locs1 (hT.ast _) h1)
end WWR
/-! what a Whole holds -/
/-- sizes and parts as they must be, no 0 on top -/
def cn (g : Nat → Int) (n : Nat) : Prop := n ≤ 104 ∧ dg g n ∧ (0 < n → g (n - 1) ≠ 0)
theorem rp.toCn {g : Nat → Int} {n : Nat} {b z : Int} (h : rp g n b z) : cn g n := ⟨h.1, h.2.1, h.2.2.1⟩
theorem cn.pos {g : Nat → Int} {n : Nat} (h : cn g n) (hn : 0 < n) : 1000000 ^ (n - 1) ≤ dv g n := by
  obtain ⟨k, rfl⟩ : ∃ k, n = k + 1 := ⟨n - 1, by omega⟩
  exact dv_ge h.2.1 (h.2.2 hn)
/-- -1, 0 or 1 -/
def c3 (a b : Int) : Int := if a < b then -1 else if a = b then 0 else 1
theorem c3_lt {a b : Int} (h : a < b) : c3 a b = -1 := by simp [c3, h]
theorem c3_eq {a b : Int} (h : a = b) : c3 a b = 0 := by subst h; simp [c3]
theorem c3_gt {a b : Int} (h : b < a) : c3 a b = 1 := by
  unfold c3
  rw [if_neg (by omega), if_neg (by omega)]
theorem c3_in (a b : Int) : -1 ≤ c3 a b ∧ c3 a b ≤ 1 ∧ (c3 a b < 0 ↔ a < b) ∧ (c3 a b = 0 ↔ a = b) ∧ (0 < c3 a b ↔ b < a) := by
  rcases Int.lt_trichotomy a b with q | q | q
  · rw [c3_lt q]; omega
  · rw [c3_eq q]; omega
  · rw [c3_gt q]; omega
theorem cn.lt {g h : Nat → Int} {n k : Nat} (hg : cn g n) (hh : cn h k) (hn : n < k) : dv g n < dv h k := by
  have h1 := dv_lt hg.2.1
  have h2 := hh.pos (by omega)
  have h3 := bp_le (show n ≤ k - 1 by omega)
  omega
def Rp (cI : ClassId) (f : mw_M) (h r : Nat) (z : Int) : Prop := ∃ (g : Nat → Int) (n : Nat) (b : Int), f h = some (wh r (n : Int) b) ∧ f r = some (mw_ar cI 104 g) ∧ rp g n b z
def Rw (cI : ClassId) (f : mw_M) (h r : Nat) : Prop := ∃ (g : Nat → Int) (n b : Int), f h = some (wh r n b) ∧ f r = some (mw_ar cI 104 g)
def fo (f0 f : mw_M) (h r : Nat) : Prop := ∀ q, q ≠ h → q ≠ r → f q = f0 q
theorem Rp.w {cI : ClassId} {f : mw_M} {h r : Nat} {z : Int} (q : Rp cI f h r z) : Rw cI f h r := by
  obtain ⟨g, n, b, h1, h2, -⟩ := q
  exact ⟨g, _, b, h1, h2⟩
theorem Rp.keep {cI : ClassId} {f0 f : mw_M} {h r x rx : Nat} {z : Int} (hq : Rp cI f0 x rx z) (hf : fo f0 f h r) (hw : Rw cI f0 h r) (h1 : x ≠ h) (h2 : rx ≠ r) : Rp cI f x rx z := by
  obtain ⟨g, n, b, a1, a2, a3⟩ := hq
  obtain ⟨g', n', b', b1, b2⟩ := hw
  exact ⟨g, n, b, by rw [hf x h1 (wh_ne a1 b2)]; exact a1, by rw [hf rx (Ne.symm (wh_ne b1 a2)) h2]; exact a2, a3⟩
theorem Rw.keep {cI : ClassId} {f0 f : mw_M} {h r x rx : Nat} (hq : Rw cI f0 x rx) (hf : fo f0 f h r) (hw : Rw cI f0 h r) (h1 : x ≠ h) (h2 : rx ≠ r) : Rw cI f x rx := by
  obtain ⟨g, n, b, a1, a2⟩ := hq
  obtain ⟨g', n', b', b1, b2⟩ := hw
  exact ⟨g, n, b, by rw [hf x h1 (wh_ne a1 b2)]; exact a1, by rw [hf rx (Ne.symm (wh_ne b1 a2)) h2]; exact a2⟩
theorem wSt.toRp {cI : ClassId} {f0 f : mw_M} {h r : Nat} {g : Nat → Int} {n : Nat} {b z : Int} (hT : wSt cI f0 h r f g (n : Int) b) (hz : rp g n b z) : Rp cI f h r z ∧ fo f0 f h r := ⟨⟨g, n, b, hT.1, hT.2.1, hz⟩, hT.2.2⟩
theorem rp_of {g' : Nat → Int} {n' : Nat} {nb M z : Int} (hc : cn g' n') (hv : dv g' n' = M) (hz : (nb = 0 ∧ z = M) ∨ (nb = 1 ∧ z = -M)) : rp g' n' (if n' = 0 then 0 else nb) z := by
  refine ⟨hc.1, hc.2.1, hc.2.2, ?_⟩
  by_cases q : n' = 0
  · rw [if_pos q]
    subst q
    rw [dv_0] at hv ⊢
    omega
  · rw [if_neg q]
    omega
theorem bp_le_of {a b : Nat} (h : (1000000 : Int) ^ a ≤ 1000000 ^ b) : a ≤ b := by
  rcases Nat.lt_or_ge b a with q | q
  · have h1 := bp_le (show b + 1 ≤ a from q)
    have h2 := bp_s b
    have h3 := bp_pos b
    omega
  · exact q
/-- two Wholes, h and t, and all else as in f0 -/
def d2 (cI : ClassId) (f0 : mw_M) (h r t rt : Nat) (f : mw_M) (g : Nat → Int) (n b : Int) (gt : Nat → Int) (nt bt : Int) : Prop := f h = some (wh r n b) ∧ f r = some (mw_ar cI 104 g) ∧ f t = some (wh rt nt bt) ∧ f rt = some (mw_ar cI 104 gt) ∧ ∀ q, q ≠ h → q ≠ r → q ≠ t → q ≠ rt → f q = f0 q
theorem d2.self {cI : ClassId} {f0 : mw_M} {h r t rt : Nat} {g gt : Nat → Int} {n b nt bt : Int} (h1 : f0 h = some (wh r n b)) (h2 : f0 r = some (mw_ar cI 104 g)) (h3 : f0 t = some (wh rt nt bt)) (h4 : f0 rt = some (mw_ar cI 104 gt)) : d2 cI f0 h r t rt f0 g n b gt nt bt := ⟨h1, h2, h3, h4, fun _ _ _ _ _ => rfl⟩
theorem d2.swap {cI : ClassId} {f0 f : mw_M} {h r t rt : Nat} {g gt : Nat → Int} {n b nt bt : Int} (hT : d2 cI f0 h r t rt f g n b gt nt bt) : d2 cI f0 t rt h r f gt nt bt g n b := ⟨hT.2.2.1, hT.2.2.2.1, hT.1, hT.2.1, fun q a1 a2 a3 a4 => hT.2.2.2.2 q a3 a4 a1 a2⟩
theorem d2.h {cI : ClassId} {f0 f f1 : mw_M} {h r t rt : Nat} {g gt g1 : Nat → Int} {n b nt bt n1 b1 : Int} (hT : d2 cI f0 h r t rt f g n b gt nt bt) (ht : t ≠ h) (hr : rt ≠ r) (h1 : wSt cI f h r f1 g1 n1 b1) : d2 cI f0 h r t rt f1 g1 n1 b1 gt nt bt :=
  ⟨h1.1, h1.2.1, h1.get hT.2.2.1 ht (wh_ne hT.2.2.1 hT.2.1), h1.get hT.2.2.2.1 (Ne.symm (wh_ne hT.1 hT.2.2.2.1)) hr, fun q a1 a2 a3 a4 => (h1.2.2 q a1 a2).trans (hT.2.2.2.2 q a1 a2 a3 a4)⟩
theorem d2.t {cI : ClassId} {f0 f f1 : mw_M} {h r t rt : Nat} {g gt g1 : Nat → Int} {n b nt bt n1 b1 : Int} (hT : d2 cI f0 h r t rt f g n b gt nt bt) (ht : t ≠ h) (hr : rt ≠ r) (h1 : wSt cI f t rt f1 g1 n1 b1) : d2 cI f0 h r t rt f1 g n b g1 n1 b1 := (hT.swap.h (Ne.symm ht) (Ne.symm hr) h1).swap
theorem d2.get {cI : ClassId} {f0 f : mw_M} {h r t rt : Nat} {g gt : Nat → Int} {n b nt bt : Int} (hT : d2 cI f0 h r t rt f g n b gt nt bt) {q : Nat} {e : va_E} (hq : f0 q = some e) (h1 : q ≠ h) (h2 : q ≠ r) (h3 : q ≠ t) (h4 : q ≠ rt) : f q = some e := by rw [hT.2.2.2.2 q h1 h2 h3 h4]; exact hq
def fo2 (f0 f : mw_M) (h r t rt : Nat) : Prop := ∀ q, q ≠ h → q ≠ r → q ≠ t → q ≠ rt → f q = f0 q
