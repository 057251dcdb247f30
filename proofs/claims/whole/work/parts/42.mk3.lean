/-! numbers made one after another, with some cells X beside them that may change -/
def nwx (kA : Nat → ClassId) (f0 f : mw_M) (X : Nat → Prop) (w ra : Nat → Nat) (n : Nat) : Prop :=
  (∀ i, i < n → f (w i) = some (wh (ra i) 0 0) ∧ f (ra i) = some (mw_ar (kA 0) 104 (fun _ => 0)) ∧ f0 (w i) = none ∧ f0 (ra i) = none ∧ ¬ X (w i) ∧ ¬ X (ra i)) ∧ (∀ i j, i < n → j < n → i ≠ j → w i ≠ w j ∧ ra i ≠ ra j) ∧ ∀ k, ¬ X k → (∀ i, i < n → k ≠ w i ∧ k ≠ ra i) → f k = f0 k
def wap (w v : Nat → Nat) (n : Nat) : Nat → Nat := fun i => if i < n then w i else v (i - n)
theorem wap_lt {w v : Nat → Nat} {n i : Nat} (h : i < n) : wap w v n i = w i := by simp [wap, h]
theorem wap_ge {w v : Nat → Nat} {n i : Nat} (h : n ≤ i) : wap w v n i = v (i - n) := by simp [wap, Nat.not_lt.mpr h]
theorem nwx.app {kA : Nat → ClassId} {f0 f f1 : mw_M} {X : Nat → Prop} {w ra wp rr : Nat → Nat} {n m pa : Nat} (H : nwx kA f0 f X w ra n) (hX : ∀ k, X k → f k ≠ none) (hp : X pa)
    (h1 : ∀ i, i < m → f1 (wp i) = some (wh (rr i) 0 0) ∧ f1 (rr i) = some (mw_ar (kA 0) 104 (fun _ => 0)) ∧ f (wp i) = none ∧ f (rr i) = none) (h2 : ∀ i j, i < m → j < m → i ≠ j → wp i ≠ wp j ∧ rr i ≠ rr j) (h3 : ∀ k, k ≠ pa → (∀ i, i < m → k ≠ wp i ∧ k ≠ rr i) → f1 k = f k) : nwx kA f0 f1 X (wap w wp n) (wap ra rr n) (n + m) := by
  obtain ⟨a1, a2, a3⟩ := H
  have nh : ∀ i j, i < n → j < m → (w i ≠ wp j ∧ w i ≠ rr j) ∧ (ra i ≠ wp j ∧ ra i ≠ rr j) := fun i j hi hj => by
    obtain ⟨b1, b2, -⟩ := a1 i hi
    obtain ⟨-, -, c1, c2⟩ := h1 j hj
    exact ⟨⟨fun q => (by rw [q, c1] at b1; cases b1), fun q => (by rw [q, c2] at b1; cases b1)⟩, ⟨fun q => (by rw [q, c1] at b2; cases b2), fun q => (by rw [q, c2] at b2; cases b2)⟩⟩
  have fr : ∀ k, f k = none → f0 k = none ∧ ¬ X k := fun k hk => by
    have hx : ¬ X k := fun q => hX k q hk
    refine ⟨?_, hx⟩
    rw [← a3 k hx (fun i hi => ?_)]
    · exact hk
    · obtain ⟨b1, b2, -⟩ := a1 i hi
      exact ⟨fun q => (by rw [q, b1] at hk; cases hk), fun q => (by rw [q, b2] at hk; cases hk)⟩
  refine ⟨fun i hi => ?_, fun i j hi hj hij => ?_, fun k hk hk2 => ?_⟩
  · rcases Nat.lt_or_ge i n with q | q
    · rw [wap_lt q, wap_lt q]
      obtain ⟨b1, b2, b3, b4, b5, b6⟩ := a1 i q
      refine ⟨?_, ?_, b3, b4, b5, b6⟩
      · rw [h3 _ (fun z => b5 (by rw [z]; exact hp)) (fun j hj => (nh i j q hj).1)]; exact b1
      · rw [h3 _ (fun z => b6 (by rw [z]; exact hp)) (fun j hj => (nh i j q hj).2)]; exact b2
    · rw [wap_ge q, wap_ge q]
      obtain ⟨b1, b2, b3, b4⟩ := h1 (i - n) (by omega)
      exact ⟨b1, b2, (fr _ b3).1, (fr _ b4).1, (fr _ b3).2, (fr _ b4).2⟩
  · rcases Nat.lt_or_ge i n with q | q <;> rcases Nat.lt_or_ge j n with q2 | q2
    · rw [wap_lt q, wap_lt q, wap_lt q2, wap_lt q2]; exact a2 i j q q2 hij
    · rw [wap_lt q, wap_lt q, wap_ge q2, wap_ge q2]
      have := nh i (j - n) q (by omega)
      exact ⟨this.1.1, this.2.2⟩
    · rw [wap_ge q, wap_ge q, wap_lt q2, wap_lt q2]
      have := nh j (i - n) q2 (by omega)
      exact ⟨Ne.symm this.1.1, Ne.symm this.2.2⟩
    · rw [wap_ge q, wap_ge q, wap_ge q2, wap_ge q2]; exact h2 (i - n) (j - n) (by omega) (by omega) (by omega)
  · rw [h3 k (fun z => hk (by rw [z]; exact hp)) (fun j hj => ?_)]
    · refine a3 k hk (fun i hi => ?_)
      have := hk2 i (by omega)
      rw [wap_lt hi, wap_lt hi] at this
      exact this
    · have := hk2 (n + j) (by omega)
      rw [wap_ge (by omega), wap_ge (by omega), Nat.add_sub_cancel_left] at this
      exact this
theorem nwx.one {kA : Nat → ClassId} {f0 f f1 : mw_M} {X : Nat → Prop} {w ra : Nat → Nat} {n pa h r : Nat} (H : nwx kA f0 f X w ra n) (hX : ∀ k, X k → f k ≠ none) (hp : X pa) (h1 : f h = none) (h2 : f r = none) (h4 : f1 h = some (wh r 0 0)) (h5 : f1 r = some (mw_ar (kA 0) 104 (fun _ => 0))) (h6 : ∀ k, k ≠ h → k ≠ r → f1 k = f k) : nwx kA f0 f1 X (wap w (fun _ => h) n) (wap ra (fun _ => r) n) (n + 1) :=
  H.app (m := 1) hX hp (fun i _ => ⟨h4, h5, h1, h2⟩) (fun i j hi hj hij => absurd hij (by omega)) (fun k _ hk => h6 k (hk 0 (by omega)).1 (hk 0 (by omega)).2)
/-- a cell of X is put -/
theorem nwx.put {kA : Nat → ClassId} {f0 f f1 : mw_M} {X : Nat → Prop} {w ra : Nat → Nat} {n q : Nat} (H : nwx kA f0 f X w ra n) (hq : X q) (h : ∀ k, k ≠ q → f1 k = f k) : nwx kA f0 f1 X w ra n := by
  obtain ⟨a1, a2, a3⟩ := H
  refine ⟨fun i hi => ?_, a2, fun k hk hk2 => ?_⟩
  · obtain ⟨b1, b2, b3, b4, b5, b6⟩ := a1 i hi
    exact ⟨by rw [h _ (fun z => b5 (by rw [z]; exact hq))]; exact b1, by rw [h _ (fun z => b6 (by rw [z]; exact hq))]; exact b2, b3, b4, b5, b6⟩
  · rw [h k (fun z => hk (by rw [z]; exact hq))]; exact a3 k hk hk2
/-- one cell more beside the numbers, that is new -/
theorem nwx.ext {kA : Nat → ClassId} {f0 f f1 : mw_M} {X : Nat → Prop} {w ra : Nat → Nat} {n q : Nat} (H : nwx kA f0 f X w ra n) (hq : f q = none) (h : ∀ k, k ≠ q → f1 k = f k) : nwx kA f0 f1 (fun k => X k ∨ k = q) w ra n := by
  obtain ⟨a1, a2, a3⟩ := H
  have nq : ∀ i, i < n → w i ≠ q ∧ ra i ≠ q := fun i hi => by
    obtain ⟨b1, b2, -⟩ := a1 i hi
    exact ⟨fun z => (by rw [z, hq] at b1; cases b1), fun z => (by rw [z, hq] at b2; cases b2)⟩
  refine ⟨fun i hi => ?_, a2, fun k hk hk2 => ?_⟩
  · obtain ⟨b1, b2, b3, b4, b5, b6⟩ := a1 i hi
    exact ⟨by rw [h _ (nq i hi).1]; exact b1, by rw [h _ (nq i hi).2]; exact b2, b3, b4, fun z => z.elim b5 (nq i hi).1, fun z => z.elim b6 (nq i hi).2⟩
  · rw [h k (fun z => hk (Or.inr z))]; exact a3 k (fun z => hk (Or.inl z)) hk2
theorem nx2 {f : mw_M} {d sl : Nat} {e1 e2 : va_E} (h1 : f d = some e1) (h2 : f sl = some e2) (k : Nat) (hk : k = d ∨ k = sl) : f k ≠ none := by
  rcases hk with rfl | rfl
  · rw [h1]; exact fun z => by cases z
  · rw [h2]; exact fun z => by cases z
theorem nx3 {f : mw_M} {d sl pa : Nat} {e1 e2 e3 : va_E} (h1 : f d = some e1) (h2 : f sl = some e2) (h3 : f pa = some e3) (k : Nat) (hk : (k = d ∨ k = sl) ∨ k = pa) : f k ≠ none := by
  rcases hk with (rfl | rfl) | rfl
  · rw [h1]; exact fun z => by cases z
  · rw [h2]; exact fun z => by cases z
  · rw [h3]; exact fun z => by cases z
