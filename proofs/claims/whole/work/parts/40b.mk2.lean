/-- three new numbers, a cell q put between -/
theorem nws3 {kA : Nat → ClassId} {fz f0 f1 f2 f3 f4 f5 f6 : mw_M} {q h0 g0 h1 g1 h2 g2 : Nat} (hf : f0 = fz)
    (a0 : f0 h0 = none) (b0 : f0 g0 = none) (c0 : h0 ≠ g0) (d0 : f1 h0 = some (wh g0 0 0)) (e0 : f1 g0 = some (mw_ar (kA 0) 104 (fun _ => 0))) (o0 : ∀ k, k ≠ h0 → k ≠ g0 → f1 k = f0 k) (p0 : ∀ k, k ≠ q → f2 k = f1 k) (n0 : q ≠ h0 ∧ q ≠ g0)
    (a1 : f2 h1 = none) (b1 : f2 g1 = none) (c1 : h1 ≠ g1) (d1 : f3 h1 = some (wh g1 0 0)) (e1 : f3 g1 = some (mw_ar (kA 0) 104 (fun _ => 0))) (o1 : ∀ k, k ≠ h1 → k ≠ g1 → f3 k = f2 k) (p1 : ∀ k, k ≠ q → f4 k = f3 k) (n1 : q ≠ h1 ∧ q ≠ g1)
    (a2 : f4 h2 = none) (b2 : f4 g2 = none) (c2 : h2 ≠ g2) (d2 : f5 h2 = some (wh g2 0 0)) (e2 : f5 g2 = some (mw_ar (kA 0) 104 (fun _ => 0))) (o2 : ∀ k, k ≠ h2 → k ≠ g2 → f5 k = f4 k) (p2 : ∀ k, k ≠ q → f6 k = f5 k) (n2 : q ≠ h2 ∧ q ≠ g2) :
    (∀ i, i < 3 → f6 ((fun i => if i = 0 then h0 else if i = 1 then h1 else h2) i) = some (wh ((fun i => if i = 0 then g0 else if i = 1 then g1 else g2) i) 0 0) ∧ f6 ((fun i => if i = 0 then g0 else if i = 1 then g1 else g2) i) = some (mw_ar (kA 0) 104 (fun _ => 0)) ∧ fz ((fun i => if i = 0 then h0 else if i = 1 then h1 else h2) i) = none ∧ fz ((fun i => if i = 0 then g0 else if i = 1 then g1 else g2) i) = none) ∧ (∀ i j, i < 3 → j < 3 → i ≠ j → (fun i => if i = 0 then h0 else if i = 1 then h1 else h2) i ≠ (fun i => if i = 0 then h0 else if i = 1 then h1 else h2) j ∧ (fun i => if i = 0 then g0 else if i = 1 then g1 else g2) i ≠ (fun i => if i = 0 then g0 else if i = 1 then g1 else g2) j) ∧ ∀ k, k ≠ q → (∀ i, i < 3 → k ≠ (fun i => if i = 0 then h0 else if i = 1 then h1 else h2) i ∧ k ≠ (fun i => if i = 0 then g0 else if i = 1 then g1 else g2) i) → f6 k = fz k := by
  subst hf
  -- where the cells are, map by map
  have x0 : f2 h0 = some (wh g0 0 0) := by rw [p0 _ (Ne.symm n0.1)]; exact d0
  have y0 : f2 g0 = some (mw_ar (kA 0) 104 (fun _ => 0)) := by rw [p0 _ (Ne.symm n0.2)]; exact e0
  have ne10 : h1 ≠ h0 ∧ h1 ≠ g0 ∧ g1 ≠ h0 ∧ g1 ≠ g0 := ⟨fun z => (by rw [z, x0] at a1; cases a1), fun z => (by rw [z, y0] at a1; cases a1), fun z => (by rw [z, x0] at b1; cases b1), fun z => (by rw [z, y0] at b1; cases b1)⟩
  have x0' : f4 h0 = some (wh g0 0 0) := by rw [p1 _ (Ne.symm n0.1), o1 _ (Ne.symm ne10.1) (Ne.symm ne10.2.2.1)]; exact x0
  have y0' : f4 g0 = some (mw_ar (kA 0) 104 (fun _ => 0)) := by rw [p1 _ (Ne.symm n0.2), o1 _ (Ne.symm ne10.2.1) (Ne.symm ne10.2.2.2)]; exact y0
  have x1 : f4 h1 = some (wh g1 0 0) := by rw [p1 _ (Ne.symm n1.1)]; exact d1
  have y1 : f4 g1 = some (mw_ar (kA 0) 104 (fun _ => 0)) := by rw [p1 _ (Ne.symm n1.2)]; exact e1
  have ne20 : h2 ≠ h0 ∧ h2 ≠ g0 ∧ g2 ≠ h0 ∧ g2 ≠ g0 := ⟨fun z => (by rw [z, x0'] at a2; cases a2), fun z => (by rw [z, y0'] at a2; cases a2), fun z => (by rw [z, x0'] at b2; cases b2), fun z => (by rw [z, y0'] at b2; cases b2)⟩
  have ne21 : h2 ≠ h1 ∧ h2 ≠ g1 ∧ g2 ≠ h1 ∧ g2 ≠ g1 := ⟨fun z => (by rw [z, x1] at a2; cases a2), fun z => (by rw [z, y1] at a2; cases a2), fun z => (by rw [z, x1] at b2; cases b2), fun z => (by rw [z, y1] at b2; cases b2)⟩
  have x0'' : f6 h0 = some (wh g0 0 0) := by rw [p2 _ (Ne.symm n0.1), o2 _ (Ne.symm ne20.1) (Ne.symm ne20.2.2.1)]; exact x0'
  have y0'' : f6 g0 = some (mw_ar (kA 0) 104 (fun _ => 0)) := by rw [p2 _ (Ne.symm n0.2), o2 _ (Ne.symm ne20.2.1) (Ne.symm ne20.2.2.2)]; exact y0'
  have x1' : f6 h1 = some (wh g1 0 0) := by rw [p2 _ (Ne.symm n1.1), o2 _ (Ne.symm ne21.1) (Ne.symm ne21.2.2.1)]; exact x1
  have y1' : f6 g1 = some (mw_ar (kA 0) 104 (fun _ => 0)) := by rw [p2 _ (Ne.symm n1.2), o2 _ (Ne.symm ne21.2.1) (Ne.symm ne21.2.2.2)]; exact y1
  have x2 : f6 h2 = some (wh g2 0 0) := by rw [p2 _ (Ne.symm n2.1)]; exact d2
  have y2 : f6 g2 = some (mw_ar (kA 0) 104 (fun _ => 0)) := by rw [p2 _ (Ne.symm n2.2)]; exact e2
  have z1 : f0 h1 = none := by rw [← o0 _ ne10.1 ne10.2.1, ← p0 _ (Ne.symm n1.1)]; exact a1
  have z1g : f0 g1 = none := by rw [← o0 _ ne10.2.2.1 ne10.2.2.2, ← p0 _ (Ne.symm n1.2)]; exact b1
  have z2 : f0 h2 = none := by rw [← o0 _ ne20.1 ne20.2.1, ← p0 _ (Ne.symm n2.1), ← o1 _ ne21.1 ne21.2.1, ← p1 _ (Ne.symm n2.1)]; exact a2
  have z2g : f0 g2 = none := by rw [← o0 _ ne20.2.2.1 ne20.2.2.2, ← p0 _ (Ne.symm n2.2), ← o1 _ ne21.2.2.1 ne21.2.2.2, ← p1 _ (Ne.symm n2.2)]; exact b2
  refine ⟨fun i hi => ?_, fun i j hi hj hij => ?_, fun k hk h => ?_⟩
  · rcases (show i = 0 ∨ i = 1 ∨ i = 2 by omega) with rfl | rfl | rfl
    · exact ⟨x0'', y0'', a0, b0⟩
    · exact ⟨x1', y1', z1, z1g⟩
    · exact ⟨x2, y2, z2, z2g⟩
  · rcases (show i = 0 ∨ i = 1 ∨ i = 2 by omega) with rfl | rfl | rfl <;> rcases (show j = 0 ∨ j = 1 ∨ j = 2 by omega) with rfl | rfl | rfl
    · exact absurd rfl hij
    · exact ⟨Ne.symm ne10.1, Ne.symm ne10.2.2.2⟩
    · exact ⟨Ne.symm ne20.1, Ne.symm ne20.2.2.2⟩
    · exact ⟨ne10.1, ne10.2.2.2⟩
    · exact absurd rfl hij
    · exact ⟨Ne.symm ne21.1, Ne.symm ne21.2.2.2⟩
    · exact ⟨ne20.1, ne20.2.2.2⟩
    · exact ⟨ne21.1, ne21.2.2.2⟩
    · exact absurd rfl hij
  · have k0 := h 0 (by decide)
    have k1 := h 1 (by decide)
    have k2 := h 2 (by decide)
    have k0 : k ≠ h0 ∧ k ≠ g0 := k0
    have k1 : k ≠ h1 ∧ k ≠ g1 := k1
    have k2 : k ≠ h2 ∧ k ≠ g2 := k2
    rw [p2 k hk, o2 k k2.1 k2.2, p1 k hk, o1 k k1.1 k1.2, p0 k hk, o0 k k0.1 k0.2]
