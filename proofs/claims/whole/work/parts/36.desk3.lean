/-! the pair on the desk -/
theorem swp_rp {cI : ClassId} {f : mw_M} {p1 r1 p2 r2 mo rmo fe rfe un run : Nat} {z1 z2 : Int} (h : swp p1 r1 p2 r2 mo rmo fe rfe) (h1 : Rp cI f p1 r1 z1) (h2 : Rp cI f p2 r2 z2) (n1 : p1 ≠ p2) (n2 : r1 ≠ r2) (n3 : un ≠ p1) (n4 : un ≠ p2) (n5 : run ≠ r1) (n6 : run ≠ r2) : (∃ v, Rp cI f mo rmo v) ∧ (∃ v, Rp cI f fe rfe v) ∧ mo ≠ fe ∧ rmo ≠ rfe ∧ un ≠ mo ∧ un ≠ fe ∧ run ≠ rmo ∧ run ≠ rfe := by
  have k := h.ne n1 n2 n3 n4 n5 n6
  rcases h with ⟨rfl, rfl, rfl, rfl⟩ | ⟨rfl, rfl, rfl, rfl⟩
  · exact ⟨⟨_, h1⟩, ⟨_, h2⟩, k⟩
  · exact ⟨⟨_, h2⟩, ⟨_, h1⟩, k⟩
theorem swp_ne {p1 r1 p2 r2 mo rmo fe rfe x rx : Nat} (h : swp p1 r1 p2 r2 mo rmo fe rfe) (n1 : x ≠ p1) (n2 : x ≠ p2) (n3 : rx ≠ r1) (n4 : rx ≠ r2) : x ≠ mo ∧ x ≠ fe ∧ rx ≠ rmo ∧ rx ≠ rfe := by
  rcases h with ⟨rfl, rfl, rfl, rfl⟩ | ⟨rfl, rfl, rfl, rfl⟩
  · exact ⟨n1, n2, n3, n4⟩
  · exact ⟨n2, n1, n4, n3⟩
theorem swp_tr {p1 r1 p2 r2 mo rmo fe rfe mo' rmo' fe' rfe' : Nat} (h : swp p1 r1 p2 r2 mo rmo fe rfe) (h2 : swp mo rmo fe rfe mo' rmo' fe' rfe') : swp p1 r1 p2 r2 mo' rmo' fe' rfe' := by
  rcases h with ⟨rfl, rfl, rfl, rfl⟩ | ⟨rfl, rfl, rfl, rfl⟩ <;> rcases h2 with ⟨rfl, rfl, rfl, rfl⟩ | ⟨rfl, rfl, rfl, rfl⟩
  · exact Or.inl ⟨rfl, rfl, rfl, rfl⟩
  · exact Or.inr ⟨rfl, rfl, rfl, rfl⟩
  · exact Or.inr ⟨rfl, rfl, rfl, rfl⟩
  · exact Or.inl ⟨rfl, rfl, rfl, rfl⟩
/-- behind commonDivisor: the desk as it was, but for the pair; its answer is number u1 -/
theorem DK.cd {kA : Nat → ClassId} {f f1 : mw_M} {d sl pa : Nat} {w ra : Nat → Nat} {Y : Nat → Int} {mo rmo fe rfe r : Nat} {G : Int} (h : DK kA f d sl pa w ra Y) (hsw : swp (w 22) (ra 22) (w 23) (ra 23) mo rmo fe rfe)
    (hp : ∃ mo' rmo' fe' rfe' a b c e, swp mo rmo fe rfe mo' rmo' fe' rfe' ∧ r = mo' ∧ f1 pa = some (prc (w 21) mo' fe' a b c e) ∧ Rp (kA 0) f1 mo' rmo' G ∧ (∃ v, Rp (kA 0) f1 fe' rfe' v) ∧ (∃ v, Rp (kA 0) f1 (w 21) (ra 21) v) ∧ ∀ k, ¬ pk_ pa (w 21) (ra 21) mo rmo fe rfe k → f1 k = f k) :
    ∃ (u1 : Nat) (Y1 : Nat → Int), (u1 = 22 ∨ u1 = 23) ∧ r = w u1 ∧ DK kA f1 d sl pa w ra Y1 ∧ Y1 u1 = G ∧ (∀ i, i < 21 → Y1 i = Y i) ∧ ∀ k, ¬ dks d sl pa w ra k → f1 k = f k := by
  obtain ⟨mo', rmo', fe', rfe', a, b, c, e, hs2, hr, hq, hm, ⟨vf, hf⟩, ⟨vu, hu⟩, ho⟩ := hp
  have hs := swp_tr hsw hs2
  obtain ⟨h1, ⟨gs, h2, h3⟩, ⟨mo0, rmo0, fe0, rfe0, a0, b0, c0, e0, h4, h5⟩, h6, h7⟩ := h
  have hall : ∀ k, (k ≠ pa ∧ k ≠ w 21 ∧ k ≠ ra 21 ∧ k ≠ w 22 ∧ k ≠ ra 22 ∧ k ≠ w 23 ∧ k ≠ ra 23) → f1 k = f k := fun k hk => ho k (fun q => by
    unfold pk_ at q
    rcases hsw with ⟨rfl, rfl, rfl, rfl⟩ | ⟨rfl, rfl, rfl, rfl⟩
    · rcases q with q | q | q | q | q | q | q
      · exact hk.1 q
      · exact hk.2.1 q
      · exact hk.2.2.1 q
      · exact hk.2.2.2.1 q
      · exact hk.2.2.2.2.1 q
      · exact hk.2.2.2.2.2.1 q
      · exact hk.2.2.2.2.2.2 q
    · rcases q with q | q | q | q | q | q | q
      · exact hk.1 q
      · exact hk.2.1 q
      · exact hk.2.2.1 q
      · exact hk.2.2.2.2.2.1 q
      · exact hk.2.2.2.2.2.2 q
      · exact hk.2.2.2.1 q
      · exact hk.2.2.2.2.1 q)
  have kd : ∀ i, i < 24 → d ≠ w i ∧ d ≠ ra i := fun i hi => by
    obtain ⟨g, n, b', q1, q2, -⟩ := h6 i hi
    exact ⟨fun q => (by rw [← q, h1] at q1; simp [ciW] at q1), fun q => (by rw [← q, h1] at q2; cases q2)⟩
  have ks : ∀ i, i < 24 → sl ≠ w i ∧ sl ≠ ra i := fun i hi => by
    obtain ⟨g, n, b', q1, q2, -⟩ := h6 i hi
    exact ⟨fun q => (by rw [← q, h2] at q1; cases q1), fun q => (by rw [← q, h2] at q2; simp at q2)⟩
  have kp : ∀ i, i < 24 → w i ≠ pa ∧ ra i ≠ pa := fun i hi => by
    obtain ⟨g, n, b', q1, q2, -⟩ := h6 i hi
    exact ⟨prc_ne h5 q1, prc_neA h5 q2⟩
  have kwr : ∀ i j, i < 24 → j < 24 → w i ≠ ra j := fun i j hi hj => by
    obtain ⟨g, n, b', q1, q2, -⟩ := h6 i hi
    obtain ⟨g', n', b'', q3, q4, -⟩ := h6 j hj
    exact wh_ne q1 q4
  have dpa : d ≠ pa := fun q => by rw [q, h5] at h1; simp at h1
  have spa : sl ≠ pa := fun q => by rw [q, h5] at h2; cases h2
  have hlow : ∀ i, i < 21 → Rp (kA 0) f1 (w i) (ra i) (Y i) := fun i hi => by
    obtain ⟨g, n, b', q1, q2, q3⟩ := h6 i (by omega)
    have n1 := h7 i 21 (by omega) (by omega) (by omega)
    have n2 := h7 i 22 (by omega) (by omega) (by omega)
    have n3 := h7 i 23 (by omega) (by omega) (by omega)
    exact ⟨g, n, b', by rw [hall (w i) ⟨(kp i (by omega)).1, n1.1, kwr i 21 (by omega) (by omega), n2.1, kwr i 22 (by omega) (by omega), n3.1, kwr i 23 (by omega) (by omega)⟩]; exact q1, by rw [hall (ra i) ⟨(kp i (by omega)).2, Ne.symm (kwr 21 i (by omega) (by omega)), n1.2, Ne.symm (kwr 22 i (by omega) (by omega)), n2.2, Ne.symm (kwr 23 i (by omega) (by omega)), n3.2⟩]; exact q2, q3⟩
  have hd1 : f1 d = some (dkc sl (w 16) (w 17) (w 18) (w 19) (w 20) pa) := by rw [hall d ⟨dpa, (kd 21 (by omega)).1, (kd 21 (by omega)).2, (kd 22 (by omega)).1, (kd 22 (by omega)).2, (kd 23 (by omega)).1, (kd 23 (by omega)).2⟩]; exact h1
  have hs1 : f1 sl = some (mw_qr (kA 1) 16 gs) := by rw [hall sl ⟨spa, (ks 21 (by omega)).1, (ks 21 (by omega)).2, (ks 22 (by omega)).1, (ks 22 (by omega)).2, (ks 23 (by omega)).1, (ks 23 (by omega)).2⟩]; exact h2
  have hoff : ∀ k, ¬ dks d sl pa w ra k → f1 k = f k := fun k hk => hall k ⟨fun q => hk (Or.inr (Or.inr (Or.inl q))), (dks_w hk (show 21 < 24 by omega)).1, (dks_w hk (show 21 < 24 by omega)).2, (dks_w hk (show 22 < 24 by omega)).1, (dks_w hk (show 22 < 24 by omega)).2, (dks_w hk (show 23 < 24 by omega)).1, (dks_w hk (show 23 < 24 by omega)).2⟩
  rcases hs with ⟨rfl, rfl, rfl, rfl⟩ | ⟨rfl, rfl, rfl, rfl⟩
  · refine ⟨22, fun i => if i < 21 then Y i else if i = 21 then vu else if i = 22 then G else vf, Or.inl rfl, hr, ⟨hd1, ⟨gs, hs1, h3⟩, ⟨_, _, _, _, a, b, c, e, Or.inl ⟨rfl, rfl, rfl, rfl⟩, hq⟩, fun i hi => ?_, h7⟩, by simp, fun i hi => by simp [hi], hoff⟩
    rcases Nat.lt_or_ge i 21 with q | q
    · simp only [q, if_true]; exact hlow i q
    · rcases (show i = 21 ∨ i = 22 ∨ i = 23 by omega) with rfl | rfl | rfl
      · exact hu
      · exact hm
      · exact hf
  · refine ⟨23, fun i => if i < 21 then Y i else if i = 21 then vu else if i = 22 then vf else G, Or.inr rfl, hr, ⟨hd1, ⟨gs, hs1, h3⟩, ⟨_, _, _, _, a, b, c, e, Or.inr ⟨rfl, rfl, rfl, rfl⟩, hq⟩, fun i hi => ?_, h7⟩, by simp, fun i hi => by simp [hi], hoff⟩
    rcases Nat.lt_or_ge i 21 with q | q
    · simp only [q, if_true]; exact hlow i q
    · rcases (show i = 21 ∨ i = 22 ∨ i = 23 by omega) with rfl | rfl | rfl
      · exact hu
      · exact hf
      · exact hm
