theorem kp_24 {Y : Nat → Int} {x z c : Int} (hx : sOk x) (h : Y 24 = c) : (kp Y x z).2 24 = c := by
  by_cases q : (z.natAbs : Int) < 1000000 ^ 50
  · rw [kp_y q]
    show upI Y x.toNat z 24 = c
    rw [upI_ne _ _ (by have := hx.2; omega)]
    exact h
  · rw [kp_n q]; exact h
theorem b140 : (1000000 : Int) ^ 100 < 65536 ^ 140 ∧ (1000000 : Int) ^ 100 + 1000000 ^ 100 < 65536 ^ 140 ∧ (1000000 : Int) ^ 50 + 1000000 ^ 50 < 65536 ^ 140 := by decide
theorem mul140 {a b : Int} (ha : (a.natAbs : Int) < 1000000 ^ 50) (hb : (b.natAbs : Int) < 1000000 ^ 50) : ((a * b).natAbs : Int) < 65536 ^ 140 := Int.lt_trans (mulbd ha hb) b140.1
theorem add140 {a b : Int} (ha : (a.natAbs : Int) < 1000000 ^ 100) (hb : (b.natAbs : Int) < 1000000 ^ 100) : (a.natAbs : Int) + (b.natAbs : Int) < 65536 ^ 140 := Int.lt_trans (Int.add_lt_add ha hb) b140.2.1
theorem t50_100 {a : Int} (h : (a.natAbs : Int) < 1000000 ^ 50) : (a.natAbs : Int) < 1000000 ^ 100 := Int.lt_trans h b50.1
theorem c3_neg (x y : Int) : c3 y x = - c3 x y := by
  rcases Int.lt_trichotomy x y with q | q | q
  · rw [c3_lt q, c3_gt q]; rfl
  · rw [c3_eq q, c3_eq q.symm]; rfl
  · rw [c3_gt q, c3_lt q]
theorem c3_n0 {z : Int} : c3 z 0 = 0 ↔ z = 0 := (c3_in z 0).2.2.2.1
theorem rt_sg {x y b d : Int} (hb : b ≠ 0) (hd : d ≠ 0) : 1 + c3 x y * c3 b 0 * c3 d 0 = (if (b < 0) = (d < 0) then 1 + c3 x y else 1 + c3 y x) := by
  rcases c3_sg b with ⟨e1, h1⟩ | ⟨e1, h1⟩ | ⟨e1, h1⟩ <;> rcases c3_sg d with ⟨e2, h2⟩ | ⟨e2, h2⟩ | ⟨e2, h2⟩
  · rw [e1, e2, if_pos (propext ⟨fun _ => h2, fun _ => h1⟩)]; omega
  · exact absurd h2 hd
  · rw [e1, e2, if_neg (fun q => absurd (q.mp h1) (by omega)), c3_neg x y]; omega
  · exact absurd h1 hb
  · exact absurd h1 hb
  · exact absurd h1 hb
  · rw [e1, e2, if_neg (fun q => absurd (q.mpr h2) (by omega)), c3_neg x y]; omega
  · exact absurd h2 hd
  · rw [e1, e2, if_pos (propext ⟨fun q => absurd q (by omega), fun q => absurd q (by omega)⟩)]; omega
