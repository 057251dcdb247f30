section BITS3
variable {p : Program} {l : Launch} {e : Env} {R : Room} {s : State} {m : MethodId} {args : Array Value} {below : List Frame} {meth : Method} {c : Code} {H : Heap} {locs : List Loc} {cells slots : Nat} {Q : State → Prop}
variable {cc : ByteArray} {nL : Nat} {own : String} {Ts : List Cond} {pc : Nat} {ls : Array Slot} {rest : List Value} {D : va_G} {cl : List vw_C} {tys : List (ClassId × FieldType)}
theorem mv_andne2 {x y : Int} (X k : Nat) (hX : x = (X : Int)) (B : mw_C p s m args meth c cc nL own Ts D cl tys) {off : Int} {tgt : Nat} (hdg1 : decode cc pc = .ok (.iand, 1)) (hdg : decode cc (pc + 1) = .ok (.ifCond .ne off, 3)) (ht : ((pc + 1 : Nat) : Int) + off = (tgt : Int)) (hx : X ≤ 2147483647) (hk : k ≤ 30) (hy : y = ((2 ^ k : Nat) : Int)) (kt : ¬ X / 2 ^ k % 2 = 0 → W p l e R s m args below meth c H locs cells slots Q (F0 m tgt ls rest)) (kf : X / 2 ^ k % 2 = 0 → W p l e R s m args below meth c H locs cells slots Q (F0 m (pc + 4) ls rest)) : W p l e R s m args below meth c H locs cells slots Q (F0 m pc ls (.int (iI y) :: .int (iI x) :: rest)) := by
  rw [hX]
  exact mv_andne k B hdg1 hdg ht hx hk hy kt kf
end BITS3
