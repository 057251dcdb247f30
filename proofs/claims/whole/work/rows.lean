section
-- ===== PART A: goes FIRST, ahead of the names: the tables' words, and 'selects' of the private methods out of them =====
/-- a private method of a class that the tables say can be made, by its rows of tables_1 -/
def lw_okq (q : MethodName × Nat) : Prop := (q.1.cls ≠ "java/lang/invoke/MethodHandle" ∧ q.1.cls ≠ "java/lang/invoke/VarHandle") ∧ Cond.instantiable q.1.cls q.2 ∈ tables_1 ∧ Cond.privateMethod q.1 ∈ tables_1 ∧ Cond.instanceMethod q.1 ∈ tables_1
theorem lw_p0 : lw_okq (⟨"BigDesk$Whole", "addParts", "(LBigDesk$Whole;LBigDesk$Whole;)V"⟩, 3) := ⟨⟨by decide +kernel, by decide +kernel⟩, List.mem_of_getElem? (i := 18) (by decide +kernel), List.mem_of_getElem? (i := 133) (by decide +kernel), List.mem_of_getElem? (i := 134) (by decide +kernel)⟩
theorem lw_p1 : lw_okq (⟨"BigDesk$Whole", "subtractParts", "(LBigDesk$Whole;LBigDesk$Whole;)V"⟩, 3) := ⟨⟨by decide +kernel, by decide +kernel⟩, List.mem_of_getElem? (i := 18) (by decide +kernel), List.mem_of_getElem? (i := 142) (by decide +kernel), List.mem_of_getElem? (i := 143) (by decide +kernel)⟩
theorem lw_p2 : lw_okq (⟨"BigDesk", "keep", "(LBigDesk$Whole;I)I"⟩, 7) := ⟨⟨by decide +kernel, by decide +kernel⟩, List.mem_of_getElem? (i := 9) (by decide +kernel), List.mem_of_getElem? (i := 146) (by decide +kernel), List.mem_of_getElem? (i := 147) (by decide +kernel)⟩
theorem lw_p3 : lw_okq (⟨"BigDesk", "addOrTakeAway", "(IIIZ)I"⟩, 7) := ⟨⟨by decide +kernel, by decide +kernel⟩, List.mem_of_getElem? (i := 9) (by decide +kernel), List.mem_of_getElem? (i := 172) (by decide +kernel), List.mem_of_getElem? (i := 173) (by decide +kernel)⟩
theorem lw_p4 : lw_okq (⟨"BigDesk", "divideSlots", "(II)Z"⟩, 7) := ⟨⟨by decide +kernel, by decide +kernel⟩, List.mem_of_getElem? (i := 9) (by decide +kernel), List.mem_of_getElem? (i := 188) (by decide +kernel), List.mem_of_getElem? (i := 189) (by decide +kernel)⟩
theorem lw_p5 : lw_okq (⟨"BigDesk$Whole", "leadOfTwo", "()J"⟩, 3) := ⟨⟨by decide +kernel, by decide +kernel⟩, List.mem_of_getElem? (i := 18) (by decide +kernel), List.mem_of_getElem? (i := 200) (by decide +kernel), List.mem_of_getElem? (i := 201) (by decide +kernel)⟩
theorem lw_p6 : lw_okq (⟨"BigDesk$Whole", "takeAway", "(LBigDesk$Whole;JI)I"⟩, 3) := ⟨⟨by decide +kernel, by decide +kernel⟩, List.mem_of_getElem? (i := 18) (by decide +kernel), List.mem_of_getElem? (i := 205) (by decide +kernel), List.mem_of_getElem? (i := 206) (by decide +kernel)⟩
theorem lw_p7 : lw_okq (⟨"BigDesk$Whole", "subtractTimes", "(LBigDesk$Whole;II)V"⟩, 3) := ⟨⟨by decide +kernel, by decide +kernel⟩, List.mem_of_getElem? (i := 18) (by decide +kernel), List.mem_of_getElem? (i := 209) (by decide +kernel), List.mem_of_getElem? (i := 210) (by decide +kernel)⟩
theorem lw_p8 : lw_okq (⟨"BigDesk$Whole", "addBack", "(LBigDesk$Whole;I)V"⟩, 3) := ⟨⟨by decide +kernel, by decide +kernel⟩, List.mem_of_getElem? (i := 18) (by decide +kernel), List.mem_of_getElem? (i := 213) (by decide +kernel), List.mem_of_getElem? (i := 214) (by decide +kernel)⟩
theorem lw_p9 : lw_okq (⟨"BigDesk$Pair", "change", "()V"⟩, 7) := ⟨⟨by decide +kernel, by decide +kernel⟩, List.mem_of_getElem? (i := 39) (by decide +kernel), List.mem_of_getElem? (i := 231) (by decide +kernel), List.mem_of_getElem? (i := 232) (by decide +kernel)⟩
theorem lw_p10 : lw_okq (⟨"BigDesk$Pair", "foretellSteps", "()V"⟩, 7) := ⟨⟨by decide +kernel, by decide +kernel⟩, List.mem_of_getElem? (i := 39) (by decide +kernel), List.mem_of_getElem? (i := 236) (by decide +kernel), List.mem_of_getElem? (i := 237) (by decide +kernel)⟩
theorem lw_p11 : lw_okq (⟨"BigDesk$Pair", "leadOfThree", "(LBigDesk$Whole;)J"⟩, 7) := ⟨⟨by decide +kernel, by decide +kernel⟩, List.mem_of_getElem? (i := 39) (by decide +kernel), List.mem_of_getElem? (i := 240) (by decide +kernel), List.mem_of_getElem? (i := 241) (by decide +kernel)⟩
theorem lw_p12 : lw_okq (⟨"BigDesk$Pair", "takeForetoldSteps", "()V"⟩, 7) := ⟨⟨by decide +kernel, by decide +kernel⟩, List.mem_of_getElem? (i := 39) (by decide +kernel), List.mem_of_getElem? (i := 247) (by decide +kernel), List.mem_of_getElem? (i := 248) (by decide +kernel)⟩
theorem lw_p13 : lw_okq (⟨"BigDesk", "squareRoot", "(LBigDesk$Whole;)LBigDesk$Whole;"⟩, 7) := ⟨⟨by decide +kernel, by decide +kernel⟩, List.mem_of_getElem? (i := 9) (by decide +kernel), List.mem_of_getElem? (i := 264) (by decide +kernel), List.mem_of_getElem? (i := 265) (by decide +kernel)⟩
theorem lw_p14 : lw_okq (⟨"BigDesk", "keepLowest", "(II)I"⟩, 7) := ⟨⟨by decide +kernel, by decide +kernel⟩, List.mem_of_getElem? (i := 9) (by decide +kernel), List.mem_of_getElem? (i := 290) (by decide +kernel), List.mem_of_getElem? (i := 291) (by decide +kernel)⟩
theorem lw_p15 : lw_okq (⟨"BigDesk", "areFractions", "(IIII)Z"⟩, 7) := ⟨⟨by decide +kernel, by decide +kernel⟩, List.mem_of_getElem? (i := 9) (by decide +kernel), List.mem_of_getElem? (i := 302) (by decide +kernel), List.mem_of_getElem? (i := 303) (by decide +kernel)⟩
def lw_privs_1 : List (MethodName × Nat) := [(⟨"BigDesk$Whole", "addParts", "(LBigDesk$Whole;LBigDesk$Whole;)V"⟩, 3), (⟨"BigDesk$Whole", "subtractParts", "(LBigDesk$Whole;LBigDesk$Whole;)V"⟩, 3), (⟨"BigDesk", "keep", "(LBigDesk$Whole;I)I"⟩, 7), (⟨"BigDesk", "addOrTakeAway", "(IIIZ)I"⟩, 7), (⟨"BigDesk", "divideSlots", "(II)Z"⟩, 7), (⟨"BigDesk$Whole", "leadOfTwo", "()J"⟩, 3), (⟨"BigDesk$Whole", "takeAway", "(LBigDesk$Whole;JI)I"⟩, 3), (⟨"BigDesk$Whole", "subtractTimes", "(LBigDesk$Whole;II)V"⟩, 3), (⟨"BigDesk$Whole", "addBack", "(LBigDesk$Whole;I)V"⟩, 3), (⟨"BigDesk$Pair", "change", "()V"⟩, 7), (⟨"BigDesk$Pair", "foretellSteps", "()V"⟩, 7), (⟨"BigDesk$Pair", "leadOfThree", "(LBigDesk$Whole;)J"⟩, 7), (⟨"BigDesk$Pair", "takeForetoldSteps", "()V"⟩, 7), (⟨"BigDesk", "squareRoot", "(LBigDesk$Whole;)LBigDesk$Whole;"⟩, 7), (⟨"BigDesk", "keepLowest", "(II)I"⟩, 7), (⟨"BigDesk", "areFractions", "(IIII)Z"⟩, 7)]
theorem lw_r1 : ∀ q ∈ lw_privs_1, lw_okq q := List.forall_mem_cons.mpr ⟨lw_p0, List.forall_mem_cons.mpr ⟨lw_p1, List.forall_mem_cons.mpr ⟨lw_p2, List.forall_mem_cons.mpr ⟨lw_p3, List.forall_mem_cons.mpr ⟨lw_p4, List.forall_mem_cons.mpr ⟨lw_p5, List.forall_mem_cons.mpr ⟨lw_p6, List.forall_mem_cons.mpr ⟨lw_p7, List.forall_mem_cons.mpr ⟨lw_p8, List.forall_mem_cons.mpr ⟨lw_p9, List.forall_mem_cons.mpr ⟨lw_p10, List.forall_mem_cons.mpr ⟨lw_p11, List.forall_mem_cons.mpr ⟨lw_p12, List.forall_mem_cons.mpr ⟨lw_p13, List.forall_mem_cons.mpr ⟨lw_p14, List.forall_mem_cons.mpr ⟨lw_p15, fun _ h => absurd h List.not_mem_nil⟩⟩⟩⟩⟩⟩⟩⟩⟩⟩⟩⟩⟩⟩⟩⟩
theorem lw_p16 : lw_okq (⟨"BigDeskModel", "put", "(IJ)V"⟩, 4) := ⟨⟨by decide +kernel, by decide +kernel⟩, List.mem_of_getElem? (i := 360) (by decide +kernel), List.mem_of_getElem? (i := 366) (by decide +kernel), List.mem_of_getElem? (i := 367) (by decide +kernel)⟩
theorem lw_p17 : lw_okq (⟨"BigDeskModel", "settle", "(II)V"⟩, 4) := ⟨⟨by decide +kernel, by decide +kernel⟩, List.mem_of_getElem? (i := 360) (by decide +kernel), List.mem_of_getElem? (i := 371) (by decide +kernel), List.mem_of_getElem? (i := 372) (by decide +kernel)⟩
theorem lw_p18 : lw_okq (⟨"BigDeskModel", "at", "(II)I"⟩, 4) := ⟨⟨by decide +kernel, by decide +kernel⟩, List.mem_of_getElem? (i := 360) (by decide +kernel), List.mem_of_getElem? (i := 375) (by decide +kernel), List.mem_of_getElem? (i := 376) (by decide +kernel)⟩
theorem lw_p19 : lw_okq (⟨"BigDeskModel", "multiply", "(III)V"⟩, 4) := ⟨⟨by decide +kernel, by decide +kernel⟩, List.mem_of_getElem? (i := 360) (by decide +kernel), List.mem_of_getElem? (i := 380) (by decide +kernel), List.mem_of_getElem? (i := 381) (by decide +kernel)⟩
theorem lw_p20 : lw_okq (⟨"BigDeskModel", "combine", "(IIII)V"⟩, 4) := ⟨⟨by decide +kernel, by decide +kernel⟩, List.mem_of_getElem? (i := 360) (by decide +kernel), List.mem_of_getElem? (i := 410) (by decide +kernel), List.mem_of_getElem? (i := 411) (by decide +kernel)⟩
theorem lw_p21 : lw_okq (⟨"BigDeskModel", "addSizes", "(III)V"⟩, 4) := ⟨⟨by decide +kernel, by decide +kernel⟩, List.mem_of_getElem? (i := 360) (by decide +kernel), List.mem_of_getElem? (i := 414) (by decide +kernel), List.mem_of_getElem? (i := 415) (by decide +kernel)⟩
theorem lw_p22 : lw_okq (⟨"BigDeskModel", "sizes", "(II)I"⟩, 4) := ⟨⟨by decide +kernel, by decide +kernel⟩, List.mem_of_getElem? (i := 360) (by decide +kernel), List.mem_of_getElem? (i := 418) (by decide +kernel), List.mem_of_getElem? (i := 419) (by decide +kernel)⟩
theorem lw_p23 : lw_okq (⟨"BigDeskModel", "takeSizes", "(III)V"⟩, 4) := ⟨⟨by decide +kernel, by decide +kernel⟩, List.mem_of_getElem? (i := 360) (by decide +kernel), List.mem_of_getElem? (i := 422) (by decide +kernel), List.mem_of_getElem? (i := 423) (by decide +kernel)⟩
theorem lw_p24 : lw_okq (⟨"BigDeskModel", "keep", "(II)I"⟩, 4) := ⟨⟨by decide +kernel, by decide +kernel⟩, List.mem_of_getElem? (i := 360) (by decide +kernel), List.mem_of_getElem? (i := 426) (by decide +kernel), List.mem_of_getElem? (i := 427) (by decide +kernel)⟩
theorem lw_p25 : lw_okq (⟨"BigDeskModel", "isLong", "(I)Z"⟩, 4) := ⟨⟨by decide +kernel, by decide +kernel⟩, List.mem_of_getElem? (i := 360) (by decide +kernel), List.mem_of_getElem? (i := 430) (by decide +kernel), List.mem_of_getElem? (i := 431) (by decide +kernel)⟩
theorem lw_p26 : lw_okq (⟨"BigDeskModel", "move", "(II)V"⟩, 4) := ⟨⟨by decide +kernel, by decide +kernel⟩, List.mem_of_getElem? (i := 360) (by decide +kernel), List.mem_of_getElem? (i := 434) (by decide +kernel), List.mem_of_getElem? (i := 435) (by decide +kernel)⟩
theorem lw_p27 : lw_okq (⟨"BigDeskModel", "divide", "(II)V"⟩, 4) := ⟨⟨by decide +kernel, by decide +kernel⟩, List.mem_of_getElem? (i := 360) (by decide +kernel), List.mem_of_getElem? (i := 461) (by decide +kernel), List.mem_of_getElem? (i := 462) (by decide +kernel)⟩
theorem lw_p28 : lw_okq (⟨"BigDeskModel", "bit", "(II)I"⟩, 4) := ⟨⟨by decide +kernel, by decide +kernel⟩, List.mem_of_getElem? (i := 360) (by decide +kernel), List.mem_of_getElem? (i := 465) (by decide +kernel), List.mem_of_getElem? (i := 466) (by decide +kernel)⟩
theorem lw_p29 : lw_okq (⟨"BigDeskModel", "twice", "(II)V"⟩, 4) := ⟨⟨by decide +kernel, by decide +kernel⟩, List.mem_of_getElem? (i := 360) (by decide +kernel), List.mem_of_getElem? (i := 469) (by decide +kernel), List.mem_of_getElem? (i := 470) (by decide +kernel)⟩
theorem lw_p30 : lw_okq (⟨"BigDeskModel", "common", "(II)V"⟩, 4) := ⟨⟨by decide +kernel, by decide +kernel⟩, List.mem_of_getElem? (i := 360) (by decide +kernel), List.mem_of_getElem? (i := 481) (by decide +kernel), List.mem_of_getElem? (i := 482) (by decide +kernel)⟩
theorem lw_p31 : lw_okq (⟨"BigDeskModel", "size", "(II)V"⟩, 4) := ⟨⟨by decide +kernel, by decide +kernel⟩, List.mem_of_getElem? (i := 360) (by decide +kernel), List.mem_of_getElem? (i := 485) (by decide +kernel), List.mem_of_getElem? (i := 486) (by decide +kernel)⟩
def lw_privs_2 : List (MethodName × Nat) := [(⟨"BigDeskModel", "put", "(IJ)V"⟩, 4), (⟨"BigDeskModel", "settle", "(II)V"⟩, 4), (⟨"BigDeskModel", "at", "(II)I"⟩, 4), (⟨"BigDeskModel", "multiply", "(III)V"⟩, 4), (⟨"BigDeskModel", "combine", "(IIII)V"⟩, 4), (⟨"BigDeskModel", "addSizes", "(III)V"⟩, 4), (⟨"BigDeskModel", "sizes", "(II)I"⟩, 4), (⟨"BigDeskModel", "takeSizes", "(III)V"⟩, 4), (⟨"BigDeskModel", "keep", "(II)I"⟩, 4), (⟨"BigDeskModel", "isLong", "(I)Z"⟩, 4), (⟨"BigDeskModel", "move", "(II)V"⟩, 4), (⟨"BigDeskModel", "divide", "(II)V"⟩, 4), (⟨"BigDeskModel", "bit", "(II)I"⟩, 4), (⟨"BigDeskModel", "twice", "(II)V"⟩, 4), (⟨"BigDeskModel", "common", "(II)V"⟩, 4), (⟨"BigDeskModel", "size", "(II)V"⟩, 4)]
theorem lw_r2 : ∀ q ∈ lw_privs_2, lw_okq q := List.forall_mem_cons.mpr ⟨lw_p16, List.forall_mem_cons.mpr ⟨lw_p17, List.forall_mem_cons.mpr ⟨lw_p18, List.forall_mem_cons.mpr ⟨lw_p19, List.forall_mem_cons.mpr ⟨lw_p20, List.forall_mem_cons.mpr ⟨lw_p21, List.forall_mem_cons.mpr ⟨lw_p22, List.forall_mem_cons.mpr ⟨lw_p23, List.forall_mem_cons.mpr ⟨lw_p24, List.forall_mem_cons.mpr ⟨lw_p25, List.forall_mem_cons.mpr ⟨lw_p26, List.forall_mem_cons.mpr ⟨lw_p27, List.forall_mem_cons.mpr ⟨lw_p28, List.forall_mem_cons.mpr ⟨lw_p29, List.forall_mem_cons.mpr ⟨lw_p30, List.forall_mem_cons.mpr ⟨lw_p31, fun _ h => absurd h List.not_mem_nil⟩⟩⟩⟩⟩⟩⟩⟩⟩⟩⟩⟩⟩⟩⟩⟩
theorem lw_p32 : lw_okq (⟨"BigDeskModel", "half", "(I)V"⟩, 4) := ⟨⟨by decide +kernel, by decide +kernel⟩, List.mem_of_getElem? (i := 360) (by decide +kernel), List.mem_of_getElem? (i := 489) (by decide +kernel), List.mem_of_getElem? (i := 490) (by decide +kernel)⟩
theorem lw_p33 : lw_okq (⟨"BigDeskModel", "keepFraction", "(II)I"⟩, 4) := ⟨⟨by decide +kernel, by decide +kernel⟩, List.mem_of_getElem? (i := 360) (by decide +kernel), List.mem_of_getElem? (i := 505) (by decide +kernel), List.mem_of_getElem? (i := 506) (by decide +kernel)⟩
theorem lw_p34 : lw_okq (⟨"BigDeskModel", "compare", "(II)I"⟩, 4) := ⟨⟨by decide +kernel, by decide +kernel⟩, List.mem_of_getElem? (i := 360) (by decide +kernel), List.mem_of_getElem? (i := 517) (by decide +kernel), List.mem_of_getElem? (i := 518) (by decide +kernel)⟩
theorem lw_p35 : lw_okq (⟨"BigDeskModel", "spell", "(I)I"⟩, 4) := ⟨⟨by decide +kernel, by decide +kernel⟩, List.mem_of_getElem? (i := 360) (by decide +kernel), List.mem_of_getElem? (i := 533) (by decide +kernel), List.mem_of_getElem? (i := 534) (by decide +kernel)⟩
def lw_privs_3 : List (MethodName × Nat) := [(⟨"BigDeskModel", "half", "(I)V"⟩, 4), (⟨"BigDeskModel", "keepFraction", "(II)I"⟩, 4), (⟨"BigDeskModel", "compare", "(II)I"⟩, 4), (⟨"BigDeskModel", "spell", "(I)I"⟩, 4)]
theorem lw_r3 : ∀ q ∈ lw_privs_3, lw_okq q := List.forall_mem_cons.mpr ⟨lw_p32, List.forall_mem_cons.mpr ⟨lw_p33, List.forall_mem_cons.mpr ⟨lw_p34, List.forall_mem_cons.mpr ⟨lw_p35, fun _ h => absurd h List.not_mem_nil⟩⟩⟩⟩
def lw_privs : List (MethodName × Nat) := lw_privs_1 ++ (lw_privs_2 ++ (lw_privs_3))
def lw_tbl : List Cond := k2_sels lw_privs ++ tables_1
theorem lw_privs_ok : ∀ q ∈ lw_privs, lw_okq q := by
  show ∀ q ∈ lw_privs_1 ++ (lw_privs_2 ++ (lw_privs_3)), lw_okq q
  exact List.forall_mem_append.mpr ⟨lw_r1, List.forall_mem_append.mpr ⟨lw_r2, lw_r3⟩⟩
end
section
def RX0 : String := "BigDesk$Pair"
def TX0 : u_T := fun k => match k with
  | 0 => ("BigDesk$Pair", "unused", "LBigDesk$Whole;", true)
  | 1 => ("BigDesk$Pair", "more", "LBigDesk$Whole;", false)
  | 2 => ("BigDesk$Pair", "fewer", "LBigDesk$Whole;", false)
  | 3 => ("BigDesk$Pair", "a", "J", false)
  | 4 => ("BigDesk$Pair", "b", "J", false)
  | 5 => ("BigDesk$Pair", "c", "J", false)
  | _ => ("BigDesk$Pair", "d", "J", false)
def tyX0 : Nat → FieldType := fun k => match k with
  | 0 => .object "BigDesk$Whole"
  | 1 => .object "BigDesk$Whole"
  | 2 => .object "BigDesk$Whole"
  | 3 => .long
  | 4 => .long
  | 5 => .long
  | _ => .long
theorem nmX0 : ∀ a, a < 7 → ∀ b, b < 7 → a ≠ b → (TX0 a).2.1 ≠ (TX0 b).2.1 := by decide +kernel
theorem tyX0_ok : ∀ k, k < 7 → parseFieldDescriptor (TX0 k).2.2.1 = some (tyX0 k) := by decide +kernel
def RX1 : String := "BigDesk$Whole"
def TX1 : u_T := fun k => match k with
  | 0 => ("BigDesk$Whole", "parts", "[I", true)
  | 1 => ("BigDesk$Whole", "size", "I", false)
  | _ => ("BigDesk$Whole", "below", "Z", false)
def tyX1 : Nat → FieldType := fun k => match k with
  | 0 => .array .int
  | 1 => .int
  | _ => .boolean
theorem nmX1 : ∀ a, a < 3 → ∀ b, b < 3 → a ≠ b → (TX1 a).2.1 ≠ (TX1 b).2.1 := by decide +kernel
theorem tyX1_ok : ∀ k, k < 3 → parseFieldDescriptor (TX1 k).2.2.1 = some (tyX1 k) := by decide +kernel
def RX2 : String := "BigDesk"
def TX2 : u_T := fun k => match k with
  | 0 => ("BigDesk", "slots", "[LBigDesk$Whole;", true)
  | 1 => ("BigDesk", "upper", "LBigDesk$Whole;", true)
  | 2 => ("BigDesk", "lower", "LBigDesk$Whole;", true)
  | 3 => ("BigDesk", "first", "LBigDesk$Whole;", true)
  | 4 => ("BigDesk", "second", "LBigDesk$Whole;", true)
  | 5 => ("BigDesk", "quotient", "LBigDesk$Whole;", true)
  | _ => ("BigDesk", "pair", "LBigDesk$Pair;", true)
def tyX2 : Nat → FieldType := fun k => match k with
  | 0 => .array (.object "BigDesk$Whole")
  | 1 => .object "BigDesk$Whole"
  | 2 => .object "BigDesk$Whole"
  | 3 => .object "BigDesk$Whole"
  | 4 => .object "BigDesk$Whole"
  | 5 => .object "BigDesk$Whole"
  | _ => .object "BigDesk$Pair"
theorem nmX2 : ∀ a, a < 7 → ∀ b, b < 7 → a ≠ b → (TX2 a).2.1 ≠ (TX2 b).2.1 := by decide +kernel
theorem tyX2_ok : ∀ k, k < 7 → parseFieldDescriptor (TX2 k).2.2.1 = some (tyX2 k) := by decide +kernel
def RX3 : String := "BigDeskModel"
def TX3 : u_T := fun k => match k with
  | 0 => ("BigDeskModel", "limbs", "[I", true)
  | 1 => ("BigDeskModel", "signs", "[I", true)
  | 2 => ("BigDeskModel", "sums", "[J", true)
  | _ => ("BigDeskModel", "digits", "[I", true)
def tyX3 : Nat → FieldType := fun k => match k with
  | 0 => .array .int
  | 1 => .array .int
  | 2 => .array .long
  | _ => .array .int
theorem nmX3 : ∀ a, a < 4 → ∀ b, b < 4 → a ≠ b → (TX3 a).2.1 ≠ (TX3 b).2.1 := by decide +kernel
theorem tyX3_ok : ∀ k, k < 4 → parseFieldDescriptor (TX3 k).2.2.1 = some (tyX3 k) := by decide +kernel
abbrev vwCl : List vw_C := [(RX0, TX0, 7), (RX1, TX1, 3), (RX2, TX2, 7), (RX3, TX3, 4)]
/-- the words that a callee may be handed -/
def gw : List Cond := lw_tbl.filter goodWord
theorem gw_t {w : Cond} (h : w ∈ tables_1) (hg : goodWord w = true) : w ∈ gw := List.mem_filter.mpr ⟨List.mem_append_right _ h, hg⟩
theorem gw_s {w : Cond} (h : w ∈ k2_sels lw_privs) (hg : goodWord w = true) : w ∈ gw := List.mem_filter.mpr ⟨List.mem_append_left _ h, hg⟩
theorem gw_g {w : Cond} (h : w ∈ gw) : w ∈ gw ∧ ((w.onTables && w.keeps) = true ∨ ∃ ty, w = .arrayClass ty) := ⟨h, good_of_word (List.mem_filter.mp h).2⟩
theorem gV {own C : String} {idx maxL : Nat} {y : MethodName} {bytes : ByteArray} {ret : Option FieldType} (h1 : Cond.methodLink own idx y ∈ gw) (h2 : Cond.instanceMethod y ∈ gw) (h3 : Cond.selects C y y ∈ gw) (h4 : Cond.initialized C ∈ gw) (h5 : Cond.code y bytes maxL ret ∈ gw) : GoodIn gw (wsV own idx C y (Cond.code y bytes maxL ret :: gw)) := by
  intro w hw
  simp only [wsV, List.mem_append, List.mem_cons, List.not_mem_nil, or_false] at hw
  rcases hw with (rfl | rfl | rfl | rfl) | rfl | hw
  · exact gw_g h1
  · exact gw_g h2
  · exact gw_g h3
  · exact gw_g h4
  · exact gw_g h5
  · exact gw_g hw
theorem gS {own : String} {idx maxL : Nat} {y : MethodName} {bytes : ByteArray} {ret : Option FieldType} (h1 : Cond.methodLink own idx y ∈ gw) (h2 : Cond.static y ∈ gw) (h4 : Cond.initialized own ∈ gw) (h5 : Cond.code y bytes maxL ret ∈ gw) : GoodIn gw (wsS own idx y (Cond.code y bytes maxL ret :: gw)) := by
  intro w hw
  simp only [wsS, List.mem_append, List.mem_cons, List.not_mem_nil, or_false] at hw
  rcases hw with (rfl | rfl | rfl) | rfl | hw
  · exact gw_g h1
  · exact gw_g h2
  · exact gw_g h4
  · exact gw_g h5
  · exact gw_g hw
theorem gT {own : String} {idx maxL : Nat} {y : MethodName} {bytes : ByteArray} {ret : Option FieldType} (h1 : Cond.methodLink own idx y ∈ gw) (h2 : Cond.static y ∈ gw) (h4 : Cond.initialized y.cls ∈ gw) (h5 : Cond.code y bytes maxL ret ∈ gw) : GoodIn gw (va_wsS own idx y (Cond.code y bytes maxL ret :: gw)) := by
  intro w hw
  simp only [va_wsS, List.mem_append, List.mem_cons, List.not_mem_nil, or_false] at hw
  rcases hw with (rfl | rfl | rfl) | rfl | hw
  · exact gw_g h1
  · exact gw_g h2
  · exact gw_g h4
  · exact gw_g h5
  · exact gw_g hw
theorem gC {y : MethodName} {bytes : ByteArray} {maxL : Nat} {ret : Option FieldType} (h5 : Cond.code y bytes maxL ret ∈ gw) : GoodIn gw (Cond.code y bytes maxL ret :: gw) := by
  intro w hw
  rcases List.mem_cons.mp hw with rfl | hw
  · exact gw_g h5
  · exact gw_g hw
abbrev cX2_init : ByteArray := prog_1_method_1_code
abbrev yX2_init : MethodName := ⟨"BigDesk", "<init>", "()V"⟩
abbrev cXO_init : ByteArray := object_method_1_code
abbrev yXO_init : MethodName := ⟨"java/lang/Object", "<init>", "()V"⟩
abbrev cX1_init : ByteArray := prog_3_method_1_code
abbrev yX1_init : MethodName := ⟨"BigDesk$Whole", "<init>", "()V"⟩
abbrev cX0_init : ByteArray := prog_2_method_1_code
abbrev yX0_init : MethodName := ⟨"BigDesk$Pair", "<init>", "()V"⟩
abbrev cX2_set : ByteArray := prog_1_method_2_code
abbrev yX2_set : MethodName := ⟨"BigDesk", "set", "(IJ)I"⟩
abbrev cX2_isSlot : ByteArray := prog_1_method_22_code
abbrev yX2_isSlot : MethodName := ⟨"BigDesk", "isSlot", "(I)Z"⟩
abbrev cX1_load : ByteArray := prog_3_method_7_code
abbrev yX1_load : MethodName := ⟨"BigDesk$Whole", "load", "(J)V"⟩
abbrev cXM_abs : ByteArray := prog_6_method_61_code
abbrev yXM_abs : MethodName := ⟨"java/lang/Math", "abs", "(J)J"⟩
abbrev cX1_trimTo : ByteArray := prog_3_method_5_code
abbrev yX1_trimTo : MethodName := ⟨"BigDesk$Whole", "trimTo", "(I)V"⟩
abbrev cX2_digit : ByteArray := prog_1_method_3_code
abbrev yX2_digit : MethodName := ⟨"BigDesk", "digit", "(II)I"⟩
abbrev cX1_takeProduct : ByteArray := prog_3_method_12_code
abbrev yX1_takeProduct : MethodName := ⟨"BigDesk$Whole", "takeProduct", "(LBigDesk$Whole;LBigDesk$Whole;)V"⟩
abbrev cXM_min : ByteArray := prog_6_method_69_code
abbrev yXM_min : MethodName := ⟨"java/lang/Math", "min", "(II)I"⟩
abbrev cXM_max : ByteArray := prog_6_method_65_code
abbrev yXM_max : MethodName := ⟨"java/lang/Math", "max", "(II)I"⟩
abbrev cX1_takeSum : ByteArray := prog_3_method_9_code
abbrev yX1_takeSum : MethodName := ⟨"BigDesk$Whole", "takeSum", "(LBigDesk$Whole;LBigDesk$Whole;Z)V"⟩
abbrev cX1_compareParts : ByteArray := prog_3_method_14_code
abbrev yX1_compareParts : MethodName := ⟨"BigDesk$Whole", "compareParts", "(LBigDesk$Whole;)I"⟩
abbrev cX1_addParts : ByteArray := prog_3_method_10_code
abbrev yX1_addParts : MethodName := ⟨"BigDesk$Whole", "addParts", "(LBigDesk$Whole;LBigDesk$Whole;)V"⟩
abbrev cX1_partOrZero : ByteArray := prog_3_method_6_code
abbrev yX1_partOrZero : MethodName := ⟨"BigDesk$Whole", "partOrZero", "(I)I"⟩
abbrev cX1_subtractParts : ByteArray := prog_3_method_11_code
abbrev yX1_subtractParts : MethodName := ⟨"BigDesk$Whole", "subtractParts", "(LBigDesk$Whole;LBigDesk$Whole;)V"⟩
abbrev cX2_keep : ByteArray := prog_1_method_25_code
abbrev yX2_keep : MethodName := ⟨"BigDesk", "keep", "(LBigDesk$Whole;I)I"⟩
abbrev cX1_isTooLong : ByteArray := prog_3_method_3_code
abbrev yX1_isTooLong : MethodName := ⟨"BigDesk$Whole", "isTooLong", "()Z"⟩
abbrev cX1_take : ByteArray := prog_3_method_8_code
abbrev yX1_take : MethodName := ⟨"BigDesk$Whole", "take", "(LBigDesk$Whole;)V"⟩
abbrev cX2_copy : ByteArray := prog_1_method_4_code
abbrev yX2_copy : MethodName := ⟨"BigDesk", "copy", "(II)I"⟩
abbrev cX2_areSlots : ByteArray := prog_1_method_23_code
abbrev yX2_areSlots : MethodName := ⟨"BigDesk", "areSlots", "(II)Z"⟩
abbrev cX2_sum : ByteArray := prog_1_method_5_code
abbrev yX2_sum : MethodName := ⟨"BigDesk", "sum", "(III)I"⟩
abbrev cX2_addOrTakeAway : ByteArray := prog_1_method_26_code
abbrev yX2_addOrTakeAway : MethodName := ⟨"BigDesk", "addOrTakeAway", "(IIIZ)I"⟩
abbrev cX2_less : ByteArray := prog_1_method_6_code
abbrev yX2_less : MethodName := ⟨"BigDesk", "less", "(III)I"⟩
abbrev cX2_product : ByteArray := prog_1_method_7_code
abbrev yX2_product : MethodName := ⟨"BigDesk", "product", "(III)I"⟩
abbrev cX2_over : ByteArray := prog_1_method_8_code
abbrev yX2_over : MethodName := ⟨"BigDesk", "over", "(III)I"⟩
abbrev cX2_divideSlots : ByteArray := prog_1_method_27_code
abbrev yX2_divideSlots : MethodName := ⟨"BigDesk", "divideSlots", "(II)Z"⟩
abbrev cX1_isZero : ByteArray := prog_3_method_2_code
abbrev yX1_isZero : MethodName := ⟨"BigDesk$Whole", "isZero", "()Z"⟩
abbrev cX1_divideBy : ByteArray := prog_3_method_16_code
abbrev yX1_divideBy : MethodName := ⟨"BigDesk$Whole", "divideBy", "(LBigDesk$Whole;LBigDesk$Whole;)V"⟩
abbrev cX1_leadOfTwo : ByteArray := prog_3_method_17_code
abbrev yX1_leadOfTwo : MethodName := ⟨"BigDesk$Whole", "leadOfTwo", "()J"⟩
abbrev cX1_takeAway : ByteArray := prog_3_method_18_code
abbrev yX1_takeAway : MethodName := ⟨"BigDesk$Whole", "takeAway", "(LBigDesk$Whole;JI)I"⟩
abbrev cX1_subtractTimes : ByteArray := prog_3_method_19_code
abbrev yX1_subtractTimes : MethodName := ⟨"BigDesk$Whole", "subtractTimes", "(LBigDesk$Whole;II)V"⟩
abbrev cX1_addBack : ByteArray := prog_3_method_20_code
abbrev yX1_addBack : MethodName := ⟨"BigDesk$Whole", "addBack", "(LBigDesk$Whole;I)V"⟩
abbrev cX2_left : ByteArray := prog_1_method_9_code
abbrev yX2_left : MethodName := ⟨"BigDesk", "left", "(III)I"⟩
abbrev cX2_divisor : ByteArray := prog_1_method_10_code
abbrev yX2_divisor : MethodName := ⟨"BigDesk", "divisor", "(III)I"⟩
abbrev cX0_commonDivisor : ByteArray := prog_2_method_2_code
abbrev yX0_commonDivisor : MethodName := ⟨"BigDesk$Pair", "commonDivisor", "(LBigDesk$Whole;LBigDesk$Whole;)LBigDesk$Whole;"⟩
abbrev cX0_change : ByteArray := prog_2_method_3_code
abbrev yX0_change : MethodName := ⟨"BigDesk$Pair", "change", "()V"⟩
abbrev cX0_foretellSteps : ByteArray := prog_2_method_4_code
abbrev yX0_foretellSteps : MethodName := ⟨"BigDesk$Pair", "foretellSteps", "()V"⟩
abbrev cX0_leadOfThree : ByteArray := prog_2_method_5_code
abbrev yX0_leadOfThree : MethodName := ⟨"BigDesk$Pair", "leadOfThree", "(LBigDesk$Whole;)J"⟩
abbrev cX0_takeForetoldSteps : ByteArray := prog_2_method_6_code
abbrev yX0_takeForetoldSteps : MethodName := ⟨"BigDesk$Pair", "takeForetoldSteps", "()V"⟩
abbrev cXA_fill : ByteArray := prog_8_method_104_code
abbrev yXA_fill : MethodName := ⟨"java/util/Arrays", "fill", "([IIII)V"⟩
abbrev cXA_rangeCheck : ByteArray := prog_8_method_30_code
abbrev yXA_rangeCheck : MethodName := ⟨"java/util/Arrays", "rangeCheck", "(III)V"⟩
abbrev cX2_root : ByteArray := prog_1_method_11_code
abbrev yX2_root : MethodName := ⟨"BigDesk", "root", "(II)I"⟩
abbrev cX2_squareRoot : ByteArray := prog_1_method_28_code
abbrev yX2_squareRoot : MethodName := ⟨"BigDesk", "squareRoot", "(LBigDesk$Whole;)LBigDesk$Whole;"⟩
abbrev cX1_loadAboveRoot : ByteArray := prog_3_method_21_code
abbrev yX1_loadAboveRoot : MethodName := ⟨"BigDesk$Whole", "loadAboveRoot", "(LBigDesk$Whole;)V"⟩
abbrev cX1_rootOfLong : ByteArray := prog_3_method_22_code
abbrev yX1_rootOfLong : MethodName := ⟨"BigDesk$Whole", "rootOfLong", "(J)J"⟩
abbrev cX1_halve : ByteArray := prog_3_method_13_code
abbrev yX1_halve : MethodName := ⟨"BigDesk$Whole", "halve", "()V"⟩
abbrev cX2_power : ByteArray := prog_1_method_12_code
abbrev yX2_power : MethodName := ⟨"BigDesk", "power", "(III)I"⟩
abbrev cX2_lowest : ByteArray := prog_1_method_13_code
abbrev yX2_lowest : MethodName := ⟨"BigDesk", "lowest", "(II)I"⟩
abbrev cX2_keepLowest : ByteArray := prog_1_method_29_code
abbrev yX2_keepLowest : MethodName := ⟨"BigDesk", "keepLowest", "(II)I"⟩
abbrev cX1_turnSign : ByteArray := prog_3_method_4_code
abbrev yX1_turnSign : MethodName := ⟨"BigDesk$Whole", "turnSign", "()V"⟩
abbrev cX2_fraction : ByteArray := prog_1_method_14_code
abbrev yX2_fraction : MethodName := ⟨"BigDesk", "fraction", "(IIII)I"⟩
abbrev cX2_areFractions : ByteArray := prog_1_method_24_code
abbrev yX2_areFractions : MethodName := ⟨"BigDesk", "areFractions", "(IIII)Z"⟩
abbrev cX2_order : ByteArray := prog_1_method_15_code
abbrev yX2_order : MethodName := ⟨"BigDesk", "order", "(II)I"⟩
abbrev cX1_compareWhole : ByteArray := prog_3_method_15_code
abbrev yX1_compareWhole : MethodName := ⟨"BigDesk$Whole", "compareWhole", "(LBigDesk$Whole;)I"⟩
abbrev cX2_ratio : ByteArray := prog_1_method_16_code
abbrev yX2_ratio : MethodName := ⟨"BigDesk", "ratio", "(IIII)I"⟩
abbrev cX2_sign : ByteArray := prog_1_method_17_code
abbrev yX2_sign : MethodName := ⟨"BigDesk", "sign", "(I)I"⟩
abbrev cX2_digits : ByteArray := prog_1_method_18_code
abbrev yX2_digits : MethodName := ⟨"BigDesk", "digits", "(I)I"⟩
abbrev cX1_countDigits : ByteArray := prog_3_method_23_code
abbrev yX1_countDigits : MethodName := ⟨"BigDesk$Whole", "countDigits", "()I"⟩
abbrev cX2_digitAt : ByteArray := prog_1_method_19_code
abbrev yX2_digitAt : MethodName := ⟨"BigDesk", "digitAt", "(II)I"⟩
abbrev cX1_digitOfPlace : ByteArray := prog_3_method_24_code
abbrev yX1_digitOfPlace : MethodName := ⟨"BigDesk$Whole", "digitOfPlace", "(I)I"⟩
abbrev cX2_modulo : ByteArray := prog_1_method_20_code
abbrev yX2_modulo : MethodName := ⟨"BigDesk", "modulo", "(IJ)J"⟩
abbrev cX1_remainder : ByteArray := prog_3_method_25_code
abbrev yX1_remainder : MethodName := ⟨"BigDesk$Whole", "remainder", "(J)J"⟩
abbrev cX2_low : ByteArray := prog_1_method_21_code
abbrev yX2_low : MethodName := ⟨"BigDesk", "low", "(I)J"⟩
abbrev cX1_lowBits : ByteArray := prog_3_method_26_code
abbrev yX1_lowBits : MethodName := ⟨"BigDesk$Whole", "lowBits", "()J"⟩
abbrev cX3_init : ByteArray := prog_5_method_1_code
abbrev yX3_init : MethodName := ⟨"BigDeskModel", "<init>", "()V"⟩
abbrev cX3_put : ByteArray := prog_5_method_4_code
abbrev yX3_put : MethodName := ⟨"BigDeskModel", "put", "(IJ)V"⟩
abbrev cX3_settle : ByteArray := prog_5_method_3_code
abbrev yX3_settle : MethodName := ⟨"BigDeskModel", "settle", "(II)V"⟩
abbrev cX3_at : ByteArray := prog_5_method_2_code
abbrev yX3_at : MethodName := ⟨"BigDeskModel", "at", "(II)I"⟩
abbrev cX3_multiply : ByteArray := prog_5_method_11_code
abbrev yX3_multiply : MethodName := ⟨"BigDeskModel", "multiply", "(III)V"⟩
abbrev cX3_set : ByteArray := prog_5_method_22_code
abbrev yX3_set : MethodName := ⟨"BigDeskModel", "set", "(IJ)I"⟩
abbrev cX3_isSlot : ByteArray := prog_5_method_18_code
abbrev yX3_isSlot : MethodName := ⟨"BigDeskModel", "isSlot", "(I)Z"⟩
abbrev cX3_digit : ByteArray := prog_5_method_23_code
abbrev yX3_digit : MethodName := ⟨"BigDeskModel", "digit", "(II)I"⟩
abbrev cX3_combine : ByteArray := prog_5_method_10_code
abbrev yX3_combine : MethodName := ⟨"BigDeskModel", "combine", "(IIII)V"⟩
abbrev cX3_addSizes : ByteArray := prog_5_method_8_code
abbrev yX3_addSizes : MethodName := ⟨"BigDeskModel", "addSizes", "(III)V"⟩
abbrev cX3_sizes : ByteArray := prog_5_method_6_code
abbrev yX3_sizes : MethodName := ⟨"BigDeskModel", "sizes", "(II)I"⟩
abbrev cX3_takeSizes : ByteArray := prog_5_method_9_code
abbrev yX3_takeSizes : MethodName := ⟨"BigDeskModel", "takeSizes", "(III)V"⟩
abbrev cX3_keep : ByteArray := prog_5_method_21_code
abbrev yX3_keep : MethodName := ⟨"BigDeskModel", "keep", "(II)I"⟩
abbrev cX3_isLong : ByteArray := prog_5_method_20_code
abbrev yX3_isLong : MethodName := ⟨"BigDeskModel", "isLong", "(I)Z"⟩
abbrev cX3_move : ByteArray := prog_5_method_5_code
abbrev yX3_move : MethodName := ⟨"BigDeskModel", "move", "(II)V"⟩
abbrev cX3_copy : ByteArray := prog_5_method_24_code
abbrev yX3_copy : MethodName := ⟨"BigDeskModel", "copy", "(II)I"⟩
abbrev cX3_sum : ByteArray := prog_5_method_25_code
abbrev yX3_sum : MethodName := ⟨"BigDeskModel", "sum", "(III)I"⟩
abbrev cX3_are : ByteArray := prog_5_method_19_code
abbrev yX3_are : MethodName := ⟨"BigDeskModel", "are", "(III)Z"⟩
abbrev cX3_less : ByteArray := prog_5_method_26_code
abbrev yX3_less : MethodName := ⟨"BigDeskModel", "less", "(III)I"⟩
abbrev cX3_product : ByteArray := prog_5_method_27_code
abbrev yX3_product : MethodName := ⟨"BigDeskModel", "product", "(III)I"⟩
abbrev cX3_over : ByteArray := prog_5_method_28_code
abbrev yX3_over : MethodName := ⟨"BigDeskModel", "over", "(III)I"⟩
abbrev cX3_divide : ByteArray := prog_5_method_15_code
abbrev yX3_divide : MethodName := ⟨"BigDeskModel", "divide", "(II)V"⟩
abbrev cX3_bit : ByteArray := prog_5_method_12_code
abbrev yX3_bit : MethodName := ⟨"BigDeskModel", "bit", "(II)I"⟩
abbrev cX3_twice : ByteArray := prog_5_method_14_code
abbrev yX3_twice : MethodName := ⟨"BigDeskModel", "twice", "(II)V"⟩
abbrev cX3_left : ByteArray := prog_5_method_29_code
abbrev yX3_left : MethodName := ⟨"BigDeskModel", "left", "(III)I"⟩
abbrev cX3_divisor : ByteArray := prog_5_method_30_code
abbrev yX3_divisor : MethodName := ⟨"BigDeskModel", "divisor", "(III)I"⟩
abbrev cX3_common : ByteArray := prog_5_method_17_code
abbrev yX3_common : MethodName := ⟨"BigDeskModel", "common", "(II)V"⟩
abbrev cX3_size : ByteArray := prog_5_method_16_code
abbrev yX3_size : MethodName := ⟨"BigDeskModel", "size", "(II)V"⟩
abbrev cX3_half : ByteArray := prog_5_method_13_code
abbrev yX3_half : MethodName := ⟨"BigDeskModel", "half", "(I)V"⟩
abbrev cX3_root : ByteArray := prog_5_method_31_code
abbrev yX3_root : MethodName := ⟨"BigDeskModel", "root", "(II)I"⟩
abbrev cX3_power : ByteArray := prog_5_method_32_code
abbrev yX3_power : MethodName := ⟨"BigDeskModel", "power", "(III)I"⟩
abbrev cX3_lowest : ByteArray := prog_5_method_34_code
abbrev yX3_lowest : MethodName := ⟨"BigDeskModel", "lowest", "(II)I"⟩
abbrev cX3_keepFraction : ByteArray := prog_5_method_33_code
abbrev yX3_keepFraction : MethodName := ⟨"BigDeskModel", "keepFraction", "(II)I"⟩
abbrev cX3_fraction : ByteArray := prog_5_method_35_code
abbrev yX3_fraction : MethodName := ⟨"BigDeskModel", "fraction", "(IIII)I"⟩
abbrev cX3_order : ByteArray := prog_5_method_36_code
abbrev yX3_order : MethodName := ⟨"BigDeskModel", "order", "(II)I"⟩
abbrev cX3_compare : ByteArray := prog_5_method_7_code
abbrev yX3_compare : MethodName := ⟨"BigDeskModel", "compare", "(II)I"⟩
abbrev cX3_ratio : ByteArray := prog_5_method_37_code
abbrev yX3_ratio : MethodName := ⟨"BigDeskModel", "ratio", "(IIII)I"⟩
abbrev cX3_sign : ByteArray := prog_5_method_38_code
abbrev yX3_sign : MethodName := ⟨"BigDeskModel", "sign", "(I)I"⟩
abbrev cX3_digits : ByteArray := prog_5_method_40_code
abbrev yX3_digits : MethodName := ⟨"BigDeskModel", "digits", "(I)I"⟩
abbrev cX3_spell : ByteArray := prog_5_method_39_code
abbrev yX3_spell : MethodName := ⟨"BigDeskModel", "spell", "(I)I"⟩
abbrev cX3_digitAt : ByteArray := prog_5_method_41_code
abbrev yX3_digitAt : MethodName := ⟨"BigDeskModel", "digitAt", "(II)I"⟩
abbrev cX3_modulo : ByteArray := prog_5_method_42_code
abbrev yX3_modulo : MethodName := ⟨"BigDeskModel", "modulo", "(IJ)J"⟩
abbrev cX3_low : ByteArray := prog_5_method_43_code
abbrev yX3_low : MethodName := ⟨"BigDeskModel", "low", "(I)J"⟩
end
section
theorem kw_0 : Cond.initialized "BigDeskLaw" ∈ gw := gw_t (List.mem_of_getElem? (i := 0) (by decide +kernel)) (by decide +kernel)
theorem kw_1 : Cond.initialized "BigDesk" ∈ gw := gw_t (List.mem_of_getElem? (i := 1) (by decide +kernel)) (by decide +kernel)
theorem kw_2 : Cond.initialized "BigDesk$Whole" ∈ gw := gw_t (List.mem_of_getElem? (i := 2) (by decide +kernel)) (by decide +kernel)
theorem kw_3 : Cond.initialized "BigDesk$Pair" ∈ gw := gw_t (List.mem_of_getElem? (i := 3) (by decide +kernel)) (by decide +kernel)
theorem kw_4 : Cond.initialized "BigDeskModel" ∈ gw := gw_t (List.mem_of_getElem? (i := 4) (by decide +kernel)) (by decide +kernel)
theorem kw_5 : Cond.initialized "java/lang/Math" ∈ gw := gw_t (List.mem_of_getElem? (i := 5) (by decide +kernel)) (by decide +kernel)
theorem kw_6 : Cond.initialized "java/lang/System" ∈ gw := gw_t (List.mem_of_getElem? (i := 6) (by decide +kernel)) (by decide +kernel)
theorem kw_7 : Cond.initialized "java/util/Arrays" ∈ gw := gw_t (List.mem_of_getElem? (i := 7) (by decide +kernel)) (by decide +kernel)
theorem kw_8 : Cond.classLink "BigDeskLaw" 7 "BigDesk" ∈ gw := gw_t (List.mem_of_getElem? (i := 8) (by decide +kernel)) (by decide +kernel)
theorem kw_9 : Cond.instantiable "BigDesk" 7 ∈ gw := gw_t (List.mem_of_getElem? (i := 9) (by decide +kernel)) (by decide +kernel)
theorem kw_10 : Cond.methodLink "BigDeskLaw" 9 ⟨"BigDesk", "<init>", "()V"⟩ ∈ gw := gw_t (List.mem_of_getElem? (i := 10) (by decide +kernel)) (by decide +kernel)
theorem kw_11 : Cond.instanceMethod ⟨"BigDesk", "<init>", "()V"⟩ ∈ gw := gw_t (List.mem_of_getElem? (i := 11) (by decide +kernel)) (by decide +kernel)
set_option maxRecDepth 20000 in
theorem kw_12 : Cond.code ⟨"BigDesk", "<init>", "()V"⟩ prog_1_method_1_code 2 none ∈ gw := gw_t (List.mem_of_getElem? (i := 12) rfl) rfl
theorem kw_13 : Cond.methodLink "BigDesk" 1 ⟨"java/lang/Object", "<init>", "()V"⟩ ∈ gw := gw_t (List.mem_of_getElem? (i := 13) (by decide +kernel)) (by decide +kernel)
theorem kw_14 : Cond.instanceMethod ⟨"java/lang/Object", "<init>", "()V"⟩ ∈ gw := gw_t (List.mem_of_getElem? (i := 14) (by decide +kernel)) (by decide +kernel)
set_option maxRecDepth 20000 in
theorem kw_15 : Cond.code ⟨"java/lang/Object", "<init>", "()V"⟩ object_method_1_code 1 none ∈ gw := gw_t (List.mem_of_getElem? (i := 15) rfl) rfl
theorem kw_16 : Cond.classLink "BigDesk" 9 "BigDesk$Whole" ∈ gw := gw_t (List.mem_of_getElem? (i := 16) (by decide +kernel)) (by decide +kernel)
theorem kw_18 : Cond.instantiable "BigDesk$Whole" 3 ∈ gw := gw_t (List.mem_of_getElem? (i := 18) (by decide +kernel)) (by decide +kernel)
theorem kw_19 : Cond.methodLink "BigDesk" 15 ⟨"BigDesk$Whole", "<init>", "()V"⟩ ∈ gw := gw_t (List.mem_of_getElem? (i := 19) (by decide +kernel)) (by decide +kernel)
theorem kw_20 : Cond.instanceMethod ⟨"BigDesk$Whole", "<init>", "()V"⟩ ∈ gw := gw_t (List.mem_of_getElem? (i := 20) (by decide +kernel)) (by decide +kernel)
set_option maxRecDepth 20000 in
theorem kw_21 : Cond.code ⟨"BigDesk$Whole", "<init>", "()V"⟩ prog_3_method_1_code 1 none ∈ gw := gw_t (List.mem_of_getElem? (i := 21) rfl) rfl
theorem kw_22 : Cond.methodLink "BigDesk$Whole" 3 ⟨"java/lang/Object", "<init>", "()V"⟩ ∈ gw := gw_t (List.mem_of_getElem? (i := 22) (by decide +kernel)) (by decide +kernel)
theorem kw_23 : Cond.fieldLink "BigDesk$Whole" 9 "BigDesk$Whole" "parts" "[I" ∈ gw := gw_t (List.mem_of_getElem? (i := 23) (by decide +kernel)) (by decide +kernel)
theorem kw_24 : Cond.fieldLink "BigDesk$Pair" 80 "BigDesk$Whole" "parts" "[I" ∈ gw := gw_t (List.mem_of_getElem? (i := 24) (by decide +kernel)) (by decide +kernel)
theorem kw_25 : Cond.fieldLink "BigDesk$Whole" 15 "BigDesk$Whole" "size" "I" ∈ gw := gw_t (List.mem_of_getElem? (i := 25) (by decide +kernel)) (by decide +kernel)
theorem kw_26 : Cond.fieldLink "BigDesk$Pair" 70 "BigDesk$Whole" "size" "I" ∈ gw := gw_t (List.mem_of_getElem? (i := 26) (by decide +kernel)) (by decide +kernel)
theorem kw_27 : Cond.fieldLink "BigDesk$Whole" 19 "BigDesk$Whole" "below" "Z" ∈ gw := gw_t (List.mem_of_getElem? (i := 27) (by decide +kernel)) (by decide +kernel)
theorem kw_28 : Cond.fieldLink "BigDesk$Pair" 28 "BigDesk$Whole" "below" "Z" ∈ gw := gw_t (List.mem_of_getElem? (i := 28) (by decide +kernel)) (by decide +kernel)
theorem kw_29 : Cond.fieldLink "BigDesk" 76 "BigDesk$Whole" "below" "Z" ∈ gw := gw_t (List.mem_of_getElem? (i := 29) (by decide +kernel)) (by decide +kernel)
theorem kw_30 : Cond.laysFinal "BigDesk$Whole" "BigDesk$Whole" "parts" "[I" ∈ gw := gw_t (List.mem_of_getElem? (i := 30) (by decide +kernel)) (by decide +kernel)
theorem kw_31 : Cond.soleField "BigDesk$Whole" "parts" ∈ gw := gw_t (List.mem_of_getElem? (i := 31) (by decide +kernel)) (by decide +kernel)
theorem kw_32 : Cond.lays "BigDesk$Whole" "BigDesk$Whole" "size" "I" ∈ gw := gw_t (List.mem_of_getElem? (i := 32) (by decide +kernel)) (by decide +kernel)
theorem kw_33 : Cond.soleField "BigDesk$Whole" "size" ∈ gw := gw_t (List.mem_of_getElem? (i := 33) (by decide +kernel)) (by decide +kernel)
theorem kw_34 : Cond.lays "BigDesk$Whole" "BigDesk$Whole" "below" "Z" ∈ gw := gw_t (List.mem_of_getElem? (i := 34) (by decide +kernel)) (by decide +kernel)
theorem kw_35 : Cond.soleField "BigDesk$Whole" "below" ∈ gw := gw_t (List.mem_of_getElem? (i := 35) (by decide +kernel)) (by decide +kernel)
theorem kw_36 : Cond.superclass "BigDesk$Whole" "java/lang/Object" ∈ gw := gw_t (List.mem_of_getElem? (i := 36) (by decide +kernel)) (by decide +kernel)
theorem kw_37 : Cond.arrayClass .int ∈ gw := gw_t (List.mem_of_getElem? (i := 37) (by decide +kernel)) (by decide +kernel)
theorem kw_38 : Cond.classLink "BigDesk" 32 "BigDesk$Pair" ∈ gw := gw_t (List.mem_of_getElem? (i := 38) (by decide +kernel)) (by decide +kernel)
theorem kw_39 : Cond.instantiable "BigDesk$Pair" 7 ∈ gw := gw_t (List.mem_of_getElem? (i := 39) (by decide +kernel)) (by decide +kernel)
theorem kw_40 : Cond.methodLink "BigDesk" 34 ⟨"BigDesk$Pair", "<init>", "()V"⟩ ∈ gw := gw_t (List.mem_of_getElem? (i := 40) (by decide +kernel)) (by decide +kernel)
theorem kw_41 : Cond.instanceMethod ⟨"BigDesk$Pair", "<init>", "()V"⟩ ∈ gw := gw_t (List.mem_of_getElem? (i := 41) (by decide +kernel)) (by decide +kernel)
set_option maxRecDepth 20000 in
theorem kw_42 : Cond.code ⟨"BigDesk$Pair", "<init>", "()V"⟩ prog_2_method_1_code 1 none ∈ gw := gw_t (List.mem_of_getElem? (i := 42) rfl) rfl
theorem kw_43 : Cond.methodLink "BigDesk$Pair" 3 ⟨"java/lang/Object", "<init>", "()V"⟩ ∈ gw := gw_t (List.mem_of_getElem? (i := 43) (by decide +kernel)) (by decide +kernel)
theorem kw_44 : Cond.classLink "BigDesk$Pair" 9 "BigDesk$Whole" ∈ gw := gw_t (List.mem_of_getElem? (i := 44) (by decide +kernel)) (by decide +kernel)
theorem kw_45 : Cond.methodLink "BigDesk$Pair" 11 ⟨"BigDesk$Whole", "<init>", "()V"⟩ ∈ gw := gw_t (List.mem_of_getElem? (i := 45) (by decide +kernel)) (by decide +kernel)
theorem kw_46 : Cond.fieldLink "BigDesk$Pair" 12 "BigDesk$Pair" "unused" "LBigDesk$Whole;" ∈ gw := gw_t (List.mem_of_getElem? (i := 46) (by decide +kernel)) (by decide +kernel)
theorem kw_47 : Cond.fieldLink "BigDesk$Pair" 18 "BigDesk$Pair" "more" "LBigDesk$Whole;" ∈ gw := gw_t (List.mem_of_getElem? (i := 47) (by decide +kernel)) (by decide +kernel)
theorem kw_48 : Cond.fieldLink "BigDesk$Pair" 21 "BigDesk$Pair" "fewer" "LBigDesk$Whole;" ∈ gw := gw_t (List.mem_of_getElem? (i := 48) (by decide +kernel)) (by decide +kernel)
theorem kw_49 : Cond.fieldLink "BigDesk$Pair" 61 "BigDesk$Pair" "a" "J" ∈ gw := gw_t (List.mem_of_getElem? (i := 49) (by decide +kernel)) (by decide +kernel)
theorem kw_50 : Cond.fieldLink "BigDesk$Pair" 46 "BigDesk$Pair" "b" "J" ∈ gw := gw_t (List.mem_of_getElem? (i := 50) (by decide +kernel)) (by decide +kernel)
theorem kw_51 : Cond.fieldLink "BigDesk$Pair" 64 "BigDesk$Pair" "c" "J" ∈ gw := gw_t (List.mem_of_getElem? (i := 51) (by decide +kernel)) (by decide +kernel)
theorem kw_52 : Cond.fieldLink "BigDesk$Pair" 67 "BigDesk$Pair" "d" "J" ∈ gw := gw_t (List.mem_of_getElem? (i := 52) (by decide +kernel)) (by decide +kernel)
theorem kw_53 : Cond.laysFinal "BigDesk$Pair" "BigDesk$Pair" "unused" "LBigDesk$Whole;" ∈ gw := gw_t (List.mem_of_getElem? (i := 53) (by decide +kernel)) (by decide +kernel)
theorem kw_54 : Cond.soleField "BigDesk$Pair" "unused" ∈ gw := gw_t (List.mem_of_getElem? (i := 54) (by decide +kernel)) (by decide +kernel)
theorem kw_55 : Cond.lays "BigDesk$Pair" "BigDesk$Pair" "more" "LBigDesk$Whole;" ∈ gw := gw_t (List.mem_of_getElem? (i := 55) (by decide +kernel)) (by decide +kernel)
theorem kw_56 : Cond.soleField "BigDesk$Pair" "more" ∈ gw := gw_t (List.mem_of_getElem? (i := 56) (by decide +kernel)) (by decide +kernel)
theorem kw_57 : Cond.lays "BigDesk$Pair" "BigDesk$Pair" "fewer" "LBigDesk$Whole;" ∈ gw := gw_t (List.mem_of_getElem? (i := 57) (by decide +kernel)) (by decide +kernel)
theorem kw_58 : Cond.soleField "BigDesk$Pair" "fewer" ∈ gw := gw_t (List.mem_of_getElem? (i := 58) (by decide +kernel)) (by decide +kernel)
theorem kw_59 : Cond.lays "BigDesk$Pair" "BigDesk$Pair" "a" "J" ∈ gw := gw_t (List.mem_of_getElem? (i := 59) (by decide +kernel)) (by decide +kernel)
theorem kw_60 : Cond.soleField "BigDesk$Pair" "a" ∈ gw := gw_t (List.mem_of_getElem? (i := 60) (by decide +kernel)) (by decide +kernel)
theorem kw_61 : Cond.lays "BigDesk$Pair" "BigDesk$Pair" "b" "J" ∈ gw := gw_t (List.mem_of_getElem? (i := 61) (by decide +kernel)) (by decide +kernel)
theorem kw_62 : Cond.soleField "BigDesk$Pair" "b" ∈ gw := gw_t (List.mem_of_getElem? (i := 62) (by decide +kernel)) (by decide +kernel)
theorem kw_63 : Cond.lays "BigDesk$Pair" "BigDesk$Pair" "c" "J" ∈ gw := gw_t (List.mem_of_getElem? (i := 63) (by decide +kernel)) (by decide +kernel)
theorem kw_64 : Cond.soleField "BigDesk$Pair" "c" ∈ gw := gw_t (List.mem_of_getElem? (i := 64) (by decide +kernel)) (by decide +kernel)
theorem kw_65 : Cond.lays "BigDesk$Pair" "BigDesk$Pair" "d" "J" ∈ gw := gw_t (List.mem_of_getElem? (i := 65) (by decide +kernel)) (by decide +kernel)
theorem kw_66 : Cond.soleField "BigDesk$Pair" "d" ∈ gw := gw_t (List.mem_of_getElem? (i := 66) (by decide +kernel)) (by decide +kernel)
theorem kw_67 : Cond.superclass "BigDesk$Pair" "java/lang/Object" ∈ gw := gw_t (List.mem_of_getElem? (i := 67) (by decide +kernel)) (by decide +kernel)
theorem kw_68 : Cond.fieldLink "BigDesk" 11 "BigDesk" "slots" "[LBigDesk$Whole;" ∈ gw := gw_t (List.mem_of_getElem? (i := 68) (by decide +kernel)) (by decide +kernel)
theorem kw_69 : Cond.fieldLink "BigDesk" 16 "BigDesk" "upper" "LBigDesk$Whole;" ∈ gw := gw_t (List.mem_of_getElem? (i := 69) (by decide +kernel)) (by decide +kernel)
theorem kw_70 : Cond.fieldLink "BigDesk" 20 "BigDesk" "lower" "LBigDesk$Whole;" ∈ gw := gw_t (List.mem_of_getElem? (i := 70) (by decide +kernel)) (by decide +kernel)
theorem kw_71 : Cond.fieldLink "BigDesk" 23 "BigDesk" "first" "LBigDesk$Whole;" ∈ gw := gw_t (List.mem_of_getElem? (i := 71) (by decide +kernel)) (by decide +kernel)
theorem kw_72 : Cond.fieldLink "BigDesk" 26 "BigDesk" "second" "LBigDesk$Whole;" ∈ gw := gw_t (List.mem_of_getElem? (i := 72) (by decide +kernel)) (by decide +kernel)
theorem kw_73 : Cond.fieldLink "BigDesk" 29 "BigDesk" "quotient" "LBigDesk$Whole;" ∈ gw := gw_t (List.mem_of_getElem? (i := 73) (by decide +kernel)) (by decide +kernel)
theorem kw_74 : Cond.fieldLink "BigDesk" 35 "BigDesk" "pair" "LBigDesk$Pair;" ∈ gw := gw_t (List.mem_of_getElem? (i := 74) (by decide +kernel)) (by decide +kernel)
theorem kw_75 : Cond.laysFinal "BigDesk" "BigDesk" "slots" "[LBigDesk$Whole;" ∈ gw := gw_t (List.mem_of_getElem? (i := 75) (by decide +kernel)) (by decide +kernel)
theorem kw_76 : Cond.soleField "BigDesk" "slots" ∈ gw := gw_t (List.mem_of_getElem? (i := 76) (by decide +kernel)) (by decide +kernel)
theorem kw_77 : Cond.laysFinal "BigDesk" "BigDesk" "upper" "LBigDesk$Whole;" ∈ gw := gw_t (List.mem_of_getElem? (i := 77) (by decide +kernel)) (by decide +kernel)
theorem kw_78 : Cond.soleField "BigDesk" "upper" ∈ gw := gw_t (List.mem_of_getElem? (i := 78) (by decide +kernel)) (by decide +kernel)
theorem kw_79 : Cond.laysFinal "BigDesk" "BigDesk" "lower" "LBigDesk$Whole;" ∈ gw := gw_t (List.mem_of_getElem? (i := 79) (by decide +kernel)) (by decide +kernel)
theorem kw_80 : Cond.soleField "BigDesk" "lower" ∈ gw := gw_t (List.mem_of_getElem? (i := 80) (by decide +kernel)) (by decide +kernel)
theorem kw_81 : Cond.laysFinal "BigDesk" "BigDesk" "first" "LBigDesk$Whole;" ∈ gw := gw_t (List.mem_of_getElem? (i := 81) (by decide +kernel)) (by decide +kernel)
theorem kw_82 : Cond.soleField "BigDesk" "first" ∈ gw := gw_t (List.mem_of_getElem? (i := 82) (by decide +kernel)) (by decide +kernel)
theorem kw_83 : Cond.laysFinal "BigDesk" "BigDesk" "second" "LBigDesk$Whole;" ∈ gw := gw_t (List.mem_of_getElem? (i := 83) (by decide +kernel)) (by decide +kernel)
theorem kw_84 : Cond.soleField "BigDesk" "second" ∈ gw := gw_t (List.mem_of_getElem? (i := 84) (by decide +kernel)) (by decide +kernel)
theorem kw_85 : Cond.laysFinal "BigDesk" "BigDesk" "quotient" "LBigDesk$Whole;" ∈ gw := gw_t (List.mem_of_getElem? (i := 85) (by decide +kernel)) (by decide +kernel)
theorem kw_86 : Cond.soleField "BigDesk" "quotient" ∈ gw := gw_t (List.mem_of_getElem? (i := 86) (by decide +kernel)) (by decide +kernel)
theorem kw_87 : Cond.laysFinal "BigDesk" "BigDesk" "pair" "LBigDesk$Pair;" ∈ gw := gw_t (List.mem_of_getElem? (i := 87) (by decide +kernel)) (by decide +kernel)
theorem kw_88 : Cond.soleField "BigDesk" "pair" ∈ gw := gw_t (List.mem_of_getElem? (i := 88) (by decide +kernel)) (by decide +kernel)
theorem kw_89 : Cond.superclass "BigDesk" "java/lang/Object" ∈ gw := gw_t (List.mem_of_getElem? (i := 89) (by decide +kernel)) (by decide +kernel)
theorem kw_90 : Cond.methodLink "BigDeskLaw" 15 ⟨"BigDesk", "set", "(IJ)I"⟩ ∈ gw := gw_t (List.mem_of_getElem? (i := 90) (by decide +kernel)) (by decide +kernel)
theorem kw_91 : Cond.instanceMethod ⟨"BigDesk", "set", "(IJ)I"⟩ ∈ gw := gw_t (List.mem_of_getElem? (i := 91) (by decide +kernel)) (by decide +kernel)
theorem kw_92 : Cond.selects "BigDesk" ⟨"BigDesk", "set", "(IJ)I"⟩ ⟨"BigDesk", "set", "(IJ)I"⟩ ∈ gw := gw_t (List.mem_of_getElem? (i := 92) (by decide +kernel)) (by decide +kernel)
set_option maxRecDepth 20000 in
theorem kw_93 : Cond.code ⟨"BigDesk", "set", "(IJ)I"⟩ prog_1_method_2_code 4 (some .int) ∈ gw := gw_t (List.mem_of_getElem? (i := 93) rfl) rfl
theorem kw_94 : Cond.methodLink "BigDesk" 39 ⟨"BigDesk", "isSlot", "(I)Z"⟩ ∈ gw := gw_t (List.mem_of_getElem? (i := 94) (by decide +kernel)) (by decide +kernel)
theorem kw_95 : Cond.static ⟨"BigDesk", "isSlot", "(I)Z"⟩ ∈ gw := gw_t (List.mem_of_getElem? (i := 95) (by decide +kernel)) (by decide +kernel)
set_option maxRecDepth 20000 in
theorem kw_96 : Cond.code ⟨"BigDesk", "isSlot", "(I)Z"⟩ prog_1_method_22_code 1 (some .boolean) ∈ gw := gw_t (List.mem_of_getElem? (i := 96) rfl) rfl
theorem kw_97 : Cond.methodLink "BigDesk" 43 ⟨"BigDesk$Whole", "load", "(J)V"⟩ ∈ gw := gw_t (List.mem_of_getElem? (i := 97) (by decide +kernel)) (by decide +kernel)
theorem kw_98 : Cond.instanceMethod ⟨"BigDesk$Whole", "load", "(J)V"⟩ ∈ gw := gw_t (List.mem_of_getElem? (i := 98) (by decide +kernel)) (by decide +kernel)
theorem kw_99 : Cond.selects "BigDesk$Whole" ⟨"BigDesk$Whole", "load", "(J)V"⟩ ⟨"BigDesk$Whole", "load", "(J)V"⟩ ∈ gw := gw_t (List.mem_of_getElem? (i := 99) (by decide +kernel)) (by decide +kernel)
set_option maxRecDepth 20000 in
theorem kw_100 : Cond.code ⟨"BigDesk$Whole", "load", "(J)V"⟩ prog_3_method_7_code 6 none ∈ gw := gw_t (List.mem_of_getElem? (i := 100) rfl) rfl
theorem kw_101 : Cond.constantLong "BigDesk$Whole" 23 (1000000 : Int64) ∈ gw := gw_t (List.mem_of_getElem? (i := 101) (by decide +kernel)) (by decide +kernel)
theorem kw_102 : Cond.methodLink "BigDesk$Whole" 25 ⟨"java/lang/Math", "abs", "(J)J"⟩ ∈ gw := gw_t (List.mem_of_getElem? (i := 102) (by decide +kernel)) (by decide +kernel)
theorem kw_103 : Cond.static ⟨"java/lang/Math", "abs", "(J)J"⟩ ∈ gw := gw_t (List.mem_of_getElem? (i := 103) (by decide +kernel)) (by decide +kernel)
set_option maxRecDepth 20000 in
theorem kw_104 : Cond.code ⟨"java/lang/Math", "abs", "(J)J"⟩ prog_6_method_61_code 2 (some .long) ∈ gw := gw_t (List.mem_of_getElem? (i := 104) rfl) rfl
theorem kw_105 : Cond.methodLink "BigDesk$Whole" 31 ⟨"BigDesk$Whole", "trimTo", "(I)V"⟩ ∈ gw := gw_t (List.mem_of_getElem? (i := 105) (by decide +kernel)) (by decide +kernel)
theorem kw_106 : Cond.instanceMethod ⟨"BigDesk$Whole", "trimTo", "(I)V"⟩ ∈ gw := gw_t (List.mem_of_getElem? (i := 106) (by decide +kernel)) (by decide +kernel)
theorem kw_107 : Cond.selects "BigDesk$Whole" ⟨"BigDesk$Whole", "trimTo", "(I)V"⟩ ⟨"BigDesk$Whole", "trimTo", "(I)V"⟩ ∈ gw := gw_t (List.mem_of_getElem? (i := 107) (by decide +kernel)) (by decide +kernel)
set_option maxRecDepth 20000 in
theorem kw_108 : Cond.code ⟨"BigDesk$Whole", "trimTo", "(I)V"⟩ prog_3_method_5_code 3 none ∈ gw := gw_t (List.mem_of_getElem? (i := 108) rfl) rfl
theorem kw_109 : Cond.methodLink "BigDeskLaw" 20 ⟨"BigDesk", "digit", "(II)I"⟩ ∈ gw := gw_t (List.mem_of_getElem? (i := 109) (by decide +kernel)) (by decide +kernel)
theorem kw_110 : Cond.instanceMethod ⟨"BigDesk", "digit", "(II)I"⟩ ∈ gw := gw_t (List.mem_of_getElem? (i := 110) (by decide +kernel)) (by decide +kernel)
theorem kw_111 : Cond.selects "BigDesk" ⟨"BigDesk", "digit", "(II)I"⟩ ⟨"BigDesk", "digit", "(II)I"⟩ ∈ gw := gw_t (List.mem_of_getElem? (i := 111) (by decide +kernel)) (by decide +kernel)
set_option maxRecDepth 20000 in
theorem kw_112 : Cond.code ⟨"BigDesk", "digit", "(II)I"⟩ prog_1_method_3_code 3 (some .int) ∈ gw := gw_t (List.mem_of_getElem? (i := 112) rfl) rfl
theorem kw_113 : Cond.constantLong "BigDesk" 47 (10 : Int64) ∈ gw := gw_t (List.mem_of_getElem? (i := 113) (by decide +kernel)) (by decide +kernel)
theorem kw_114 : Cond.methodLink "BigDesk" 49 ⟨"BigDesk$Whole", "takeProduct", "(LBigDesk$Whole;LBigDesk$Whole;)V"⟩ ∈ gw := gw_t (List.mem_of_getElem? (i := 114) (by decide +kernel)) (by decide +kernel)
theorem kw_115 : Cond.instanceMethod ⟨"BigDesk$Whole", "takeProduct", "(LBigDesk$Whole;LBigDesk$Whole;)V"⟩ ∈ gw := gw_t (List.mem_of_getElem? (i := 115) (by decide +kernel)) (by decide +kernel)
theorem kw_116 : Cond.selects "BigDesk$Whole" ⟨"BigDesk$Whole", "takeProduct", "(LBigDesk$Whole;LBigDesk$Whole;)V"⟩ ⟨"BigDesk$Whole", "takeProduct", "(LBigDesk$Whole;LBigDesk$Whole;)V"⟩ ∈ gw := gw_t (List.mem_of_getElem? (i := 116) (by decide +kernel)) (by decide +kernel)
set_option maxRecDepth 20000 in
theorem kw_117 : Cond.code ⟨"BigDesk$Whole", "takeProduct", "(LBigDesk$Whole;LBigDesk$Whole;)V"⟩ prog_3_method_12_code 11 none ∈ gw := gw_t (List.mem_of_getElem? (i := 117) rfl) rfl
theorem kw_118 : Cond.methodLink "BigDesk$Whole" 61 ⟨"java/lang/Math", "min", "(II)I"⟩ ∈ gw := gw_t (List.mem_of_getElem? (i := 118) (by decide +kernel)) (by decide +kernel)
theorem kw_119 : Cond.static ⟨"java/lang/Math", "min", "(II)I"⟩ ∈ gw := gw_t (List.mem_of_getElem? (i := 119) (by decide +kernel)) (by decide +kernel)
set_option maxRecDepth 20000 in
theorem kw_120 : Cond.code ⟨"java/lang/Math", "min", "(II)I"⟩ prog_6_method_69_code 2 (some .int) ∈ gw := gw_t (List.mem_of_getElem? (i := 120) rfl) rfl
theorem kw_121 : Cond.methodLink "BigDesk$Whole" 52 ⟨"java/lang/Math", "max", "(II)I"⟩ ∈ gw := gw_t (List.mem_of_getElem? (i := 121) (by decide +kernel)) (by decide +kernel)
theorem kw_122 : Cond.static ⟨"java/lang/Math", "max", "(II)I"⟩ ∈ gw := gw_t (List.mem_of_getElem? (i := 122) (by decide +kernel)) (by decide +kernel)
set_option maxRecDepth 20000 in
theorem kw_123 : Cond.code ⟨"java/lang/Math", "max", "(II)I"⟩ prog_6_method_65_code 2 (some .int) ∈ gw := gw_t (List.mem_of_getElem? (i := 123) rfl) rfl
theorem kw_124 : Cond.methodLink "BigDesk" 53 ⟨"BigDesk$Whole", "takeSum", "(LBigDesk$Whole;LBigDesk$Whole;Z)V"⟩ ∈ gw := gw_t (List.mem_of_getElem? (i := 124) (by decide +kernel)) (by decide +kernel)
theorem kw_125 : Cond.instanceMethod ⟨"BigDesk$Whole", "takeSum", "(LBigDesk$Whole;LBigDesk$Whole;Z)V"⟩ ∈ gw := gw_t (List.mem_of_getElem? (i := 125) (by decide +kernel)) (by decide +kernel)
theorem kw_126 : Cond.selects "BigDesk$Whole" ⟨"BigDesk$Whole", "takeSum", "(LBigDesk$Whole;LBigDesk$Whole;Z)V"⟩ ⟨"BigDesk$Whole", "takeSum", "(LBigDesk$Whole;LBigDesk$Whole;Z)V"⟩ ∈ gw := gw_t (List.mem_of_getElem? (i := 126) (by decide +kernel)) (by decide +kernel)
set_option maxRecDepth 20000 in
theorem kw_127 : Cond.code ⟨"BigDesk$Whole", "takeSum", "(LBigDesk$Whole;LBigDesk$Whole;Z)V"⟩ prog_3_method_9_code 6 none ∈ gw := gw_t (List.mem_of_getElem? (i := 127) rfl) rfl
theorem kw_128 : Cond.methodLink "BigDesk$Whole" 41 ⟨"BigDesk$Whole", "compareParts", "(LBigDesk$Whole;)I"⟩ ∈ gw := gw_t (List.mem_of_getElem? (i := 128) (by decide +kernel)) (by decide +kernel)
theorem kw_129 : Cond.instanceMethod ⟨"BigDesk$Whole", "compareParts", "(LBigDesk$Whole;)I"⟩ ∈ gw := gw_t (List.mem_of_getElem? (i := 129) (by decide +kernel)) (by decide +kernel)
theorem kw_130 : Cond.selects "BigDesk$Whole" ⟨"BigDesk$Whole", "compareParts", "(LBigDesk$Whole;)I"⟩ ⟨"BigDesk$Whole", "compareParts", "(LBigDesk$Whole;)I"⟩ ∈ gw := gw_t (List.mem_of_getElem? (i := 130) (by decide +kernel)) (by decide +kernel)
set_option maxRecDepth 20000 in
theorem kw_131 : Cond.code ⟨"BigDesk$Whole", "compareParts", "(LBigDesk$Whole;)I"⟩ prog_3_method_14_code 3 (some .int) ∈ gw := gw_t (List.mem_of_getElem? (i := 131) rfl) rfl
theorem kw_132 : Cond.methodLink "BigDesk$Whole" 45 ⟨"BigDesk$Whole", "addParts", "(LBigDesk$Whole;LBigDesk$Whole;)V"⟩ ∈ gw := gw_t (List.mem_of_getElem? (i := 132) (by decide +kernel)) (by decide +kernel)
theorem kw_134 : Cond.instanceMethod ⟨"BigDesk$Whole", "addParts", "(LBigDesk$Whole;LBigDesk$Whole;)V"⟩ ∈ gw := gw_t (List.mem_of_getElem? (i := 134) (by decide +kernel)) (by decide +kernel)
set_option maxRecDepth 20000 in
theorem kw_135 : Cond.code ⟨"BigDesk$Whole", "addParts", "(LBigDesk$Whole;LBigDesk$Whole;)V"⟩ prog_3_method_10_code 7 none ∈ gw := gw_t (List.mem_of_getElem? (i := 135) rfl) rfl
theorem kw_136 : Cond.methodLink "BigDesk$Whole" 56 ⟨"BigDesk$Whole", "partOrZero", "(I)I"⟩ ∈ gw := gw_t (List.mem_of_getElem? (i := 136) (by decide +kernel)) (by decide +kernel)
theorem kw_137 : Cond.instanceMethod ⟨"BigDesk$Whole", "partOrZero", "(I)I"⟩ ∈ gw := gw_t (List.mem_of_getElem? (i := 137) (by decide +kernel)) (by decide +kernel)
theorem kw_138 : Cond.selects "BigDesk$Whole" ⟨"BigDesk$Whole", "partOrZero", "(I)I"⟩ ⟨"BigDesk$Whole", "partOrZero", "(I)I"⟩ ∈ gw := gw_t (List.mem_of_getElem? (i := 138) (by decide +kernel)) (by decide +kernel)
set_option maxRecDepth 20000 in
theorem kw_139 : Cond.code ⟨"BigDesk$Whole", "partOrZero", "(I)I"⟩ prog_3_method_6_code 2 (some .int) ∈ gw := gw_t (List.mem_of_getElem? (i := 139) rfl) rfl
theorem kw_140 : Cond.constant "BigDesk$Whole" 60 (1000000 : Int32) ∈ gw := gw_t (List.mem_of_getElem? (i := 140) (by decide +kernel)) (by decide +kernel)
theorem kw_141 : Cond.methodLink "BigDesk$Whole" 49 ⟨"BigDesk$Whole", "subtractParts", "(LBigDesk$Whole;LBigDesk$Whole;)V"⟩ ∈ gw := gw_t (List.mem_of_getElem? (i := 141) (by decide +kernel)) (by decide +kernel)
theorem kw_143 : Cond.instanceMethod ⟨"BigDesk$Whole", "subtractParts", "(LBigDesk$Whole;LBigDesk$Whole;)V"⟩ ∈ gw := gw_t (List.mem_of_getElem? (i := 143) (by decide +kernel)) (by decide +kernel)
set_option maxRecDepth 20000 in
theorem kw_144 : Cond.code ⟨"BigDesk$Whole", "subtractParts", "(LBigDesk$Whole;LBigDesk$Whole;)V"⟩ prog_3_method_11_code 6 none ∈ gw := gw_t (List.mem_of_getElem? (i := 144) rfl) rfl
theorem kw_145 : Cond.methodLink "BigDesk" 57 ⟨"BigDesk", "keep", "(LBigDesk$Whole;I)I"⟩ ∈ gw := gw_t (List.mem_of_getElem? (i := 145) (by decide +kernel)) (by decide +kernel)
theorem kw_147 : Cond.instanceMethod ⟨"BigDesk", "keep", "(LBigDesk$Whole;I)I"⟩ ∈ gw := gw_t (List.mem_of_getElem? (i := 147) (by decide +kernel)) (by decide +kernel)
set_option maxRecDepth 20000 in
theorem kw_148 : Cond.code ⟨"BigDesk", "keep", "(LBigDesk$Whole;I)I"⟩ prog_1_method_25_code 3 (some .int) ∈ gw := gw_t (List.mem_of_getElem? (i := 148) rfl) rfl
theorem kw_149 : Cond.methodLink "BigDesk" 84 ⟨"BigDesk$Whole", "isTooLong", "()Z"⟩ ∈ gw := gw_t (List.mem_of_getElem? (i := 149) (by decide +kernel)) (by decide +kernel)
theorem kw_150 : Cond.instanceMethod ⟨"BigDesk$Whole", "isTooLong", "()Z"⟩ ∈ gw := gw_t (List.mem_of_getElem? (i := 150) (by decide +kernel)) (by decide +kernel)
theorem kw_151 : Cond.selects "BigDesk$Whole" ⟨"BigDesk$Whole", "isTooLong", "()Z"⟩ ⟨"BigDesk$Whole", "isTooLong", "()Z"⟩ ∈ gw := gw_t (List.mem_of_getElem? (i := 151) (by decide +kernel)) (by decide +kernel)
set_option maxRecDepth 20000 in
theorem kw_152 : Cond.code ⟨"BigDesk$Whole", "isTooLong", "()Z"⟩ prog_3_method_3_code 1 (some .boolean) ∈ gw := gw_t (List.mem_of_getElem? (i := 152) rfl) rfl
theorem kw_153 : Cond.methodLink "BigDesk" 91 ⟨"BigDesk$Whole", "take", "(LBigDesk$Whole;)V"⟩ ∈ gw := gw_t (List.mem_of_getElem? (i := 153) (by decide +kernel)) (by decide +kernel)
theorem kw_154 : Cond.instanceMethod ⟨"BigDesk$Whole", "take", "(LBigDesk$Whole;)V"⟩ ∈ gw := gw_t (List.mem_of_getElem? (i := 154) (by decide +kernel)) (by decide +kernel)
theorem kw_155 : Cond.selects "BigDesk$Whole" ⟨"BigDesk$Whole", "take", "(LBigDesk$Whole;)V"⟩ ⟨"BigDesk$Whole", "take", "(LBigDesk$Whole;)V"⟩ ∈ gw := gw_t (List.mem_of_getElem? (i := 155) (by decide +kernel)) (by decide +kernel)
set_option maxRecDepth 20000 in
theorem kw_156 : Cond.code ⟨"BigDesk$Whole", "take", "(LBigDesk$Whole;)V"⟩ prog_3_method_8_code 2 none ∈ gw := gw_t (List.mem_of_getElem? (i := 156) rfl) rfl
theorem kw_157 : Cond.methodLink "BigDesk$Whole" 35 ⟨"java/lang/System", "arraycopy", "(Ljava/lang/Object;ILjava/lang/Object;II)V"⟩ ∈ gw := gw_t (List.mem_of_getElem? (i := 157) (by decide +kernel)) (by decide +kernel)
theorem kw_158 : Cond.static ⟨"java/lang/System", "arraycopy", "(Ljava/lang/Object;ILjava/lang/Object;II)V"⟩ ∈ gw := gw_t (List.mem_of_getElem? (i := 158) (by decide +kernel)) (by decide +kernel)
theorem kw_159 : Cond.native ⟨"java/lang/System", "arraycopy", "(Ljava/lang/Object;ILjava/lang/Object;II)V"⟩ ∈ gw := gw_t (List.mem_of_getElem? (i := 159) (by decide +kernel)) (by decide +kernel)
theorem kw_160 : Cond.methodLink "BigDeskLaw" 25 ⟨"BigDesk", "copy", "(II)I"⟩ ∈ gw := gw_t (List.mem_of_getElem? (i := 160) (by decide +kernel)) (by decide +kernel)
theorem kw_161 : Cond.instanceMethod ⟨"BigDesk", "copy", "(II)I"⟩ ∈ gw := gw_t (List.mem_of_getElem? (i := 161) (by decide +kernel)) (by decide +kernel)
theorem kw_162 : Cond.selects "BigDesk" ⟨"BigDesk", "copy", "(II)I"⟩ ⟨"BigDesk", "copy", "(II)I"⟩ ∈ gw := gw_t (List.mem_of_getElem? (i := 162) (by decide +kernel)) (by decide +kernel)
set_option maxRecDepth 20000 in
theorem kw_163 : Cond.code ⟨"BigDesk", "copy", "(II)I"⟩ prog_1_method_4_code 3 (some .int) ∈ gw := gw_t (List.mem_of_getElem? (i := 163) rfl) rfl
theorem kw_164 : Cond.methodLink "BigDesk" 61 ⟨"BigDesk", "areSlots", "(II)Z"⟩ ∈ gw := gw_t (List.mem_of_getElem? (i := 164) (by decide +kernel)) (by decide +kernel)
theorem kw_165 : Cond.static ⟨"BigDesk", "areSlots", "(II)Z"⟩ ∈ gw := gw_t (List.mem_of_getElem? (i := 165) (by decide +kernel)) (by decide +kernel)
set_option maxRecDepth 20000 in
theorem kw_166 : Cond.code ⟨"BigDesk", "areSlots", "(II)Z"⟩ prog_1_method_23_code 2 (some .boolean) ∈ gw := gw_t (List.mem_of_getElem? (i := 166) rfl) rfl
theorem kw_167 : Cond.methodLink "BigDeskLaw" 29 ⟨"BigDesk", "sum", "(III)I"⟩ ∈ gw := gw_t (List.mem_of_getElem? (i := 167) (by decide +kernel)) (by decide +kernel)
theorem kw_168 : Cond.instanceMethod ⟨"BigDesk", "sum", "(III)I"⟩ ∈ gw := gw_t (List.mem_of_getElem? (i := 168) (by decide +kernel)) (by decide +kernel)
theorem kw_169 : Cond.selects "BigDesk" ⟨"BigDesk", "sum", "(III)I"⟩ ⟨"BigDesk", "sum", "(III)I"⟩ ∈ gw := gw_t (List.mem_of_getElem? (i := 169) (by decide +kernel)) (by decide +kernel)
set_option maxRecDepth 20000 in
theorem kw_170 : Cond.code ⟨"BigDesk", "sum", "(III)I"⟩ prog_1_method_5_code 4 (some .int) ∈ gw := gw_t (List.mem_of_getElem? (i := 170) rfl) rfl
theorem kw_171 : Cond.methodLink "BigDesk" 65 ⟨"BigDesk", "addOrTakeAway", "(IIIZ)I"⟩ ∈ gw := gw_t (List.mem_of_getElem? (i := 171) (by decide +kernel)) (by decide +kernel)
theorem kw_173 : Cond.instanceMethod ⟨"BigDesk", "addOrTakeAway", "(IIIZ)I"⟩ ∈ gw := gw_t (List.mem_of_getElem? (i := 173) (by decide +kernel)) (by decide +kernel)
set_option maxRecDepth 20000 in
theorem kw_174 : Cond.code ⟨"BigDesk", "addOrTakeAway", "(IIIZ)I"⟩ prog_1_method_26_code 5 (some .int) ∈ gw := gw_t (List.mem_of_getElem? (i := 174) rfl) rfl
theorem kw_175 : Cond.methodLink "BigDeskLaw" 34 ⟨"BigDesk", "less", "(III)I"⟩ ∈ gw := gw_t (List.mem_of_getElem? (i := 175) (by decide +kernel)) (by decide +kernel)
theorem kw_176 : Cond.instanceMethod ⟨"BigDesk", "less", "(III)I"⟩ ∈ gw := gw_t (List.mem_of_getElem? (i := 176) (by decide +kernel)) (by decide +kernel)
theorem kw_177 : Cond.selects "BigDesk" ⟨"BigDesk", "less", "(III)I"⟩ ⟨"BigDesk", "less", "(III)I"⟩ ∈ gw := gw_t (List.mem_of_getElem? (i := 177) (by decide +kernel)) (by decide +kernel)
set_option maxRecDepth 20000 in
theorem kw_178 : Cond.code ⟨"BigDesk", "less", "(III)I"⟩ prog_1_method_6_code 4 (some .int) ∈ gw := gw_t (List.mem_of_getElem? (i := 178) rfl) rfl
theorem kw_179 : Cond.methodLink "BigDeskLaw" 38 ⟨"BigDesk", "product", "(III)I"⟩ ∈ gw := gw_t (List.mem_of_getElem? (i := 179) (by decide +kernel)) (by decide +kernel)
theorem kw_180 : Cond.instanceMethod ⟨"BigDesk", "product", "(III)I"⟩ ∈ gw := gw_t (List.mem_of_getElem? (i := 180) (by decide +kernel)) (by decide +kernel)
theorem kw_181 : Cond.selects "BigDesk" ⟨"BigDesk", "product", "(III)I"⟩ ⟨"BigDesk", "product", "(III)I"⟩ ∈ gw := gw_t (List.mem_of_getElem? (i := 181) (by decide +kernel)) (by decide +kernel)
set_option maxRecDepth 20000 in
theorem kw_182 : Cond.code ⟨"BigDesk", "product", "(III)I"⟩ prog_1_method_7_code 4 (some .int) ∈ gw := gw_t (List.mem_of_getElem? (i := 182) rfl) rfl
theorem kw_183 : Cond.methodLink "BigDeskLaw" 42 ⟨"BigDesk", "over", "(III)I"⟩ ∈ gw := gw_t (List.mem_of_getElem? (i := 183) (by decide +kernel)) (by decide +kernel)
theorem kw_184 : Cond.instanceMethod ⟨"BigDesk", "over", "(III)I"⟩ ∈ gw := gw_t (List.mem_of_getElem? (i := 184) (by decide +kernel)) (by decide +kernel)
theorem kw_185 : Cond.selects "BigDesk" ⟨"BigDesk", "over", "(III)I"⟩ ⟨"BigDesk", "over", "(III)I"⟩ ∈ gw := gw_t (List.mem_of_getElem? (i := 185) (by decide +kernel)) (by decide +kernel)
set_option maxRecDepth 20000 in
theorem kw_186 : Cond.code ⟨"BigDesk", "over", "(III)I"⟩ prog_1_method_8_code 4 (some .int) ∈ gw := gw_t (List.mem_of_getElem? (i := 186) rfl) rfl
theorem kw_187 : Cond.methodLink "BigDesk" 69 ⟨"BigDesk", "divideSlots", "(II)Z"⟩ ∈ gw := gw_t (List.mem_of_getElem? (i := 187) (by decide +kernel)) (by decide +kernel)
theorem kw_189 : Cond.instanceMethod ⟨"BigDesk", "divideSlots", "(II)Z"⟩ ∈ gw := gw_t (List.mem_of_getElem? (i := 189) (by decide +kernel)) (by decide +kernel)
set_option maxRecDepth 20000 in
theorem kw_190 : Cond.code ⟨"BigDesk", "divideSlots", "(II)Z"⟩ prog_1_method_27_code 3 (some .boolean) ∈ gw := gw_t (List.mem_of_getElem? (i := 190) rfl) rfl
theorem kw_191 : Cond.methodLink "BigDesk" 88 ⟨"BigDesk$Whole", "isZero", "()Z"⟩ ∈ gw := gw_t (List.mem_of_getElem? (i := 191) (by decide +kernel)) (by decide +kernel)
theorem kw_192 : Cond.instanceMethod ⟨"BigDesk$Whole", "isZero", "()Z"⟩ ∈ gw := gw_t (List.mem_of_getElem? (i := 192) (by decide +kernel)) (by decide +kernel)
theorem kw_193 : Cond.selects "BigDesk$Whole" ⟨"BigDesk$Whole", "isZero", "()Z"⟩ ⟨"BigDesk$Whole", "isZero", "()Z"⟩ ∈ gw := gw_t (List.mem_of_getElem? (i := 193) (by decide +kernel)) (by decide +kernel)
set_option maxRecDepth 20000 in
theorem kw_194 : Cond.code ⟨"BigDesk$Whole", "isZero", "()Z"⟩ prog_3_method_2_code 1 (some .boolean) ∈ gw := gw_t (List.mem_of_getElem? (i := 194) rfl) rfl
theorem kw_195 : Cond.methodLink "BigDesk" 127 ⟨"BigDesk$Whole", "divideBy", "(LBigDesk$Whole;LBigDesk$Whole;)V"⟩ ∈ gw := gw_t (List.mem_of_getElem? (i := 195) (by decide +kernel)) (by decide +kernel)
theorem kw_196 : Cond.instanceMethod ⟨"BigDesk$Whole", "divideBy", "(LBigDesk$Whole;LBigDesk$Whole;)V"⟩ ∈ gw := gw_t (List.mem_of_getElem? (i := 196) (by decide +kernel)) (by decide +kernel)
theorem kw_197 : Cond.selects "BigDesk$Whole" ⟨"BigDesk$Whole", "divideBy", "(LBigDesk$Whole;LBigDesk$Whole;)V"⟩ ⟨"BigDesk$Whole", "divideBy", "(LBigDesk$Whole;LBigDesk$Whole;)V"⟩ ∈ gw := gw_t (List.mem_of_getElem? (i := 197) (by decide +kernel)) (by decide +kernel)
set_option maxRecDepth 20000 in
theorem kw_198 : Cond.code ⟨"BigDesk$Whole", "divideBy", "(LBigDesk$Whole;LBigDesk$Whole;)V"⟩ prog_3_method_16_code 7 none ∈ gw := gw_t (List.mem_of_getElem? (i := 198) rfl) rfl
theorem kw_199 : Cond.methodLink "BigDesk$Whole" 64 ⟨"BigDesk$Whole", "leadOfTwo", "()J"⟩ ∈ gw := gw_t (List.mem_of_getElem? (i := 199) (by decide +kernel)) (by decide +kernel)
theorem kw_201 : Cond.instanceMethod ⟨"BigDesk$Whole", "leadOfTwo", "()J"⟩ ∈ gw := gw_t (List.mem_of_getElem? (i := 201) (by decide +kernel)) (by decide +kernel)
set_option maxRecDepth 20000 in
theorem kw_202 : Cond.code ⟨"BigDesk$Whole", "leadOfTwo", "()J"⟩ prog_3_method_17_code 1 (some .long) ∈ gw := gw_t (List.mem_of_getElem? (i := 202) rfl) rfl
theorem kw_203 : Cond.methodLink "BigDesk$Whole" 68 ⟨"BigDesk$Whole", "load", "(J)V"⟩ ∈ gw := gw_t (List.mem_of_getElem? (i := 203) (by decide +kernel)) (by decide +kernel)
theorem kw_204 : Cond.methodLink "BigDesk$Whole" 72 ⟨"BigDesk$Whole", "takeAway", "(LBigDesk$Whole;JI)I"⟩ ∈ gw := gw_t (List.mem_of_getElem? (i := 204) (by decide +kernel)) (by decide +kernel)
theorem kw_206 : Cond.instanceMethod ⟨"BigDesk$Whole", "takeAway", "(LBigDesk$Whole;JI)I"⟩ ∈ gw := gw_t (List.mem_of_getElem? (i := 206) (by decide +kernel)) (by decide +kernel)
set_option maxRecDepth 20000 in
theorem kw_207 : Cond.code ⟨"BigDesk$Whole", "takeAway", "(LBigDesk$Whole;JI)I"⟩ prog_3_method_18_code 11 (some .int) ∈ gw := gw_t (List.mem_of_getElem? (i := 207) rfl) rfl
theorem kw_208 : Cond.methodLink "BigDesk$Whole" 76 ⟨"BigDesk$Whole", "subtractTimes", "(LBigDesk$Whole;II)V"⟩ ∈ gw := gw_t (List.mem_of_getElem? (i := 208) (by decide +kernel)) (by decide +kernel)
theorem kw_210 : Cond.instanceMethod ⟨"BigDesk$Whole", "subtractTimes", "(LBigDesk$Whole;II)V"⟩ ∈ gw := gw_t (List.mem_of_getElem? (i := 210) (by decide +kernel)) (by decide +kernel)
set_option maxRecDepth 20000 in
theorem kw_211 : Cond.code ⟨"BigDesk$Whole", "subtractTimes", "(LBigDesk$Whole;II)V"⟩ prog_3_method_19_code 10 none ∈ gw := gw_t (List.mem_of_getElem? (i := 211) rfl) rfl
theorem kw_212 : Cond.methodLink "BigDesk$Whole" 80 ⟨"BigDesk$Whole", "addBack", "(LBigDesk$Whole;I)V"⟩ ∈ gw := gw_t (List.mem_of_getElem? (i := 212) (by decide +kernel)) (by decide +kernel)
theorem kw_214 : Cond.instanceMethod ⟨"BigDesk$Whole", "addBack", "(LBigDesk$Whole;I)V"⟩ ∈ gw := gw_t (List.mem_of_getElem? (i := 214) (by decide +kernel)) (by decide +kernel)
set_option maxRecDepth 20000 in
theorem kw_215 : Cond.code ⟨"BigDesk$Whole", "addBack", "(LBigDesk$Whole;I)V"⟩ prog_3_method_20_code 6 none ∈ gw := gw_t (List.mem_of_getElem? (i := 215) rfl) rfl
theorem kw_216 : Cond.methodLink "BigDeskLaw" 46 ⟨"BigDesk", "left", "(III)I"⟩ ∈ gw := gw_t (List.mem_of_getElem? (i := 216) (by decide +kernel)) (by decide +kernel)
theorem kw_217 : Cond.instanceMethod ⟨"BigDesk", "left", "(III)I"⟩ ∈ gw := gw_t (List.mem_of_getElem? (i := 217) (by decide +kernel)) (by decide +kernel)
theorem kw_218 : Cond.selects "BigDesk" ⟨"BigDesk", "left", "(III)I"⟩ ⟨"BigDesk", "left", "(III)I"⟩ ∈ gw := gw_t (List.mem_of_getElem? (i := 218) (by decide +kernel)) (by decide +kernel)
set_option maxRecDepth 20000 in
theorem kw_219 : Cond.code ⟨"BigDesk", "left", "(III)I"⟩ prog_1_method_9_code 4 (some .int) ∈ gw := gw_t (List.mem_of_getElem? (i := 219) rfl) rfl
theorem kw_220 : Cond.methodLink "BigDeskLaw" 50 ⟨"BigDesk", "divisor", "(III)I"⟩ ∈ gw := gw_t (List.mem_of_getElem? (i := 220) (by decide +kernel)) (by decide +kernel)
theorem kw_221 : Cond.instanceMethod ⟨"BigDesk", "divisor", "(III)I"⟩ ∈ gw := gw_t (List.mem_of_getElem? (i := 221) (by decide +kernel)) (by decide +kernel)
theorem kw_222 : Cond.selects "BigDesk" ⟨"BigDesk", "divisor", "(III)I"⟩ ⟨"BigDesk", "divisor", "(III)I"⟩ ∈ gw := gw_t (List.mem_of_getElem? (i := 222) (by decide +kernel)) (by decide +kernel)
set_option maxRecDepth 20000 in
theorem kw_223 : Cond.code ⟨"BigDesk", "divisor", "(III)I"⟩ prog_1_method_10_code 4 (some .int) ∈ gw := gw_t (List.mem_of_getElem? (i := 223) rfl) rfl
theorem kw_224 : Cond.methodLink "BigDesk" 72 ⟨"BigDesk$Pair", "commonDivisor", "(LBigDesk$Whole;LBigDesk$Whole;)LBigDesk$Whole;"⟩ ∈ gw := gw_t (List.mem_of_getElem? (i := 224) (by decide +kernel)) (by decide +kernel)
theorem kw_225 : Cond.instanceMethod ⟨"BigDesk$Pair", "commonDivisor", "(LBigDesk$Whole;LBigDesk$Whole;)LBigDesk$Whole;"⟩ ∈ gw := gw_t (List.mem_of_getElem? (i := 225) (by decide +kernel)) (by decide +kernel)
theorem kw_226 : Cond.selects "BigDesk$Pair" ⟨"BigDesk$Pair", "commonDivisor", "(LBigDesk$Whole;LBigDesk$Whole;)LBigDesk$Whole;"⟩ ⟨"BigDesk$Pair", "commonDivisor", "(LBigDesk$Whole;LBigDesk$Whole;)LBigDesk$Whole;"⟩ ∈ gw := gw_t (List.mem_of_getElem? (i := 226) (by decide +kernel)) (by decide +kernel)
set_option maxRecDepth 20000 in
theorem kw_227 : Cond.code ⟨"BigDesk$Pair", "commonDivisor", "(LBigDesk$Whole;LBigDesk$Whole;)LBigDesk$Whole;"⟩ prog_2_method_2_code 4 (some (.object "BigDesk$Whole")) ∈ gw := gw_t (List.mem_of_getElem? (i := 227) rfl) rfl
theorem kw_228 : Cond.methodLink "BigDesk$Pair" 24 ⟨"BigDesk$Whole", "take", "(LBigDesk$Whole;)V"⟩ ∈ gw := gw_t (List.mem_of_getElem? (i := 228) (by decide +kernel)) (by decide +kernel)
theorem kw_229 : Cond.methodLink "BigDesk$Pair" 32 ⟨"BigDesk$Whole", "compareParts", "(LBigDesk$Whole;)I"⟩ ∈ gw := gw_t (List.mem_of_getElem? (i := 229) (by decide +kernel)) (by decide +kernel)
theorem kw_230 : Cond.methodLink "BigDesk$Pair" 36 ⟨"BigDesk$Pair", "change", "()V"⟩ ∈ gw := gw_t (List.mem_of_getElem? (i := 230) (by decide +kernel)) (by decide +kernel)
theorem kw_232 : Cond.instanceMethod ⟨"BigDesk$Pair", "change", "()V"⟩ ∈ gw := gw_t (List.mem_of_getElem? (i := 232) (by decide +kernel)) (by decide +kernel)
set_option maxRecDepth 20000 in
theorem kw_233 : Cond.code ⟨"BigDesk$Pair", "change", "()V"⟩ prog_2_method_3_code 2 none ∈ gw := gw_t (List.mem_of_getElem? (i := 233) rfl) rfl
theorem kw_234 : Cond.methodLink "BigDesk$Pair" 39 ⟨"BigDesk$Whole", "isZero", "()Z"⟩ ∈ gw := gw_t (List.mem_of_getElem? (i := 234) (by decide +kernel)) (by decide +kernel)
theorem kw_235 : Cond.methodLink "BigDesk$Pair" 43 ⟨"BigDesk$Pair", "foretellSteps", "()V"⟩ ∈ gw := gw_t (List.mem_of_getElem? (i := 235) (by decide +kernel)) (by decide +kernel)
theorem kw_237 : Cond.instanceMethod ⟨"BigDesk$Pair", "foretellSteps", "()V"⟩ ∈ gw := gw_t (List.mem_of_getElem? (i := 237) (by decide +kernel)) (by decide +kernel)
set_option maxRecDepth 20000 in
theorem kw_238 : Cond.code ⟨"BigDesk$Pair", "foretellSteps", "()V"⟩ prog_2_method_4_code 14 none ∈ gw := gw_t (List.mem_of_getElem? (i := 238) rfl) rfl
theorem kw_239 : Cond.methodLink "BigDesk$Pair" 57 ⟨"BigDesk$Pair", "leadOfThree", "(LBigDesk$Whole;)J"⟩ ∈ gw := gw_t (List.mem_of_getElem? (i := 239) (by decide +kernel)) (by decide +kernel)
theorem kw_241 : Cond.instanceMethod ⟨"BigDesk$Pair", "leadOfThree", "(LBigDesk$Whole;)J"⟩ ∈ gw := gw_t (List.mem_of_getElem? (i := 241) (by decide +kernel)) (by decide +kernel)
set_option maxRecDepth 20000 in
theorem kw_242 : Cond.code ⟨"BigDesk$Pair", "leadOfThree", "(LBigDesk$Whole;)J"⟩ prog_2_method_5_code 5 (some .long) ∈ gw := gw_t (List.mem_of_getElem? (i := 242) rfl) rfl
theorem kw_243 : Cond.methodLink "BigDesk$Pair" 74 ⟨"BigDesk$Whole", "partOrZero", "(I)I"⟩ ∈ gw := gw_t (List.mem_of_getElem? (i := 243) (by decide +kernel)) (by decide +kernel)
theorem kw_244 : Cond.constantLong "BigDesk$Pair" 78 (1000000 : Int64) ∈ gw := gw_t (List.mem_of_getElem? (i := 244) (by decide +kernel)) (by decide +kernel)
theorem kw_245 : Cond.methodLink "BigDesk$Pair" 50 ⟨"BigDesk$Whole", "divideBy", "(LBigDesk$Whole;LBigDesk$Whole;)V"⟩ ∈ gw := gw_t (List.mem_of_getElem? (i := 245) (by decide +kernel)) (by decide +kernel)
theorem kw_246 : Cond.methodLink "BigDesk$Pair" 54 ⟨"BigDesk$Pair", "takeForetoldSteps", "()V"⟩ ∈ gw := gw_t (List.mem_of_getElem? (i := 246) (by decide +kernel)) (by decide +kernel)
theorem kw_248 : Cond.instanceMethod ⟨"BigDesk$Pair", "takeForetoldSteps", "()V"⟩ ∈ gw := gw_t (List.mem_of_getElem? (i := 248) (by decide +kernel)) (by decide +kernel)
set_option maxRecDepth 20000 in
theorem kw_249 : Cond.code ⟨"BigDesk$Pair", "takeForetoldSteps", "()V"⟩ prog_2_method_6_code 17 none ∈ gw := gw_t (List.mem_of_getElem? (i := 249) rfl) rfl
theorem kw_250 : Cond.methodLink "BigDesk$Pair" 84 ⟨"java/util/Arrays", "fill", "([IIII)V"⟩ ∈ gw := gw_t (List.mem_of_getElem? (i := 250) (by decide +kernel)) (by decide +kernel)
theorem kw_251 : Cond.static ⟨"java/util/Arrays", "fill", "([IIII)V"⟩ ∈ gw := gw_t (List.mem_of_getElem? (i := 251) (by decide +kernel)) (by decide +kernel)
set_option maxRecDepth 20000 in
theorem kw_252 : Cond.code ⟨"java/util/Arrays", "fill", "([IIII)V"⟩ prog_8_method_104_code 5 none ∈ gw := gw_t (List.mem_of_getElem? (i := 252) rfl) rfl
theorem kw_253 : Cond.methodLink "java/util/Arrays" 13 ⟨"java/util/Arrays", "rangeCheck", "(III)V"⟩ ∈ gw := gw_t (List.mem_of_getElem? (i := 253) (by decide +kernel)) (by decide +kernel)
theorem kw_254 : Cond.static ⟨"java/util/Arrays", "rangeCheck", "(III)V"⟩ ∈ gw := gw_t (List.mem_of_getElem? (i := 254) (by decide +kernel)) (by decide +kernel)
set_option maxRecDepth 20000 in
theorem kw_255 : Cond.code ⟨"java/util/Arrays", "rangeCheck", "(III)V"⟩ prog_8_method_30_code 3 none ∈ gw := gw_t (List.mem_of_getElem? (i := 255) rfl) rfl
theorem kw_256 : Cond.constantLong "BigDesk$Pair" 90 (1000000000000000000 : Int64) ∈ gw := gw_t (List.mem_of_getElem? (i := 256) (by decide +kernel)) (by decide +kernel)
theorem kw_257 : Cond.constantLong "BigDesk$Pair" 92 (1000000000000 : Int64) ∈ gw := gw_t (List.mem_of_getElem? (i := 257) (by decide +kernel)) (by decide +kernel)
theorem kw_258 : Cond.methodLink "BigDesk$Pair" 94 ⟨"BigDesk$Whole", "trimTo", "(I)V"⟩ ∈ gw := gw_t (List.mem_of_getElem? (i := 258) (by decide +kernel)) (by decide +kernel)
theorem kw_259 : Cond.methodLink "BigDeskLaw" 54 ⟨"BigDesk", "root", "(II)I"⟩ ∈ gw := gw_t (List.mem_of_getElem? (i := 259) (by decide +kernel)) (by decide +kernel)
theorem kw_260 : Cond.instanceMethod ⟨"BigDesk", "root", "(II)I"⟩ ∈ gw := gw_t (List.mem_of_getElem? (i := 260) (by decide +kernel)) (by decide +kernel)
theorem kw_261 : Cond.selects "BigDesk" ⟨"BigDesk", "root", "(II)I"⟩ ⟨"BigDesk", "root", "(II)I"⟩ ∈ gw := gw_t (List.mem_of_getElem? (i := 261) (by decide +kernel)) (by decide +kernel)
set_option maxRecDepth 20000 in
theorem kw_262 : Cond.code ⟨"BigDesk", "root", "(II)I"⟩ prog_1_method_11_code 3 (some .int) ∈ gw := gw_t (List.mem_of_getElem? (i := 262) rfl) rfl
theorem kw_263 : Cond.methodLink "BigDesk" 80 ⟨"BigDesk", "squareRoot", "(LBigDesk$Whole;)LBigDesk$Whole;"⟩ ∈ gw := gw_t (List.mem_of_getElem? (i := 263) (by decide +kernel)) (by decide +kernel)
theorem kw_265 : Cond.instanceMethod ⟨"BigDesk", "squareRoot", "(LBigDesk$Whole;)LBigDesk$Whole;"⟩ ∈ gw := gw_t (List.mem_of_getElem? (i := 265) (by decide +kernel)) (by decide +kernel)
set_option maxRecDepth 20000 in
theorem kw_266 : Cond.code ⟨"BigDesk", "squareRoot", "(LBigDesk$Whole;)LBigDesk$Whole;"⟩ prog_1_method_28_code 6 (some (.object "BigDesk$Whole")) ∈ gw := gw_t (List.mem_of_getElem? (i := 266) rfl) rfl
theorem kw_267 : Cond.methodLink "BigDesk" 130 ⟨"BigDesk$Whole", "loadAboveRoot", "(LBigDesk$Whole;)V"⟩ ∈ gw := gw_t (List.mem_of_getElem? (i := 267) (by decide +kernel)) (by decide +kernel)
theorem kw_268 : Cond.instanceMethod ⟨"BigDesk$Whole", "loadAboveRoot", "(LBigDesk$Whole;)V"⟩ ∈ gw := gw_t (List.mem_of_getElem? (i := 268) (by decide +kernel)) (by decide +kernel)
theorem kw_269 : Cond.selects "BigDesk$Whole" ⟨"BigDesk$Whole", "loadAboveRoot", "(LBigDesk$Whole;)V"⟩ ⟨"BigDesk$Whole", "loadAboveRoot", "(LBigDesk$Whole;)V"⟩ ∈ gw := gw_t (List.mem_of_getElem? (i := 269) (by decide +kernel)) (by decide +kernel)
set_option maxRecDepth 20000 in
theorem kw_270 : Cond.code ⟨"BigDesk$Whole", "loadAboveRoot", "(LBigDesk$Whole;)V"⟩ prog_3_method_21_code 8 none ∈ gw := gw_t (List.mem_of_getElem? (i := 270) rfl) rfl
theorem kw_271 : Cond.methodLink "BigDesk$Whole" 84 ⟨"BigDesk$Whole", "rootOfLong", "(J)J"⟩ ∈ gw := gw_t (List.mem_of_getElem? (i := 271) (by decide +kernel)) (by decide +kernel)
theorem kw_272 : Cond.static ⟨"BigDesk$Whole", "rootOfLong", "(J)J"⟩ ∈ gw := gw_t (List.mem_of_getElem? (i := 272) (by decide +kernel)) (by decide +kernel)
set_option maxRecDepth 20000 in
theorem kw_273 : Cond.code ⟨"BigDesk$Whole", "rootOfLong", "(J)J"⟩ prog_3_method_22_code 8 (some .long) ∈ gw := gw_t (List.mem_of_getElem? (i := 273) rfl) rfl
theorem kw_274 : Cond.constantLong "BigDesk$Whole" 93 (536870912 : Int64) ∈ gw := gw_t (List.mem_of_getElem? (i := 274) (by decide +kernel)) (by decide +kernel)
theorem kw_275 : Cond.methodLink "BigDesk$Whole" 87 ⟨"java/util/Arrays", "fill", "([IIII)V"⟩ ∈ gw := gw_t (List.mem_of_getElem? (i := 275) (by decide +kernel)) (by decide +kernel)
theorem kw_276 : Cond.methodLink "BigDesk" 133 ⟨"BigDesk$Whole", "halve", "()V"⟩ ∈ gw := gw_t (List.mem_of_getElem? (i := 276) (by decide +kernel)) (by decide +kernel)
theorem kw_277 : Cond.instanceMethod ⟨"BigDesk$Whole", "halve", "()V"⟩ ∈ gw := gw_t (List.mem_of_getElem? (i := 277) (by decide +kernel)) (by decide +kernel)
theorem kw_278 : Cond.selects "BigDesk$Whole" ⟨"BigDesk$Whole", "halve", "()V"⟩ ⟨"BigDesk$Whole", "halve", "()V"⟩ ∈ gw := gw_t (List.mem_of_getElem? (i := 278) (by decide +kernel)) (by decide +kernel)
set_option maxRecDepth 20000 in
theorem kw_279 : Cond.code ⟨"BigDesk$Whole", "halve", "()V"⟩ prog_3_method_13_code 4 none ∈ gw := gw_t (List.mem_of_getElem? (i := 279) rfl) rfl
theorem kw_280 : Cond.methodLink "BigDesk" 136 ⟨"BigDesk$Whole", "compareParts", "(LBigDesk$Whole;)I"⟩ ∈ gw := gw_t (List.mem_of_getElem? (i := 280) (by decide +kernel)) (by decide +kernel)
theorem kw_281 : Cond.methodLink "BigDeskLaw" 58 ⟨"BigDesk", "power", "(III)I"⟩ ∈ gw := gw_t (List.mem_of_getElem? (i := 281) (by decide +kernel)) (by decide +kernel)
theorem kw_282 : Cond.instanceMethod ⟨"BigDesk", "power", "(III)I"⟩ ∈ gw := gw_t (List.mem_of_getElem? (i := 282) (by decide +kernel)) (by decide +kernel)
theorem kw_283 : Cond.selects "BigDesk" ⟨"BigDesk", "power", "(III)I"⟩ ⟨"BigDesk", "power", "(III)I"⟩ ∈ gw := gw_t (List.mem_of_getElem? (i := 283) (by decide +kernel)) (by decide +kernel)
set_option maxRecDepth 20000 in
theorem kw_284 : Cond.code ⟨"BigDesk", "power", "(III)I"⟩ prog_1_method_12_code 8 (some .int) ∈ gw := gw_t (List.mem_of_getElem? (i := 284) rfl) rfl
theorem kw_285 : Cond.methodLink "BigDeskLaw" 62 ⟨"BigDesk", "lowest", "(II)I"⟩ ∈ gw := gw_t (List.mem_of_getElem? (i := 285) (by decide +kernel)) (by decide +kernel)
theorem kw_286 : Cond.instanceMethod ⟨"BigDesk", "lowest", "(II)I"⟩ ∈ gw := gw_t (List.mem_of_getElem? (i := 286) (by decide +kernel)) (by decide +kernel)
theorem kw_287 : Cond.selects "BigDesk" ⟨"BigDesk", "lowest", "(II)I"⟩ ⟨"BigDesk", "lowest", "(II)I"⟩ ∈ gw := gw_t (List.mem_of_getElem? (i := 287) (by decide +kernel)) (by decide +kernel)
set_option maxRecDepth 20000 in
theorem kw_288 : Cond.code ⟨"BigDesk", "lowest", "(II)I"⟩ prog_1_method_13_code 3 (some .int) ∈ gw := gw_t (List.mem_of_getElem? (i := 288) rfl) rfl
theorem kw_289 : Cond.methodLink "BigDesk" 95 ⟨"BigDesk", "keepLowest", "(II)I"⟩ ∈ gw := gw_t (List.mem_of_getElem? (i := 289) (by decide +kernel)) (by decide +kernel)
theorem kw_291 : Cond.instanceMethod ⟨"BigDesk", "keepLowest", "(II)I"⟩ ∈ gw := gw_t (List.mem_of_getElem? (i := 291) (by decide +kernel)) (by decide +kernel)
set_option maxRecDepth 20000 in
theorem kw_292 : Cond.code ⟨"BigDesk", "keepLowest", "(II)I"⟩ prog_1_method_29_code 4 (some .int) ∈ gw := gw_t (List.mem_of_getElem? (i := 292) rfl) rfl
theorem kw_293 : Cond.methodLink "BigDesk" 139 ⟨"BigDesk$Whole", "turnSign", "()V"⟩ ∈ gw := gw_t (List.mem_of_getElem? (i := 293) (by decide +kernel)) (by decide +kernel)
theorem kw_294 : Cond.instanceMethod ⟨"BigDesk$Whole", "turnSign", "()V"⟩ ∈ gw := gw_t (List.mem_of_getElem? (i := 294) (by decide +kernel)) (by decide +kernel)
theorem kw_295 : Cond.selects "BigDesk$Whole" ⟨"BigDesk$Whole", "turnSign", "()V"⟩ ⟨"BigDesk$Whole", "turnSign", "()V"⟩ ∈ gw := gw_t (List.mem_of_getElem? (i := 295) (by decide +kernel)) (by decide +kernel)
set_option maxRecDepth 20000 in
theorem kw_296 : Cond.code ⟨"BigDesk$Whole", "turnSign", "()V"⟩ prog_3_method_4_code 1 none ∈ gw := gw_t (List.mem_of_getElem? (i := 296) rfl) rfl
theorem kw_297 : Cond.methodLink "BigDeskLaw" 66 ⟨"BigDesk", "fraction", "(IIII)I"⟩ ∈ gw := gw_t (List.mem_of_getElem? (i := 297) (by decide +kernel)) (by decide +kernel)
theorem kw_298 : Cond.instanceMethod ⟨"BigDesk", "fraction", "(IIII)I"⟩ ∈ gw := gw_t (List.mem_of_getElem? (i := 298) (by decide +kernel)) (by decide +kernel)
theorem kw_299 : Cond.selects "BigDesk" ⟨"BigDesk", "fraction", "(IIII)I"⟩ ⟨"BigDesk", "fraction", "(IIII)I"⟩ ∈ gw := gw_t (List.mem_of_getElem? (i := 299) (by decide +kernel)) (by decide +kernel)
set_option maxRecDepth 20000 in
theorem kw_300 : Cond.code ⟨"BigDesk", "fraction", "(IIII)I"⟩ prog_1_method_14_code 5 (some .int) ∈ gw := gw_t (List.mem_of_getElem? (i := 300) rfl) rfl
theorem kw_301 : Cond.methodLink "BigDesk" 99 ⟨"BigDesk", "areFractions", "(IIII)Z"⟩ ∈ gw := gw_t (List.mem_of_getElem? (i := 301) (by decide +kernel)) (by decide +kernel)
theorem kw_303 : Cond.instanceMethod ⟨"BigDesk", "areFractions", "(IIII)Z"⟩ ∈ gw := gw_t (List.mem_of_getElem? (i := 303) (by decide +kernel)) (by decide +kernel)
set_option maxRecDepth 20000 in
theorem kw_304 : Cond.code ⟨"BigDesk", "areFractions", "(IIII)Z"⟩ prog_1_method_24_code 5 (some .boolean) ∈ gw := gw_t (List.mem_of_getElem? (i := 304) rfl) rfl
theorem kw_305 : Cond.methodLink "BigDeskLaw" 71 ⟨"BigDesk", "order", "(II)I"⟩ ∈ gw := gw_t (List.mem_of_getElem? (i := 305) (by decide +kernel)) (by decide +kernel)
theorem kw_306 : Cond.instanceMethod ⟨"BigDesk", "order", "(II)I"⟩ ∈ gw := gw_t (List.mem_of_getElem? (i := 306) (by decide +kernel)) (by decide +kernel)
theorem kw_307 : Cond.selects "BigDesk" ⟨"BigDesk", "order", "(II)I"⟩ ⟨"BigDesk", "order", "(II)I"⟩ ∈ gw := gw_t (List.mem_of_getElem? (i := 307) (by decide +kernel)) (by decide +kernel)
set_option maxRecDepth 20000 in
theorem kw_308 : Cond.code ⟨"BigDesk", "order", "(II)I"⟩ prog_1_method_15_code 3 (some .int) ∈ gw := gw_t (List.mem_of_getElem? (i := 308) rfl) rfl
theorem kw_309 : Cond.methodLink "BigDesk" 103 ⟨"BigDesk$Whole", "compareWhole", "(LBigDesk$Whole;)I"⟩ ∈ gw := gw_t (List.mem_of_getElem? (i := 309) (by decide +kernel)) (by decide +kernel)
theorem kw_310 : Cond.instanceMethod ⟨"BigDesk$Whole", "compareWhole", "(LBigDesk$Whole;)I"⟩ ∈ gw := gw_t (List.mem_of_getElem? (i := 310) (by decide +kernel)) (by decide +kernel)
theorem kw_311 : Cond.selects "BigDesk$Whole" ⟨"BigDesk$Whole", "compareWhole", "(LBigDesk$Whole;)I"⟩ ⟨"BigDesk$Whole", "compareWhole", "(LBigDesk$Whole;)I"⟩ ∈ gw := gw_t (List.mem_of_getElem? (i := 311) (by decide +kernel)) (by decide +kernel)
set_option maxRecDepth 20000 in
theorem kw_312 : Cond.code ⟨"BigDesk$Whole", "compareWhole", "(LBigDesk$Whole;)I"⟩ prog_3_method_15_code 2 (some .int) ∈ gw := gw_t (List.mem_of_getElem? (i := 312) rfl) rfl
theorem kw_313 : Cond.methodLink "BigDeskLaw" 75 ⟨"BigDesk", "ratio", "(IIII)I"⟩ ∈ gw := gw_t (List.mem_of_getElem? (i := 313) (by decide +kernel)) (by decide +kernel)
theorem kw_314 : Cond.instanceMethod ⟨"BigDesk", "ratio", "(IIII)I"⟩ ∈ gw := gw_t (List.mem_of_getElem? (i := 314) (by decide +kernel)) (by decide +kernel)
theorem kw_315 : Cond.selects "BigDesk" ⟨"BigDesk", "ratio", "(IIII)I"⟩ ⟨"BigDesk", "ratio", "(IIII)I"⟩ ∈ gw := gw_t (List.mem_of_getElem? (i := 315) (by decide +kernel)) (by decide +kernel)
set_option maxRecDepth 20000 in
theorem kw_316 : Cond.code ⟨"BigDesk", "ratio", "(IIII)I"⟩ prog_1_method_16_code 6 (some .int) ∈ gw := gw_t (List.mem_of_getElem? (i := 316) rfl) rfl
theorem kw_317 : Cond.methodLink "BigDeskLaw" 79 ⟨"BigDesk", "sign", "(I)I"⟩ ∈ gw := gw_t (List.mem_of_getElem? (i := 317) (by decide +kernel)) (by decide +kernel)
theorem kw_318 : Cond.instanceMethod ⟨"BigDesk", "sign", "(I)I"⟩ ∈ gw := gw_t (List.mem_of_getElem? (i := 318) (by decide +kernel)) (by decide +kernel)
theorem kw_319 : Cond.selects "BigDesk" ⟨"BigDesk", "sign", "(I)I"⟩ ⟨"BigDesk", "sign", "(I)I"⟩ ∈ gw := gw_t (List.mem_of_getElem? (i := 319) (by decide +kernel)) (by decide +kernel)
set_option maxRecDepth 20000 in
theorem kw_320 : Cond.code ⟨"BigDesk", "sign", "(I)I"⟩ prog_1_method_17_code 2 (some .int) ∈ gw := gw_t (List.mem_of_getElem? (i := 320) rfl) rfl
theorem kw_321 : Cond.methodLink "BigDeskLaw" 84 ⟨"BigDesk", "digits", "(I)I"⟩ ∈ gw := gw_t (List.mem_of_getElem? (i := 321) (by decide +kernel)) (by decide +kernel)
theorem kw_322 : Cond.instanceMethod ⟨"BigDesk", "digits", "(I)I"⟩ ∈ gw := gw_t (List.mem_of_getElem? (i := 322) (by decide +kernel)) (by decide +kernel)
theorem kw_323 : Cond.selects "BigDesk" ⟨"BigDesk", "digits", "(I)I"⟩ ⟨"BigDesk", "digits", "(I)I"⟩ ∈ gw := gw_t (List.mem_of_getElem? (i := 323) (by decide +kernel)) (by decide +kernel)
set_option maxRecDepth 20000 in
theorem kw_324 : Cond.code ⟨"BigDesk", "digits", "(I)I"⟩ prog_1_method_18_code 2 (some .int) ∈ gw := gw_t (List.mem_of_getElem? (i := 324) rfl) rfl
theorem kw_325 : Cond.methodLink "BigDesk" 107 ⟨"BigDesk$Whole", "countDigits", "()I"⟩ ∈ gw := gw_t (List.mem_of_getElem? (i := 325) (by decide +kernel)) (by decide +kernel)
theorem kw_326 : Cond.instanceMethod ⟨"BigDesk$Whole", "countDigits", "()I"⟩ ∈ gw := gw_t (List.mem_of_getElem? (i := 326) (by decide +kernel)) (by decide +kernel)
theorem kw_327 : Cond.selects "BigDesk$Whole" ⟨"BigDesk$Whole", "countDigits", "()I"⟩ ⟨"BigDesk$Whole", "countDigits", "()I"⟩ ∈ gw := gw_t (List.mem_of_getElem? (i := 327) (by decide +kernel)) (by decide +kernel)
set_option maxRecDepth 20000 in
theorem kw_328 : Cond.code ⟨"BigDesk$Whole", "countDigits", "()I"⟩ prog_3_method_23_code 3 (some .int) ∈ gw := gw_t (List.mem_of_getElem? (i := 328) rfl) rfl
theorem kw_331 : Cond.methodLink "BigDeskLaw" 88 ⟨"BigDesk", "digitAt", "(II)I"⟩ ∈ gw := gw_t (List.mem_of_getElem? (i := 331) (by decide +kernel)) (by decide +kernel)
theorem kw_332 : Cond.instanceMethod ⟨"BigDesk", "digitAt", "(II)I"⟩ ∈ gw := gw_t (List.mem_of_getElem? (i := 332) (by decide +kernel)) (by decide +kernel)
theorem kw_333 : Cond.selects "BigDesk" ⟨"BigDesk", "digitAt", "(II)I"⟩ ⟨"BigDesk", "digitAt", "(II)I"⟩ ∈ gw := gw_t (List.mem_of_getElem? (i := 333) (by decide +kernel)) (by decide +kernel)
set_option maxRecDepth 20000 in
theorem kw_334 : Cond.code ⟨"BigDesk", "digitAt", "(II)I"⟩ prog_1_method_19_code 3 (some .int) ∈ gw := gw_t (List.mem_of_getElem? (i := 334) rfl) rfl
theorem kw_335 : Cond.methodLink "BigDesk" 111 ⟨"BigDesk$Whole", "digitOfPlace", "(I)I"⟩ ∈ gw := gw_t (List.mem_of_getElem? (i := 335) (by decide +kernel)) (by decide +kernel)
theorem kw_336 : Cond.instanceMethod ⟨"BigDesk$Whole", "digitOfPlace", "(I)I"⟩ ∈ gw := gw_t (List.mem_of_getElem? (i := 336) (by decide +kernel)) (by decide +kernel)
theorem kw_337 : Cond.selects "BigDesk$Whole" ⟨"BigDesk$Whole", "digitOfPlace", "(I)I"⟩ ⟨"BigDesk$Whole", "digitOfPlace", "(I)I"⟩ ∈ gw := gw_t (List.mem_of_getElem? (i := 337) (by decide +kernel)) (by decide +kernel)
set_option maxRecDepth 20000 in
theorem kw_338 : Cond.code ⟨"BigDesk$Whole", "digitOfPlace", "(I)I"⟩ prog_3_method_24_code 2 (some .int) ∈ gw := gw_t (List.mem_of_getElem? (i := 338) rfl) rfl
theorem kw_339 : Cond.methodLink "BigDeskLaw" 92 ⟨"BigDesk", "modulo", "(IJ)J"⟩ ∈ gw := gw_t (List.mem_of_getElem? (i := 339) (by decide +kernel)) (by decide +kernel)
theorem kw_340 : Cond.instanceMethod ⟨"BigDesk", "modulo", "(IJ)J"⟩ ∈ gw := gw_t (List.mem_of_getElem? (i := 340) (by decide +kernel)) (by decide +kernel)
theorem kw_341 : Cond.selects "BigDesk" ⟨"BigDesk", "modulo", "(IJ)J"⟩ ⟨"BigDesk", "modulo", "(IJ)J"⟩ ∈ gw := gw_t (List.mem_of_getElem? (i := 341) (by decide +kernel)) (by decide +kernel)
set_option maxRecDepth 20000 in
theorem kw_342 : Cond.code ⟨"BigDesk", "modulo", "(IJ)J"⟩ prog_1_method_20_code 4 (some .long) ∈ gw := gw_t (List.mem_of_getElem? (i := 342) rfl) rfl
theorem kw_343 : Cond.constantLong "BigDesk" 115 (1152921504606846976 : Int64) ∈ gw := gw_t (List.mem_of_getElem? (i := 343) (by decide +kernel)) (by decide +kernel)
theorem kw_344 : Cond.constantLong "BigDesk" 117 (-1 : Int64) ∈ gw := gw_t (List.mem_of_getElem? (i := 344) (by decide +kernel)) (by decide +kernel)
theorem kw_345 : Cond.methodLink "BigDesk" 119 ⟨"BigDesk$Whole", "remainder", "(J)J"⟩ ∈ gw := gw_t (List.mem_of_getElem? (i := 345) (by decide +kernel)) (by decide +kernel)
theorem kw_346 : Cond.instanceMethod ⟨"BigDesk$Whole", "remainder", "(J)J"⟩ ∈ gw := gw_t (List.mem_of_getElem? (i := 346) (by decide +kernel)) (by decide +kernel)
theorem kw_347 : Cond.selects "BigDesk$Whole" ⟨"BigDesk$Whole", "remainder", "(J)J"⟩ ⟨"BigDesk$Whole", "remainder", "(J)J"⟩ ∈ gw := gw_t (List.mem_of_getElem? (i := 347) (by decide +kernel)) (by decide +kernel)
set_option maxRecDepth 20000 in
theorem kw_348 : Cond.code ⟨"BigDesk$Whole", "remainder", "(J)J"⟩ prog_3_method_25_code 10 (some .long) ∈ gw := gw_t (List.mem_of_getElem? (i := 348) rfl) rfl
theorem kw_351 : Cond.methodLink "BigDeskLaw" 97 ⟨"BigDesk", "low", "(I)J"⟩ ∈ gw := gw_t (List.mem_of_getElem? (i := 351) (by decide +kernel)) (by decide +kernel)
theorem kw_352 : Cond.instanceMethod ⟨"BigDesk", "low", "(I)J"⟩ ∈ gw := gw_t (List.mem_of_getElem? (i := 352) (by decide +kernel)) (by decide +kernel)
theorem kw_353 : Cond.selects "BigDesk" ⟨"BigDesk", "low", "(I)J"⟩ ⟨"BigDesk", "low", "(I)J"⟩ ∈ gw := gw_t (List.mem_of_getElem? (i := 353) (by decide +kernel)) (by decide +kernel)
set_option maxRecDepth 20000 in
theorem kw_354 : Cond.code ⟨"BigDesk", "low", "(I)J"⟩ prog_1_method_21_code 2 (some .long) ∈ gw := gw_t (List.mem_of_getElem? (i := 354) rfl) rfl
theorem kw_355 : Cond.methodLink "BigDesk" 123 ⟨"BigDesk$Whole", "lowBits", "()J"⟩ ∈ gw := gw_t (List.mem_of_getElem? (i := 355) (by decide +kernel)) (by decide +kernel)
theorem kw_356 : Cond.instanceMethod ⟨"BigDesk$Whole", "lowBits", "()J"⟩ ∈ gw := gw_t (List.mem_of_getElem? (i := 356) (by decide +kernel)) (by decide +kernel)
theorem kw_357 : Cond.selects "BigDesk$Whole" ⟨"BigDesk$Whole", "lowBits", "()J"⟩ ⟨"BigDesk$Whole", "lowBits", "()J"⟩ ∈ gw := gw_t (List.mem_of_getElem? (i := 357) (by decide +kernel)) (by decide +kernel)
set_option maxRecDepth 20000 in
theorem kw_358 : Cond.code ⟨"BigDesk$Whole", "lowBits", "()J"⟩ prog_3_method_26_code 4 (some .long) ∈ gw := gw_t (List.mem_of_getElem? (i := 358) rfl) rfl
theorem kw_359 : Cond.classLink "BigDeskLaw" 10 "BigDeskModel" ∈ gw := gw_t (List.mem_of_getElem? (i := 359) (by decide +kernel)) (by decide +kernel)
theorem kw_360 : Cond.instantiable "BigDeskModel" 4 ∈ gw := gw_t (List.mem_of_getElem? (i := 360) (by decide +kernel)) (by decide +kernel)
theorem kw_361 : Cond.methodLink "BigDeskLaw" 12 ⟨"BigDeskModel", "<init>", "()V"⟩ ∈ gw := gw_t (List.mem_of_getElem? (i := 361) (by decide +kernel)) (by decide +kernel)
theorem kw_362 : Cond.instanceMethod ⟨"BigDeskModel", "<init>", "()V"⟩ ∈ gw := gw_t (List.mem_of_getElem? (i := 362) (by decide +kernel)) (by decide +kernel)
set_option maxRecDepth 20000 in
theorem kw_363 : Cond.code ⟨"BigDeskModel", "<init>", "()V"⟩ prog_5_method_1_code 2 none ∈ gw := gw_t (List.mem_of_getElem? (i := 363) rfl) rfl
theorem kw_364 : Cond.methodLink "BigDeskModel" 1 ⟨"java/lang/Object", "<init>", "()V"⟩ ∈ gw := gw_t (List.mem_of_getElem? (i := 364) (by decide +kernel)) (by decide +kernel)
theorem kw_365 : Cond.methodLink "BigDeskModel" 23 ⟨"BigDeskModel", "put", "(IJ)V"⟩ ∈ gw := gw_t (List.mem_of_getElem? (i := 365) (by decide +kernel)) (by decide +kernel)
theorem kw_367 : Cond.instanceMethod ⟨"BigDeskModel", "put", "(IJ)V"⟩ ∈ gw := gw_t (List.mem_of_getElem? (i := 367) (by decide +kernel)) (by decide +kernel)
set_option maxRecDepth 20000 in
theorem kw_368 : Cond.code ⟨"BigDeskModel", "put", "(IJ)V"⟩ prog_5_method_4_code 7 none ∈ gw := gw_t (List.mem_of_getElem? (i := 368) rfl) rfl
theorem kw_369 : Cond.constant "BigDeskModel" 37 (65535 : Int32) ∈ gw := gw_t (List.mem_of_getElem? (i := 369) (by decide +kernel)) (by decide +kernel)
theorem kw_370 : Cond.methodLink "BigDeskModel" 38 ⟨"BigDeskModel", "settle", "(II)V"⟩ ∈ gw := gw_t (List.mem_of_getElem? (i := 370) (by decide +kernel)) (by decide +kernel)
theorem kw_372 : Cond.instanceMethod ⟨"BigDeskModel", "settle", "(II)V"⟩ ∈ gw := gw_t (List.mem_of_getElem? (i := 372) (by decide +kernel)) (by decide +kernel)
set_option maxRecDepth 20000 in
theorem kw_373 : Cond.code ⟨"BigDeskModel", "settle", "(II)V"⟩ prog_5_method_3_code 5 none ∈ gw := gw_t (List.mem_of_getElem? (i := 373) rfl) rfl
theorem kw_374 : Cond.methodLink "BigDeskModel" 33 ⟨"BigDeskModel", "at", "(II)I"⟩ ∈ gw := gw_t (List.mem_of_getElem? (i := 374) (by decide +kernel)) (by decide +kernel)
theorem kw_376 : Cond.instanceMethod ⟨"BigDeskModel", "at", "(II)I"⟩ ∈ gw := gw_t (List.mem_of_getElem? (i := 376) (by decide +kernel)) (by decide +kernel)
set_option maxRecDepth 20000 in
theorem kw_377 : Cond.code ⟨"BigDeskModel", "at", "(II)I"⟩ prog_5_method_2_code 3 (some .int) ∈ gw := gw_t (List.mem_of_getElem? (i := 377) rfl) rfl
theorem kw_378 : Cond.constantLong "BigDeskModel" 27 (10 : Int64) ∈ gw := gw_t (List.mem_of_getElem? (i := 378) (by decide +kernel)) (by decide +kernel)
theorem kw_379 : Cond.methodLink "BigDeskModel" 29 ⟨"BigDeskModel", "multiply", "(III)V"⟩ ∈ gw := gw_t (List.mem_of_getElem? (i := 379) (by decide +kernel)) (by decide +kernel)
theorem kw_381 : Cond.instanceMethod ⟨"BigDeskModel", "multiply", "(III)V"⟩ ∈ gw := gw_t (List.mem_of_getElem? (i := 381) (by decide +kernel)) (by decide +kernel)
set_option maxRecDepth 20000 in
theorem kw_382 : Cond.code ⟨"BigDeskModel", "multiply", "(III)V"⟩ prog_5_method_11_code 8 none ∈ gw := gw_t (List.mem_of_getElem? (i := 382) rfl) rfl
theorem kw_383 : Cond.constantLong "BigDeskModel" 51 (65535 : Int64) ∈ gw := gw_t (List.mem_of_getElem? (i := 383) (by decide +kernel)) (by decide +kernel)
theorem kw_384 : Cond.fieldLink "BigDeskModel" 7 "BigDeskModel" "limbs" "[I" ∈ gw := gw_t (List.mem_of_getElem? (i := 384) (by decide +kernel)) (by decide +kernel)
theorem kw_385 : Cond.fieldLink "BigDeskModel" 13 "BigDeskModel" "signs" "[I" ∈ gw := gw_t (List.mem_of_getElem? (i := 385) (by decide +kernel)) (by decide +kernel)
theorem kw_386 : Cond.fieldLink "BigDeskModel" 16 "BigDeskModel" "sums" "[J" ∈ gw := gw_t (List.mem_of_getElem? (i := 386) (by decide +kernel)) (by decide +kernel)
theorem kw_387 : Cond.fieldLink "BigDeskModel" 20 "BigDeskModel" "digits" "[I" ∈ gw := gw_t (List.mem_of_getElem? (i := 387) (by decide +kernel)) (by decide +kernel)
theorem kw_388 : Cond.laysFinal "BigDeskModel" "BigDeskModel" "limbs" "[I" ∈ gw := gw_t (List.mem_of_getElem? (i := 388) (by decide +kernel)) (by decide +kernel)
theorem kw_389 : Cond.soleField "BigDeskModel" "limbs" ∈ gw := gw_t (List.mem_of_getElem? (i := 389) (by decide +kernel)) (by decide +kernel)
theorem kw_390 : Cond.laysFinal "BigDeskModel" "BigDeskModel" "signs" "[I" ∈ gw := gw_t (List.mem_of_getElem? (i := 390) (by decide +kernel)) (by decide +kernel)
theorem kw_391 : Cond.soleField "BigDeskModel" "signs" ∈ gw := gw_t (List.mem_of_getElem? (i := 391) (by decide +kernel)) (by decide +kernel)
theorem kw_392 : Cond.laysFinal "BigDeskModel" "BigDeskModel" "sums" "[J" ∈ gw := gw_t (List.mem_of_getElem? (i := 392) (by decide +kernel)) (by decide +kernel)
theorem kw_393 : Cond.soleField "BigDeskModel" "sums" ∈ gw := gw_t (List.mem_of_getElem? (i := 393) (by decide +kernel)) (by decide +kernel)
theorem kw_394 : Cond.laysFinal "BigDeskModel" "BigDeskModel" "digits" "[I" ∈ gw := gw_t (List.mem_of_getElem? (i := 394) (by decide +kernel)) (by decide +kernel)
theorem kw_395 : Cond.soleField "BigDeskModel" "digits" ∈ gw := gw_t (List.mem_of_getElem? (i := 395) (by decide +kernel)) (by decide +kernel)
theorem kw_396 : Cond.superclass "BigDeskModel" "java/lang/Object" ∈ gw := gw_t (List.mem_of_getElem? (i := 396) (by decide +kernel)) (by decide +kernel)
theorem kw_397 : Cond.arrayClass .long ∈ gw := gw_t (List.mem_of_getElem? (i := 397) (by decide +kernel)) (by decide +kernel)
theorem kw_398 : Cond.methodLink "BigDeskLaw" 19 ⟨"BigDeskModel", "set", "(IJ)I"⟩ ∈ gw := gw_t (List.mem_of_getElem? (i := 398) (by decide +kernel)) (by decide +kernel)
theorem kw_399 : Cond.instanceMethod ⟨"BigDeskModel", "set", "(IJ)I"⟩ ∈ gw := gw_t (List.mem_of_getElem? (i := 399) (by decide +kernel)) (by decide +kernel)
theorem kw_400 : Cond.selects "BigDeskModel" ⟨"BigDeskModel", "set", "(IJ)I"⟩ ⟨"BigDeskModel", "set", "(IJ)I"⟩ ∈ gw := gw_t (List.mem_of_getElem? (i := 400) (by decide +kernel)) (by decide +kernel)
set_option maxRecDepth 20000 in
theorem kw_401 : Cond.code ⟨"BigDeskModel", "set", "(IJ)I"⟩ prog_5_method_22_code 4 (some .int) ∈ gw := gw_t (List.mem_of_getElem? (i := 401) rfl) rfl
theorem kw_402 : Cond.methodLink "BigDeskModel" 69 ⟨"BigDeskModel", "isSlot", "(I)Z"⟩ ∈ gw := gw_t (List.mem_of_getElem? (i := 402) (by decide +kernel)) (by decide +kernel)
theorem kw_403 : Cond.static ⟨"BigDeskModel", "isSlot", "(I)Z"⟩ ∈ gw := gw_t (List.mem_of_getElem? (i := 403) (by decide +kernel)) (by decide +kernel)
set_option maxRecDepth 20000 in
theorem kw_404 : Cond.code ⟨"BigDeskModel", "isSlot", "(I)Z"⟩ prog_5_method_18_code 1 (some .boolean) ∈ gw := gw_t (List.mem_of_getElem? (i := 404) rfl) rfl
theorem kw_405 : Cond.methodLink "BigDeskLaw" 24 ⟨"BigDeskModel", "digit", "(II)I"⟩ ∈ gw := gw_t (List.mem_of_getElem? (i := 405) (by decide +kernel)) (by decide +kernel)
theorem kw_406 : Cond.instanceMethod ⟨"BigDeskModel", "digit", "(II)I"⟩ ∈ gw := gw_t (List.mem_of_getElem? (i := 406) (by decide +kernel)) (by decide +kernel)
theorem kw_407 : Cond.selects "BigDeskModel" ⟨"BigDeskModel", "digit", "(II)I"⟩ ⟨"BigDeskModel", "digit", "(II)I"⟩ ∈ gw := gw_t (List.mem_of_getElem? (i := 407) (by decide +kernel)) (by decide +kernel)
set_option maxRecDepth 20000 in
theorem kw_408 : Cond.code ⟨"BigDeskModel", "digit", "(II)I"⟩ prog_5_method_23_code 3 (some .int) ∈ gw := gw_t (List.mem_of_getElem? (i := 408) rfl) rfl
theorem kw_409 : Cond.methodLink "BigDeskModel" 76 ⟨"BigDeskModel", "combine", "(IIII)V"⟩ ∈ gw := gw_t (List.mem_of_getElem? (i := 409) (by decide +kernel)) (by decide +kernel)
theorem kw_411 : Cond.instanceMethod ⟨"BigDeskModel", "combine", "(IIII)V"⟩ ∈ gw := gw_t (List.mem_of_getElem? (i := 411) (by decide +kernel)) (by decide +kernel)
set_option maxRecDepth 20000 in
theorem kw_412 : Cond.code ⟨"BigDeskModel", "combine", "(IIII)V"⟩ prog_5_method_10_code 7 none ∈ gw := gw_t (List.mem_of_getElem? (i := 412) rfl) rfl
theorem kw_413 : Cond.methodLink "BigDeskModel" 45 ⟨"BigDeskModel", "addSizes", "(III)V"⟩ ∈ gw := gw_t (List.mem_of_getElem? (i := 413) (by decide +kernel)) (by decide +kernel)
theorem kw_415 : Cond.instanceMethod ⟨"BigDeskModel", "addSizes", "(III)V"⟩ ∈ gw := gw_t (List.mem_of_getElem? (i := 415) (by decide +kernel)) (by decide +kernel)
set_option maxRecDepth 20000 in
theorem kw_416 : Cond.code ⟨"BigDeskModel", "addSizes", "(III)V"⟩ prog_5_method_8_code 6 none ∈ gw := gw_t (List.mem_of_getElem? (i := 416) rfl) rfl
theorem kw_417 : Cond.methodLink "BigDeskModel" 42 ⟨"BigDeskModel", "sizes", "(II)I"⟩ ∈ gw := gw_t (List.mem_of_getElem? (i := 417) (by decide +kernel)) (by decide +kernel)
theorem kw_419 : Cond.instanceMethod ⟨"BigDeskModel", "sizes", "(II)I"⟩ ∈ gw := gw_t (List.mem_of_getElem? (i := 419) (by decide +kernel)) (by decide +kernel)
set_option maxRecDepth 20000 in
theorem kw_420 : Cond.code ⟨"BigDeskModel", "sizes", "(II)I"⟩ prog_5_method_6_code 4 (some .int) ∈ gw := gw_t (List.mem_of_getElem? (i := 420) rfl) rfl
theorem kw_421 : Cond.methodLink "BigDeskModel" 48 ⟨"BigDeskModel", "takeSizes", "(III)V"⟩ ∈ gw := gw_t (List.mem_of_getElem? (i := 421) (by decide +kernel)) (by decide +kernel)
theorem kw_423 : Cond.instanceMethod ⟨"BigDeskModel", "takeSizes", "(III)V"⟩ ∈ gw := gw_t (List.mem_of_getElem? (i := 423) (by decide +kernel)) (by decide +kernel)
set_option maxRecDepth 20000 in
theorem kw_424 : Cond.code ⟨"BigDeskModel", "takeSizes", "(III)V"⟩ prog_5_method_9_code 6 none ∈ gw := gw_t (List.mem_of_getElem? (i := 424) rfl) rfl
theorem kw_425 : Cond.methodLink "BigDeskModel" 80 ⟨"BigDeskModel", "keep", "(II)I"⟩ ∈ gw := gw_t (List.mem_of_getElem? (i := 425) (by decide +kernel)) (by decide +kernel)
theorem kw_427 : Cond.instanceMethod ⟨"BigDeskModel", "keep", "(II)I"⟩ ∈ gw := gw_t (List.mem_of_getElem? (i := 427) (by decide +kernel)) (by decide +kernel)
set_option maxRecDepth 20000 in
theorem kw_428 : Cond.code ⟨"BigDeskModel", "keep", "(II)I"⟩ prog_5_method_21_code 3 (some .int) ∈ gw := gw_t (List.mem_of_getElem? (i := 428) rfl) rfl
theorem kw_429 : Cond.methodLink "BigDeskModel" 73 ⟨"BigDeskModel", "isLong", "(I)Z"⟩ ∈ gw := gw_t (List.mem_of_getElem? (i := 429) (by decide +kernel)) (by decide +kernel)
theorem kw_431 : Cond.instanceMethod ⟨"BigDeskModel", "isLong", "(I)Z"⟩ ∈ gw := gw_t (List.mem_of_getElem? (i := 431) (by decide +kernel)) (by decide +kernel)
set_option maxRecDepth 20000 in
theorem kw_432 : Cond.code ⟨"BigDeskModel", "isLong", "(I)Z"⟩ prog_5_method_20_code 2 (some .boolean) ∈ gw := gw_t (List.mem_of_getElem? (i := 432) rfl) rfl
theorem kw_433 : Cond.methodLink "BigDeskModel" 59 ⟨"BigDeskModel", "move", "(II)V"⟩ ∈ gw := gw_t (List.mem_of_getElem? (i := 433) (by decide +kernel)) (by decide +kernel)
theorem kw_435 : Cond.instanceMethod ⟨"BigDeskModel", "move", "(II)V"⟩ ∈ gw := gw_t (List.mem_of_getElem? (i := 435) (by decide +kernel)) (by decide +kernel)
set_option maxRecDepth 20000 in
theorem kw_436 : Cond.code ⟨"BigDeskModel", "move", "(II)V"⟩ prog_5_method_5_code 4 none ∈ gw := gw_t (List.mem_of_getElem? (i := 436) rfl) rfl
theorem kw_437 : Cond.methodLink "BigDeskLaw" 28 ⟨"BigDeskModel", "copy", "(II)I"⟩ ∈ gw := gw_t (List.mem_of_getElem? (i := 437) (by decide +kernel)) (by decide +kernel)
theorem kw_438 : Cond.instanceMethod ⟨"BigDeskModel", "copy", "(II)I"⟩ ∈ gw := gw_t (List.mem_of_getElem? (i := 438) (by decide +kernel)) (by decide +kernel)
theorem kw_439 : Cond.selects "BigDeskModel" ⟨"BigDeskModel", "copy", "(II)I"⟩ ⟨"BigDeskModel", "copy", "(II)I"⟩ ∈ gw := gw_t (List.mem_of_getElem? (i := 439) (by decide +kernel)) (by decide +kernel)
set_option maxRecDepth 20000 in
theorem kw_440 : Cond.code ⟨"BigDeskModel", "copy", "(II)I"⟩ prog_5_method_24_code 3 (some .int) ∈ gw := gw_t (List.mem_of_getElem? (i := 440) rfl) rfl
theorem kw_441 : Cond.methodLink "BigDeskLaw" 33 ⟨"BigDeskModel", "sum", "(III)I"⟩ ∈ gw := gw_t (List.mem_of_getElem? (i := 441) (by decide +kernel)) (by decide +kernel)
theorem kw_442 : Cond.instanceMethod ⟨"BigDeskModel", "sum", "(III)I"⟩ ∈ gw := gw_t (List.mem_of_getElem? (i := 442) (by decide +kernel)) (by decide +kernel)
theorem kw_443 : Cond.selects "BigDeskModel" ⟨"BigDeskModel", "sum", "(III)I"⟩ ⟨"BigDeskModel", "sum", "(III)I"⟩ ∈ gw := gw_t (List.mem_of_getElem? (i := 443) (by decide +kernel)) (by decide +kernel)
set_option maxRecDepth 20000 in
theorem kw_444 : Cond.code ⟨"BigDeskModel", "sum", "(III)I"⟩ prog_5_method_25_code 4 (some .int) ∈ gw := gw_t (List.mem_of_getElem? (i := 444) rfl) rfl
theorem kw_445 : Cond.methodLink "BigDeskModel" 83 ⟨"BigDeskModel", "are", "(III)Z"⟩ ∈ gw := gw_t (List.mem_of_getElem? (i := 445) (by decide +kernel)) (by decide +kernel)
theorem kw_446 : Cond.static ⟨"BigDeskModel", "are", "(III)Z"⟩ ∈ gw := gw_t (List.mem_of_getElem? (i := 446) (by decide +kernel)) (by decide +kernel)
set_option maxRecDepth 20000 in
theorem kw_447 : Cond.code ⟨"BigDeskModel", "are", "(III)Z"⟩ prog_5_method_19_code 3 (some .boolean) ∈ gw := gw_t (List.mem_of_getElem? (i := 447) rfl) rfl
theorem kw_448 : Cond.methodLink "BigDeskLaw" 37 ⟨"BigDeskModel", "less", "(III)I"⟩ ∈ gw := gw_t (List.mem_of_getElem? (i := 448) (by decide +kernel)) (by decide +kernel)
theorem kw_449 : Cond.instanceMethod ⟨"BigDeskModel", "less", "(III)I"⟩ ∈ gw := gw_t (List.mem_of_getElem? (i := 449) (by decide +kernel)) (by decide +kernel)
theorem kw_450 : Cond.selects "BigDeskModel" ⟨"BigDeskModel", "less", "(III)I"⟩ ⟨"BigDeskModel", "less", "(III)I"⟩ ∈ gw := gw_t (List.mem_of_getElem? (i := 450) (by decide +kernel)) (by decide +kernel)
set_option maxRecDepth 20000 in
theorem kw_451 : Cond.code ⟨"BigDeskModel", "less", "(III)I"⟩ prog_5_method_26_code 4 (some .int) ∈ gw := gw_t (List.mem_of_getElem? (i := 451) rfl) rfl
theorem kw_452 : Cond.methodLink "BigDeskLaw" 41 ⟨"BigDeskModel", "product", "(III)I"⟩ ∈ gw := gw_t (List.mem_of_getElem? (i := 452) (by decide +kernel)) (by decide +kernel)
theorem kw_453 : Cond.instanceMethod ⟨"BigDeskModel", "product", "(III)I"⟩ ∈ gw := gw_t (List.mem_of_getElem? (i := 453) (by decide +kernel)) (by decide +kernel)
theorem kw_454 : Cond.selects "BigDeskModel" ⟨"BigDeskModel", "product", "(III)I"⟩ ⟨"BigDeskModel", "product", "(III)I"⟩ ∈ gw := gw_t (List.mem_of_getElem? (i := 454) (by decide +kernel)) (by decide +kernel)
set_option maxRecDepth 20000 in
theorem kw_455 : Cond.code ⟨"BigDeskModel", "product", "(III)I"⟩ prog_5_method_27_code 4 (some .int) ∈ gw := gw_t (List.mem_of_getElem? (i := 455) rfl) rfl
theorem kw_456 : Cond.methodLink "BigDeskLaw" 45 ⟨"BigDeskModel", "over", "(III)I"⟩ ∈ gw := gw_t (List.mem_of_getElem? (i := 456) (by decide +kernel)) (by decide +kernel)
theorem kw_457 : Cond.instanceMethod ⟨"BigDeskModel", "over", "(III)I"⟩ ∈ gw := gw_t (List.mem_of_getElem? (i := 457) (by decide +kernel)) (by decide +kernel)
theorem kw_458 : Cond.selects "BigDeskModel" ⟨"BigDeskModel", "over", "(III)I"⟩ ⟨"BigDeskModel", "over", "(III)I"⟩ ∈ gw := gw_t (List.mem_of_getElem? (i := 458) (by decide +kernel)) (by decide +kernel)
set_option maxRecDepth 20000 in
theorem kw_459 : Cond.code ⟨"BigDeskModel", "over", "(III)I"⟩ prog_5_method_28_code 4 (some .int) ∈ gw := gw_t (List.mem_of_getElem? (i := 459) rfl) rfl
theorem kw_460 : Cond.methodLink "BigDeskModel" 87 ⟨"BigDeskModel", "divide", "(II)V"⟩ ∈ gw := gw_t (List.mem_of_getElem? (i := 460) (by decide +kernel)) (by decide +kernel)
theorem kw_462 : Cond.instanceMethod ⟨"BigDeskModel", "divide", "(II)V"⟩ ∈ gw := gw_t (List.mem_of_getElem? (i := 462) (by decide +kernel)) (by decide +kernel)
set_option maxRecDepth 20000 in
theorem kw_463 : Cond.code ⟨"BigDeskModel", "divide", "(II)V"⟩ prog_5_method_15_code 5 none ∈ gw := gw_t (List.mem_of_getElem? (i := 463) rfl) rfl
theorem kw_464 : Cond.methodLink "BigDeskModel" 53 ⟨"BigDeskModel", "bit", "(II)I"⟩ ∈ gw := gw_t (List.mem_of_getElem? (i := 464) (by decide +kernel)) (by decide +kernel)
theorem kw_466 : Cond.instanceMethod ⟨"BigDeskModel", "bit", "(II)I"⟩ ∈ gw := gw_t (List.mem_of_getElem? (i := 466) (by decide +kernel)) (by decide +kernel)
set_option maxRecDepth 20000 in
theorem kw_467 : Cond.code ⟨"BigDeskModel", "bit", "(II)I"⟩ prog_5_method_12_code 3 (some .int) ∈ gw := gw_t (List.mem_of_getElem? (i := 467) rfl) rfl
theorem kw_468 : Cond.methodLink "BigDeskModel" 56 ⟨"BigDeskModel", "twice", "(II)V"⟩ ∈ gw := gw_t (List.mem_of_getElem? (i := 468) (by decide +kernel)) (by decide +kernel)
theorem kw_470 : Cond.instanceMethod ⟨"BigDeskModel", "twice", "(II)V"⟩ ∈ gw := gw_t (List.mem_of_getElem? (i := 470) (by decide +kernel)) (by decide +kernel)
set_option maxRecDepth 20000 in
theorem kw_471 : Cond.code ⟨"BigDeskModel", "twice", "(II)V"⟩ prog_5_method_14_code 5 none ∈ gw := gw_t (List.mem_of_getElem? (i := 471) rfl) rfl
theorem kw_472 : Cond.methodLink "BigDeskLaw" 49 ⟨"BigDeskModel", "left", "(III)I"⟩ ∈ gw := gw_t (List.mem_of_getElem? (i := 472) (by decide +kernel)) (by decide +kernel)
theorem kw_473 : Cond.instanceMethod ⟨"BigDeskModel", "left", "(III)I"⟩ ∈ gw := gw_t (List.mem_of_getElem? (i := 473) (by decide +kernel)) (by decide +kernel)
theorem kw_474 : Cond.selects "BigDeskModel" ⟨"BigDeskModel", "left", "(III)I"⟩ ⟨"BigDeskModel", "left", "(III)I"⟩ ∈ gw := gw_t (List.mem_of_getElem? (i := 474) (by decide +kernel)) (by decide +kernel)
set_option maxRecDepth 20000 in
theorem kw_475 : Cond.code ⟨"BigDeskModel", "left", "(III)I"⟩ prog_5_method_29_code 4 (some .int) ∈ gw := gw_t (List.mem_of_getElem? (i := 475) rfl) rfl
theorem kw_476 : Cond.methodLink "BigDeskLaw" 53 ⟨"BigDeskModel", "divisor", "(III)I"⟩ ∈ gw := gw_t (List.mem_of_getElem? (i := 476) (by decide +kernel)) (by decide +kernel)
theorem kw_477 : Cond.instanceMethod ⟨"BigDeskModel", "divisor", "(III)I"⟩ ∈ gw := gw_t (List.mem_of_getElem? (i := 477) (by decide +kernel)) (by decide +kernel)
theorem kw_478 : Cond.selects "BigDeskModel" ⟨"BigDeskModel", "divisor", "(III)I"⟩ ⟨"BigDeskModel", "divisor", "(III)I"⟩ ∈ gw := gw_t (List.mem_of_getElem? (i := 478) (by decide +kernel)) (by decide +kernel)
set_option maxRecDepth 20000 in
theorem kw_479 : Cond.code ⟨"BigDeskModel", "divisor", "(III)I"⟩ prog_5_method_30_code 4 (some .int) ∈ gw := gw_t (List.mem_of_getElem? (i := 479) rfl) rfl
theorem kw_480 : Cond.methodLink "BigDeskModel" 90 ⟨"BigDeskModel", "common", "(II)V"⟩ ∈ gw := gw_t (List.mem_of_getElem? (i := 480) (by decide +kernel)) (by decide +kernel)
theorem kw_482 : Cond.instanceMethod ⟨"BigDeskModel", "common", "(II)V"⟩ ∈ gw := gw_t (List.mem_of_getElem? (i := 482) (by decide +kernel)) (by decide +kernel)
set_option maxRecDepth 20000 in
theorem kw_483 : Cond.code ⟨"BigDeskModel", "common", "(II)V"⟩ prog_5_method_17_code 5 none ∈ gw := gw_t (List.mem_of_getElem? (i := 483) rfl) rfl
theorem kw_484 : Cond.methodLink "BigDeskModel" 62 ⟨"BigDeskModel", "size", "(II)V"⟩ ∈ gw := gw_t (List.mem_of_getElem? (i := 484) (by decide +kernel)) (by decide +kernel)
theorem kw_486 : Cond.instanceMethod ⟨"BigDeskModel", "size", "(II)V"⟩ ∈ gw := gw_t (List.mem_of_getElem? (i := 486) (by decide +kernel)) (by decide +kernel)
set_option maxRecDepth 20000 in
theorem kw_487 : Cond.code ⟨"BigDeskModel", "size", "(II)V"⟩ prog_5_method_16_code 3 none ∈ gw := gw_t (List.mem_of_getElem? (i := 487) rfl) rfl
theorem kw_488 : Cond.methodLink "BigDeskModel" 65 ⟨"BigDeskModel", "half", "(I)V"⟩ ∈ gw := gw_t (List.mem_of_getElem? (i := 488) (by decide +kernel)) (by decide +kernel)
theorem kw_490 : Cond.instanceMethod ⟨"BigDeskModel", "half", "(I)V"⟩ ∈ gw := gw_t (List.mem_of_getElem? (i := 490) (by decide +kernel)) (by decide +kernel)
set_option maxRecDepth 20000 in
theorem kw_491 : Cond.code ⟨"BigDeskModel", "half", "(I)V"⟩ prog_5_method_13_code 4 none ∈ gw := gw_t (List.mem_of_getElem? (i := 491) rfl) rfl
theorem kw_492 : Cond.methodLink "BigDeskLaw" 57 ⟨"BigDeskModel", "root", "(II)I"⟩ ∈ gw := gw_t (List.mem_of_getElem? (i := 492) (by decide +kernel)) (by decide +kernel)
theorem kw_493 : Cond.instanceMethod ⟨"BigDeskModel", "root", "(II)I"⟩ ∈ gw := gw_t (List.mem_of_getElem? (i := 493) (by decide +kernel)) (by decide +kernel)
theorem kw_494 : Cond.selects "BigDeskModel" ⟨"BigDeskModel", "root", "(II)I"⟩ ⟨"BigDeskModel", "root", "(II)I"⟩ ∈ gw := gw_t (List.mem_of_getElem? (i := 494) (by decide +kernel)) (by decide +kernel)
set_option maxRecDepth 20000 in
theorem kw_495 : Cond.code ⟨"BigDeskModel", "root", "(II)I"⟩ prog_5_method_31_code 4 (some .int) ∈ gw := gw_t (List.mem_of_getElem? (i := 495) rfl) rfl
theorem kw_496 : Cond.methodLink "BigDeskLaw" 61 ⟨"BigDeskModel", "power", "(III)I"⟩ ∈ gw := gw_t (List.mem_of_getElem? (i := 496) (by decide +kernel)) (by decide +kernel)
theorem kw_497 : Cond.instanceMethod ⟨"BigDeskModel", "power", "(III)I"⟩ ∈ gw := gw_t (List.mem_of_getElem? (i := 497) (by decide +kernel)) (by decide +kernel)
theorem kw_498 : Cond.selects "BigDeskModel" ⟨"BigDeskModel", "power", "(III)I"⟩ ⟨"BigDeskModel", "power", "(III)I"⟩ ∈ gw := gw_t (List.mem_of_getElem? (i := 498) (by decide +kernel)) (by decide +kernel)
set_option maxRecDepth 20000 in
theorem kw_499 : Cond.code ⟨"BigDeskModel", "power", "(III)I"⟩ prog_5_method_32_code 5 (some .int) ∈ gw := gw_t (List.mem_of_getElem? (i := 499) rfl) rfl
theorem kw_500 : Cond.methodLink "BigDeskLaw" 65 ⟨"BigDeskModel", "lowest", "(II)I"⟩ ∈ gw := gw_t (List.mem_of_getElem? (i := 500) (by decide +kernel)) (by decide +kernel)
theorem kw_501 : Cond.instanceMethod ⟨"BigDeskModel", "lowest", "(II)I"⟩ ∈ gw := gw_t (List.mem_of_getElem? (i := 501) (by decide +kernel)) (by decide +kernel)
theorem kw_502 : Cond.selects "BigDeskModel" ⟨"BigDeskModel", "lowest", "(II)I"⟩ ⟨"BigDeskModel", "lowest", "(II)I"⟩ ∈ gw := gw_t (List.mem_of_getElem? (i := 502) (by decide +kernel)) (by decide +kernel)
set_option maxRecDepth 20000 in
theorem kw_503 : Cond.code ⟨"BigDeskModel", "lowest", "(II)I"⟩ prog_5_method_34_code 3 (some .int) ∈ gw := gw_t (List.mem_of_getElem? (i := 503) rfl) rfl
theorem kw_504 : Cond.methodLink "BigDeskModel" 93 ⟨"BigDeskModel", "keepFraction", "(II)I"⟩ ∈ gw := gw_t (List.mem_of_getElem? (i := 504) (by decide +kernel)) (by decide +kernel)
theorem kw_506 : Cond.instanceMethod ⟨"BigDeskModel", "keepFraction", "(II)I"⟩ ∈ gw := gw_t (List.mem_of_getElem? (i := 506) (by decide +kernel)) (by decide +kernel)
set_option maxRecDepth 20000 in
theorem kw_507 : Cond.code ⟨"BigDeskModel", "keepFraction", "(II)I"⟩ prog_5_method_33_code 4 (some .int) ∈ gw := gw_t (List.mem_of_getElem? (i := 507) rfl) rfl
theorem kw_508 : Cond.methodLink "BigDeskLaw" 70 ⟨"BigDeskModel", "fraction", "(IIII)I"⟩ ∈ gw := gw_t (List.mem_of_getElem? (i := 508) (by decide +kernel)) (by decide +kernel)
theorem kw_509 : Cond.instanceMethod ⟨"BigDeskModel", "fraction", "(IIII)I"⟩ ∈ gw := gw_t (List.mem_of_getElem? (i := 509) (by decide +kernel)) (by decide +kernel)
theorem kw_510 : Cond.selects "BigDeskModel" ⟨"BigDeskModel", "fraction", "(IIII)I"⟩ ⟨"BigDeskModel", "fraction", "(IIII)I"⟩ ∈ gw := gw_t (List.mem_of_getElem? (i := 510) (by decide +kernel)) (by decide +kernel)
set_option maxRecDepth 20000 in
theorem kw_511 : Cond.code ⟨"BigDeskModel", "fraction", "(IIII)I"⟩ prog_5_method_35_code 5 (some .int) ∈ gw := gw_t (List.mem_of_getElem? (i := 511) rfl) rfl
theorem kw_512 : Cond.methodLink "BigDeskLaw" 74 ⟨"BigDeskModel", "order", "(II)I"⟩ ∈ gw := gw_t (List.mem_of_getElem? (i := 512) (by decide +kernel)) (by decide +kernel)
theorem kw_513 : Cond.instanceMethod ⟨"BigDeskModel", "order", "(II)I"⟩ ∈ gw := gw_t (List.mem_of_getElem? (i := 513) (by decide +kernel)) (by decide +kernel)
theorem kw_514 : Cond.selects "BigDeskModel" ⟨"BigDeskModel", "order", "(II)I"⟩ ⟨"BigDeskModel", "order", "(II)I"⟩ ∈ gw := gw_t (List.mem_of_getElem? (i := 514) (by decide +kernel)) (by decide +kernel)
set_option maxRecDepth 20000 in
theorem kw_515 : Cond.code ⟨"BigDeskModel", "order", "(II)I"⟩ prog_5_method_36_code 3 (some .int) ∈ gw := gw_t (List.mem_of_getElem? (i := 515) rfl) rfl
theorem kw_516 : Cond.methodLink "BigDeskModel" 96 ⟨"BigDeskModel", "compare", "(II)I"⟩ ∈ gw := gw_t (List.mem_of_getElem? (i := 516) (by decide +kernel)) (by decide +kernel)
theorem kw_518 : Cond.instanceMethod ⟨"BigDeskModel", "compare", "(II)I"⟩ ∈ gw := gw_t (List.mem_of_getElem? (i := 518) (by decide +kernel)) (by decide +kernel)
set_option maxRecDepth 20000 in
theorem kw_519 : Cond.code ⟨"BigDeskModel", "compare", "(II)I"⟩ prog_5_method_7_code 3 (some .int) ∈ gw := gw_t (List.mem_of_getElem? (i := 519) rfl) rfl
theorem kw_520 : Cond.methodLink "BigDeskLaw" 78 ⟨"BigDeskModel", "ratio", "(IIII)I"⟩ ∈ gw := gw_t (List.mem_of_getElem? (i := 520) (by decide +kernel)) (by decide +kernel)
theorem kw_521 : Cond.instanceMethod ⟨"BigDeskModel", "ratio", "(IIII)I"⟩ ∈ gw := gw_t (List.mem_of_getElem? (i := 521) (by decide +kernel)) (by decide +kernel)
theorem kw_522 : Cond.selects "BigDeskModel" ⟨"BigDeskModel", "ratio", "(IIII)I"⟩ ⟨"BigDeskModel", "ratio", "(IIII)I"⟩ ∈ gw := gw_t (List.mem_of_getElem? (i := 522) (by decide +kernel)) (by decide +kernel)
set_option maxRecDepth 20000 in
theorem kw_523 : Cond.code ⟨"BigDeskModel", "ratio", "(IIII)I"⟩ prog_5_method_37_code 5 (some .int) ∈ gw := gw_t (List.mem_of_getElem? (i := 523) rfl) rfl
theorem kw_524 : Cond.methodLink "BigDeskLaw" 83 ⟨"BigDeskModel", "sign", "(I)I"⟩ ∈ gw := gw_t (List.mem_of_getElem? (i := 524) (by decide +kernel)) (by decide +kernel)
theorem kw_525 : Cond.instanceMethod ⟨"BigDeskModel", "sign", "(I)I"⟩ ∈ gw := gw_t (List.mem_of_getElem? (i := 525) (by decide +kernel)) (by decide +kernel)
theorem kw_526 : Cond.selects "BigDeskModel" ⟨"BigDeskModel", "sign", "(I)I"⟩ ⟨"BigDeskModel", "sign", "(I)I"⟩ ∈ gw := gw_t (List.mem_of_getElem? (i := 526) (by decide +kernel)) (by decide +kernel)
set_option maxRecDepth 20000 in
theorem kw_527 : Cond.code ⟨"BigDeskModel", "sign", "(I)I"⟩ prog_5_method_38_code 2 (some .int) ∈ gw := gw_t (List.mem_of_getElem? (i := 527) rfl) rfl
theorem kw_528 : Cond.methodLink "BigDeskLaw" 87 ⟨"BigDeskModel", "digits", "(I)I"⟩ ∈ gw := gw_t (List.mem_of_getElem? (i := 528) (by decide +kernel)) (by decide +kernel)
theorem kw_529 : Cond.instanceMethod ⟨"BigDeskModel", "digits", "(I)I"⟩ ∈ gw := gw_t (List.mem_of_getElem? (i := 529) (by decide +kernel)) (by decide +kernel)
theorem kw_530 : Cond.selects "BigDeskModel" ⟨"BigDeskModel", "digits", "(I)I"⟩ ⟨"BigDeskModel", "digits", "(I)I"⟩ ∈ gw := gw_t (List.mem_of_getElem? (i := 530) (by decide +kernel)) (by decide +kernel)
set_option maxRecDepth 20000 in
theorem kw_531 : Cond.code ⟨"BigDeskModel", "digits", "(I)I"⟩ prog_5_method_40_code 2 (some .int) ∈ gw := gw_t (List.mem_of_getElem? (i := 531) rfl) rfl
theorem kw_532 : Cond.methodLink "BigDeskModel" 99 ⟨"BigDeskModel", "spell", "(I)I"⟩ ∈ gw := gw_t (List.mem_of_getElem? (i := 532) (by decide +kernel)) (by decide +kernel)
theorem kw_534 : Cond.instanceMethod ⟨"BigDeskModel", "spell", "(I)I"⟩ ∈ gw := gw_t (List.mem_of_getElem? (i := 534) (by decide +kernel)) (by decide +kernel)
set_option maxRecDepth 20000 in
theorem kw_535 : Cond.code ⟨"BigDeskModel", "spell", "(I)I"⟩ prog_5_method_39_code 5 (some .int) ∈ gw := gw_t (List.mem_of_getElem? (i := 535) rfl) rfl
theorem kw_536 : Cond.methodLink "BigDeskLaw" 91 ⟨"BigDeskModel", "digitAt", "(II)I"⟩ ∈ gw := gw_t (List.mem_of_getElem? (i := 536) (by decide +kernel)) (by decide +kernel)
theorem kw_537 : Cond.instanceMethod ⟨"BigDeskModel", "digitAt", "(II)I"⟩ ∈ gw := gw_t (List.mem_of_getElem? (i := 537) (by decide +kernel)) (by decide +kernel)
theorem kw_538 : Cond.selects "BigDeskModel" ⟨"BigDeskModel", "digitAt", "(II)I"⟩ ⟨"BigDeskModel", "digitAt", "(II)I"⟩ ∈ gw := gw_t (List.mem_of_getElem? (i := 538) (by decide +kernel)) (by decide +kernel)
set_option maxRecDepth 20000 in
theorem kw_539 : Cond.code ⟨"BigDeskModel", "digitAt", "(II)I"⟩ prog_5_method_41_code 4 (some .int) ∈ gw := gw_t (List.mem_of_getElem? (i := 539) rfl) rfl
theorem kw_540 : Cond.methodLink "BigDeskLaw" 96 ⟨"BigDeskModel", "modulo", "(IJ)J"⟩ ∈ gw := gw_t (List.mem_of_getElem? (i := 540) (by decide +kernel)) (by decide +kernel)
theorem kw_541 : Cond.instanceMethod ⟨"BigDeskModel", "modulo", "(IJ)J"⟩ ∈ gw := gw_t (List.mem_of_getElem? (i := 541) (by decide +kernel)) (by decide +kernel)
theorem kw_542 : Cond.selects "BigDeskModel" ⟨"BigDeskModel", "modulo", "(IJ)J"⟩ ⟨"BigDeskModel", "modulo", "(IJ)J"⟩ ∈ gw := gw_t (List.mem_of_getElem? (i := 542) (by decide +kernel)) (by decide +kernel)
set_option maxRecDepth 20000 in
theorem kw_543 : Cond.code ⟨"BigDeskModel", "modulo", "(IJ)J"⟩ prog_5_method_42_code 7 (some .long) ∈ gw := gw_t (List.mem_of_getElem? (i := 543) rfl) rfl
theorem kw_544 : Cond.constantLong "BigDeskModel" 103 (1152921504606846976 : Int64) ∈ gw := gw_t (List.mem_of_getElem? (i := 544) (by decide +kernel)) (by decide +kernel)
theorem kw_545 : Cond.constantLong "BigDeskModel" 105 (-1 : Int64) ∈ gw := gw_t (List.mem_of_getElem? (i := 545) (by decide +kernel)) (by decide +kernel)
theorem kw_546 : Cond.constantLong "BigDeskModel" 107 (2 : Int64) ∈ gw := gw_t (List.mem_of_getElem? (i := 546) (by decide +kernel)) (by decide +kernel)
theorem kw_547 : Cond.methodLink "BigDeskLaw" 101 ⟨"BigDeskModel", "low", "(I)J"⟩ ∈ gw := gw_t (List.mem_of_getElem? (i := 547) (by decide +kernel)) (by decide +kernel)
theorem kw_548 : Cond.instanceMethod ⟨"BigDeskModel", "low", "(I)J"⟩ ∈ gw := gw_t (List.mem_of_getElem? (i := 548) (by decide +kernel)) (by decide +kernel)
theorem kw_549 : Cond.selects "BigDeskModel" ⟨"BigDeskModel", "low", "(I)J"⟩ ⟨"BigDeskModel", "low", "(I)J"⟩ ∈ gw := gw_t (List.mem_of_getElem? (i := 549) (by decide +kernel)) (by decide +kernel)
set_option maxRecDepth 20000 in
theorem kw_550 : Cond.code ⟨"BigDeskModel", "low", "(I)J"⟩ prog_5_method_43_code 5 (some .long) ∈ gw := gw_t (List.mem_of_getElem? (i := 550) rfl) rfl
theorem kw_551 : Cond.constantLong "BigDeskLaw" 13 (4294967295 : Int64) ∈ gw := gw_t (List.mem_of_getElem? (i := 551) (by decide +kernel)) (by decide +kernel)
theorem ks_0 : Cond.selects "BigDesk$Whole" ⟨"BigDesk$Whole", "addParts", "(LBigDesk$Whole;LBigDesk$Whole;)V"⟩ ⟨"BigDesk$Whole", "addParts", "(LBigDesk$Whole;LBigDesk$Whole;)V"⟩ ∈ gw := gw_s (List.mem_of_getElem? (i := 0) (by decide +kernel)) (by decide +kernel)
theorem ks_1 : Cond.selects "BigDesk$Whole" ⟨"BigDesk$Whole", "subtractParts", "(LBigDesk$Whole;LBigDesk$Whole;)V"⟩ ⟨"BigDesk$Whole", "subtractParts", "(LBigDesk$Whole;LBigDesk$Whole;)V"⟩ ∈ gw := gw_s (List.mem_of_getElem? (i := 1) (by decide +kernel)) (by decide +kernel)
theorem ks_2 : Cond.selects "BigDesk" ⟨"BigDesk", "keep", "(LBigDesk$Whole;I)I"⟩ ⟨"BigDesk", "keep", "(LBigDesk$Whole;I)I"⟩ ∈ gw := gw_s (List.mem_of_getElem? (i := 2) (by decide +kernel)) (by decide +kernel)
theorem ks_3 : Cond.selects "BigDesk" ⟨"BigDesk", "addOrTakeAway", "(IIIZ)I"⟩ ⟨"BigDesk", "addOrTakeAway", "(IIIZ)I"⟩ ∈ gw := gw_s (List.mem_of_getElem? (i := 3) (by decide +kernel)) (by decide +kernel)
theorem ks_4 : Cond.selects "BigDesk" ⟨"BigDesk", "divideSlots", "(II)Z"⟩ ⟨"BigDesk", "divideSlots", "(II)Z"⟩ ∈ gw := gw_s (List.mem_of_getElem? (i := 4) (by decide +kernel)) (by decide +kernel)
theorem ks_5 : Cond.selects "BigDesk$Whole" ⟨"BigDesk$Whole", "leadOfTwo", "()J"⟩ ⟨"BigDesk$Whole", "leadOfTwo", "()J"⟩ ∈ gw := gw_s (List.mem_of_getElem? (i := 5) (by decide +kernel)) (by decide +kernel)
theorem ks_6 : Cond.selects "BigDesk$Whole" ⟨"BigDesk$Whole", "takeAway", "(LBigDesk$Whole;JI)I"⟩ ⟨"BigDesk$Whole", "takeAway", "(LBigDesk$Whole;JI)I"⟩ ∈ gw := gw_s (List.mem_of_getElem? (i := 6) (by decide +kernel)) (by decide +kernel)
theorem ks_7 : Cond.selects "BigDesk$Whole" ⟨"BigDesk$Whole", "subtractTimes", "(LBigDesk$Whole;II)V"⟩ ⟨"BigDesk$Whole", "subtractTimes", "(LBigDesk$Whole;II)V"⟩ ∈ gw := gw_s (List.mem_of_getElem? (i := 7) (by decide +kernel)) (by decide +kernel)
theorem ks_8 : Cond.selects "BigDesk$Whole" ⟨"BigDesk$Whole", "addBack", "(LBigDesk$Whole;I)V"⟩ ⟨"BigDesk$Whole", "addBack", "(LBigDesk$Whole;I)V"⟩ ∈ gw := gw_s (List.mem_of_getElem? (i := 8) (by decide +kernel)) (by decide +kernel)
theorem ks_9 : Cond.selects "BigDesk$Pair" ⟨"BigDesk$Pair", "change", "()V"⟩ ⟨"BigDesk$Pair", "change", "()V"⟩ ∈ gw := gw_s (List.mem_of_getElem? (i := 9) (by decide +kernel)) (by decide +kernel)
theorem ks_10 : Cond.selects "BigDesk$Pair" ⟨"BigDesk$Pair", "foretellSteps", "()V"⟩ ⟨"BigDesk$Pair", "foretellSteps", "()V"⟩ ∈ gw := gw_s (List.mem_of_getElem? (i := 10) (by decide +kernel)) (by decide +kernel)
theorem ks_11 : Cond.selects "BigDesk$Pair" ⟨"BigDesk$Pair", "leadOfThree", "(LBigDesk$Whole;)J"⟩ ⟨"BigDesk$Pair", "leadOfThree", "(LBigDesk$Whole;)J"⟩ ∈ gw := gw_s (List.mem_of_getElem? (i := 11) (by decide +kernel)) (by decide +kernel)
theorem ks_12 : Cond.selects "BigDesk$Pair" ⟨"BigDesk$Pair", "takeForetoldSteps", "()V"⟩ ⟨"BigDesk$Pair", "takeForetoldSteps", "()V"⟩ ∈ gw := gw_s (List.mem_of_getElem? (i := 12) (by decide +kernel)) (by decide +kernel)
theorem ks_13 : Cond.selects "BigDesk" ⟨"BigDesk", "squareRoot", "(LBigDesk$Whole;)LBigDesk$Whole;"⟩ ⟨"BigDesk", "squareRoot", "(LBigDesk$Whole;)LBigDesk$Whole;"⟩ ∈ gw := gw_s (List.mem_of_getElem? (i := 13) (by decide +kernel)) (by decide +kernel)
theorem ks_14 : Cond.selects "BigDesk" ⟨"BigDesk", "keepLowest", "(II)I"⟩ ⟨"BigDesk", "keepLowest", "(II)I"⟩ ∈ gw := gw_s (List.mem_of_getElem? (i := 14) (by decide +kernel)) (by decide +kernel)
theorem ks_15 : Cond.selects "BigDesk" ⟨"BigDesk", "areFractions", "(IIII)Z"⟩ ⟨"BigDesk", "areFractions", "(IIII)Z"⟩ ∈ gw := gw_s (List.mem_of_getElem? (i := 15) (by decide +kernel)) (by decide +kernel)
theorem ks_16 : Cond.selects "BigDeskModel" ⟨"BigDeskModel", "put", "(IJ)V"⟩ ⟨"BigDeskModel", "put", "(IJ)V"⟩ ∈ gw := gw_s (List.mem_of_getElem? (i := 16) (by decide +kernel)) (by decide +kernel)
theorem ks_17 : Cond.selects "BigDeskModel" ⟨"BigDeskModel", "settle", "(II)V"⟩ ⟨"BigDeskModel", "settle", "(II)V"⟩ ∈ gw := gw_s (List.mem_of_getElem? (i := 17) (by decide +kernel)) (by decide +kernel)
theorem ks_18 : Cond.selects "BigDeskModel" ⟨"BigDeskModel", "at", "(II)I"⟩ ⟨"BigDeskModel", "at", "(II)I"⟩ ∈ gw := gw_s (List.mem_of_getElem? (i := 18) (by decide +kernel)) (by decide +kernel)
theorem ks_19 : Cond.selects "BigDeskModel" ⟨"BigDeskModel", "multiply", "(III)V"⟩ ⟨"BigDeskModel", "multiply", "(III)V"⟩ ∈ gw := gw_s (List.mem_of_getElem? (i := 19) (by decide +kernel)) (by decide +kernel)
theorem ks_20 : Cond.selects "BigDeskModel" ⟨"BigDeskModel", "combine", "(IIII)V"⟩ ⟨"BigDeskModel", "combine", "(IIII)V"⟩ ∈ gw := gw_s (List.mem_of_getElem? (i := 20) (by decide +kernel)) (by decide +kernel)
theorem ks_21 : Cond.selects "BigDeskModel" ⟨"BigDeskModel", "addSizes", "(III)V"⟩ ⟨"BigDeskModel", "addSizes", "(III)V"⟩ ∈ gw := gw_s (List.mem_of_getElem? (i := 21) (by decide +kernel)) (by decide +kernel)
theorem ks_22 : Cond.selects "BigDeskModel" ⟨"BigDeskModel", "sizes", "(II)I"⟩ ⟨"BigDeskModel", "sizes", "(II)I"⟩ ∈ gw := gw_s (List.mem_of_getElem? (i := 22) (by decide +kernel)) (by decide +kernel)
theorem ks_23 : Cond.selects "BigDeskModel" ⟨"BigDeskModel", "takeSizes", "(III)V"⟩ ⟨"BigDeskModel", "takeSizes", "(III)V"⟩ ∈ gw := gw_s (List.mem_of_getElem? (i := 23) (by decide +kernel)) (by decide +kernel)
theorem ks_24 : Cond.selects "BigDeskModel" ⟨"BigDeskModel", "keep", "(II)I"⟩ ⟨"BigDeskModel", "keep", "(II)I"⟩ ∈ gw := gw_s (List.mem_of_getElem? (i := 24) (by decide +kernel)) (by decide +kernel)
theorem ks_25 : Cond.selects "BigDeskModel" ⟨"BigDeskModel", "isLong", "(I)Z"⟩ ⟨"BigDeskModel", "isLong", "(I)Z"⟩ ∈ gw := gw_s (List.mem_of_getElem? (i := 25) (by decide +kernel)) (by decide +kernel)
theorem ks_26 : Cond.selects "BigDeskModel" ⟨"BigDeskModel", "move", "(II)V"⟩ ⟨"BigDeskModel", "move", "(II)V"⟩ ∈ gw := gw_s (List.mem_of_getElem? (i := 26) (by decide +kernel)) (by decide +kernel)
theorem ks_27 : Cond.selects "BigDeskModel" ⟨"BigDeskModel", "divide", "(II)V"⟩ ⟨"BigDeskModel", "divide", "(II)V"⟩ ∈ gw := gw_s (List.mem_of_getElem? (i := 27) (by decide +kernel)) (by decide +kernel)
theorem ks_28 : Cond.selects "BigDeskModel" ⟨"BigDeskModel", "bit", "(II)I"⟩ ⟨"BigDeskModel", "bit", "(II)I"⟩ ∈ gw := gw_s (List.mem_of_getElem? (i := 28) (by decide +kernel)) (by decide +kernel)
theorem ks_29 : Cond.selects "BigDeskModel" ⟨"BigDeskModel", "twice", "(II)V"⟩ ⟨"BigDeskModel", "twice", "(II)V"⟩ ∈ gw := gw_s (List.mem_of_getElem? (i := 29) (by decide +kernel)) (by decide +kernel)
theorem ks_30 : Cond.selects "BigDeskModel" ⟨"BigDeskModel", "common", "(II)V"⟩ ⟨"BigDeskModel", "common", "(II)V"⟩ ∈ gw := gw_s (List.mem_of_getElem? (i := 30) (by decide +kernel)) (by decide +kernel)
theorem ks_31 : Cond.selects "BigDeskModel" ⟨"BigDeskModel", "size", "(II)V"⟩ ⟨"BigDeskModel", "size", "(II)V"⟩ ∈ gw := gw_s (List.mem_of_getElem? (i := 31) (by decide +kernel)) (by decide +kernel)
theorem ks_32 : Cond.selects "BigDeskModel" ⟨"BigDeskModel", "half", "(I)V"⟩ ⟨"BigDeskModel", "half", "(I)V"⟩ ∈ gw := gw_s (List.mem_of_getElem? (i := 32) (by decide +kernel)) (by decide +kernel)
theorem ks_33 : Cond.selects "BigDeskModel" ⟨"BigDeskModel", "keepFraction", "(II)I"⟩ ⟨"BigDeskModel", "keepFraction", "(II)I"⟩ ∈ gw := gw_s (List.mem_of_getElem? (i := 33) (by decide +kernel)) (by decide +kernel)
theorem ks_34 : Cond.selects "BigDeskModel" ⟨"BigDeskModel", "compare", "(II)I"⟩ ⟨"BigDeskModel", "compare", "(II)I"⟩ ∈ gw := gw_s (List.mem_of_getElem? (i := 34) (by decide +kernel)) (by decide +kernel)
theorem ks_35 : Cond.selects "BigDeskModel" ⟨"BigDeskModel", "spell", "(I)I"⟩ ⟨"BigDeskModel", "spell", "(I)I"⟩ ∈ gw := gw_s (List.mem_of_getElem? (i := 35) (by decide +kernel)) (by decide +kernel)
theorem uin_X0 : ∀ w ∈ u_ws RX0 TX0 7, w ∈ gw := by decide +kernel
theorem uin_X1 : ∀ w ∈ u_ws RX1 TX1 3, w ∈ gw := by decide +kernel
theorem uin_X2 : ∀ w ∈ u_ws RX2 TX2 7, w ∈ gw := by decide +kernel
theorem uin_X3 : ∀ w ∈ u_ws RX3 TX3 4, w ∈ gw := by decide +kernel
end
section
theorem dX1_init_0 : decode cX1_init 0 = .ok (.aload_n 0, 1) := by decide +kernel
theorem dX1_init_1 : decode cX1_init 1 = .ok (.invokespecial 3, 3) := by decide +kernel
theorem dX1_init_4 : decode cX1_init 4 = .ok (.aload_n 0, 1) := by decide +kernel
theorem dX1_init_5 : decode cX1_init 5 = .ok (.bipush 104, 2) := by decide +kernel
theorem dX1_init_7 : decode cX1_init 7 = .ok (.newarray .int, 2) := by decide +kernel
theorem dX1_init_9 : decode cX1_init 9 = .ok (.putfield 9, 3) := by decide +kernel
theorem dX1_init_12 : decode cX1_init 12 = .ok (.aload_n 0, 1) := by decide +kernel
theorem dX1_init_13 : decode cX1_init 13 = .ok (.iconst 0, 1) := by decide +kernel
theorem dX1_init_14 : decode cX1_init 14 = .ok (.putfield 15, 3) := by decide +kernel
theorem dX1_init_17 : decode cX1_init 17 = .ok (.aload_n 0, 1) := by decide +kernel
theorem dX1_init_18 : decode cX1_init 18 = .ok (.iconst 0, 1) := by decide +kernel
theorem dX1_init_19 : decode cX1_init 19 = .ok (.putfield 19, 3) := by decide +kernel
theorem dX1_init_22 : decode cX1_init 22 = .ok (.return_, 1) := by decide +kernel
theorem dX1_isZero_0 : decode cX1_isZero 0 = .ok (.aload_n 0, 1) := by decide +kernel
theorem dX1_isZero_1 : decode cX1_isZero 1 = .ok (.getfield 15, 3) := by decide +kernel
theorem dX1_isZero_4 : decode cX1_isZero 4 = .ok (.ifCond .ne 7, 3) := by decide +kernel
theorem dX1_isZero_7 : decode cX1_isZero 7 = .ok (.iconst 1, 1) := by decide +kernel
theorem dX1_isZero_8 : decode cX1_isZero 8 = .ok (.goto 4, 3) := by decide +kernel
theorem dX1_isZero_11 : decode cX1_isZero 11 = .ok (.iconst 0, 1) := by decide +kernel
theorem dX1_isZero_12 : decode cX1_isZero 12 = .ok (.ireturn, 1) := by decide +kernel
theorem dX1_isTooLong_0 : decode cX1_isTooLong 0 = .ok (.aload_n 0, 1) := by decide +kernel
theorem dX1_isTooLong_1 : decode cX1_isTooLong 1 = .ok (.getfield 15, 3) := by decide +kernel
theorem dX1_isTooLong_4 : decode cX1_isTooLong 4 = .ok (.bipush 50, 2) := by decide +kernel
theorem dX1_isTooLong_6 : decode cX1_isTooLong 6 = .ok (.if_icmp .le 7, 3) := by decide +kernel
theorem dX1_isTooLong_9 : decode cX1_isTooLong 9 = .ok (.iconst 1, 1) := by decide +kernel
theorem dX1_isTooLong_10 : decode cX1_isTooLong 10 = .ok (.goto 4, 3) := by decide +kernel
theorem dX1_isTooLong_13 : decode cX1_isTooLong 13 = .ok (.iconst 0, 1) := by decide +kernel
theorem dX1_isTooLong_14 : decode cX1_isTooLong 14 = .ok (.ireturn, 1) := by decide +kernel
theorem dX1_turnSign_0 : decode cX1_turnSign 0 = .ok (.aload_n 0, 1) := by decide +kernel
theorem dX1_turnSign_1 : decode cX1_turnSign 1 = .ok (.aload_n 0, 1) := by decide +kernel
theorem dX1_turnSign_2 : decode cX1_turnSign 2 = .ok (.getfield 19, 3) := by decide +kernel
theorem dX1_turnSign_5 : decode cX1_turnSign 5 = .ok (.ifCond .ne 14, 3) := by decide +kernel
theorem dX1_turnSign_8 : decode cX1_turnSign 8 = .ok (.aload_n 0, 1) := by decide +kernel
theorem dX1_turnSign_9 : decode cX1_turnSign 9 = .ok (.getfield 15, 3) := by decide +kernel
theorem dX1_turnSign_12 : decode cX1_turnSign 12 = .ok (.ifCond .le 7, 3) := by decide +kernel
theorem dX1_turnSign_15 : decode cX1_turnSign 15 = .ok (.iconst 1, 1) := by decide +kernel
theorem dX1_turnSign_16 : decode cX1_turnSign 16 = .ok (.goto 4, 3) := by decide +kernel
theorem dX1_turnSign_19 : decode cX1_turnSign 19 = .ok (.iconst 0, 1) := by decide +kernel
theorem dX1_turnSign_20 : decode cX1_turnSign 20 = .ok (.putfield 19, 3) := by decide +kernel
theorem dX1_turnSign_23 : decode cX1_turnSign 23 = .ok (.return_, 1) := by decide +kernel
theorem dX1_trimTo_0 : decode cX1_trimTo 0 = .ok (.iload_n 1, 1) := by decide +kernel
theorem dX1_trimTo_1 : decode cX1_trimTo 1 = .ok (.istore_n 2, 1) := by decide +kernel
theorem dX1_trimTo_2 : decode cX1_trimTo 2 = .ok (.iload_n 2, 1) := by decide +kernel
theorem dX1_trimTo_3 : decode cX1_trimTo 3 = .ok (.ifCond .le 20, 3) := by decide +kernel
theorem dX1_trimTo_6 : decode cX1_trimTo 6 = .ok (.aload_n 0, 1) := by decide +kernel
theorem dX1_trimTo_7 : decode cX1_trimTo 7 = .ok (.getfield 9, 3) := by decide +kernel
theorem dX1_trimTo_10 : decode cX1_trimTo 10 = .ok (.iload_n 2, 1) := by decide +kernel
theorem dX1_trimTo_11 : decode cX1_trimTo 11 = .ok (.iconst 1, 1) := by decide +kernel
theorem dX1_trimTo_12 : decode cX1_trimTo 12 = .ok (.isub, 1) := by decide +kernel
theorem dX1_trimTo_13 : decode cX1_trimTo 13 = .ok (.iaload, 1) := by decide +kernel
theorem dX1_trimTo_14 : decode cX1_trimTo 14 = .ok (.ifCond .ne 9, 3) := by decide +kernel
theorem dX1_trimTo_17 : decode cX1_trimTo 17 = .ok (.iinc 2 (-1), 3) := by decide +kernel
theorem dX1_trimTo_20 : decode cX1_trimTo 20 = .ok (.goto (-18), 3) := by decide +kernel
theorem dX1_trimTo_23 : decode cX1_trimTo 23 = .ok (.aload_n 0, 1) := by decide +kernel
theorem dX1_trimTo_24 : decode cX1_trimTo 24 = .ok (.iload_n 2, 1) := by decide +kernel
theorem dX1_trimTo_25 : decode cX1_trimTo 25 = .ok (.putfield 15, 3) := by decide +kernel
theorem dX1_trimTo_28 : decode cX1_trimTo 28 = .ok (.iload_n 2, 1) := by decide +kernel
theorem dX1_trimTo_29 : decode cX1_trimTo 29 = .ok (.ifCond .ne 8, 3) := by decide +kernel
theorem dX1_trimTo_32 : decode cX1_trimTo 32 = .ok (.aload_n 0, 1) := by decide +kernel
theorem dX1_trimTo_33 : decode cX1_trimTo 33 = .ok (.iconst 0, 1) := by decide +kernel
theorem dX1_trimTo_34 : decode cX1_trimTo 34 = .ok (.putfield 19, 3) := by decide +kernel
theorem dX1_trimTo_37 : decode cX1_trimTo 37 = .ok (.return_, 1) := by decide +kernel
theorem dX1_partOrZero_0 : decode cX1_partOrZero 0 = .ok (.iload_n 1, 1) := by decide +kernel
theorem dX1_partOrZero_1 : decode cX1_partOrZero 1 = .ok (.ifCond .lt 20, 3) := by decide +kernel
theorem dX1_partOrZero_4 : decode cX1_partOrZero 4 = .ok (.iload_n 1, 1) := by decide +kernel
theorem dX1_partOrZero_5 : decode cX1_partOrZero 5 = .ok (.aload_n 0, 1) := by decide +kernel
theorem dX1_partOrZero_6 : decode cX1_partOrZero 6 = .ok (.getfield 15, 3) := by decide +kernel
theorem dX1_partOrZero_9 : decode cX1_partOrZero 9 = .ok (.if_icmp .ge 12, 3) := by decide +kernel
theorem dX1_partOrZero_12 : decode cX1_partOrZero 12 = .ok (.aload_n 0, 1) := by decide +kernel
theorem dX1_partOrZero_13 : decode cX1_partOrZero 13 = .ok (.getfield 9, 3) := by decide +kernel
theorem dX1_partOrZero_16 : decode cX1_partOrZero 16 = .ok (.iload_n 1, 1) := by decide +kernel
theorem dX1_partOrZero_17 : decode cX1_partOrZero 17 = .ok (.iaload, 1) := by decide +kernel
theorem dX1_partOrZero_18 : decode cX1_partOrZero 18 = .ok (.goto 4, 3) := by decide +kernel
theorem dX1_partOrZero_21 : decode cX1_partOrZero 21 = .ok (.iconst 0, 1) := by decide +kernel
theorem dX1_partOrZero_22 : decode cX1_partOrZero 22 = .ok (.ireturn, 1) := by decide +kernel
theorem dX1_load_0 : decode cX1_load 0 = .ok (.lload_n 1, 1) := by decide +kernel
theorem dX1_load_1 : decode cX1_load 1 = .ok (.lstore_n 3, 1) := by decide +kernel
theorem dX1_load_2 : decode cX1_load 2 = .ok (.iconst 0, 1) := by decide +kernel
theorem dX1_load_3 : decode cX1_load 3 = .ok (.istore 5, 2) := by decide +kernel
theorem dX1_load_5 : decode cX1_load 5 = .ok (.iload 5, 2) := by decide +kernel
theorem dX1_load_7 : decode cX1_load 7 = .ok (.iconst 4, 1) := by decide +kernel
theorem dX1_load_8 : decode cX1_load 8 = .ok (.if_icmp .ge 31, 3) := by decide +kernel
theorem dX1_load_11 : decode cX1_load 11 = .ok (.aload_n 0, 1) := by decide +kernel
theorem dX1_load_12 : decode cX1_load 12 = .ok (.getfield 9, 3) := by decide +kernel
theorem dX1_load_15 : decode cX1_load 15 = .ok (.iload 5, 2) := by decide +kernel
theorem dX1_load_17 : decode cX1_load 17 = .ok (.lload_n 3, 1) := by decide +kernel
theorem dX1_load_18 : decode cX1_load 18 = .ok (.ldc2_w 23, 3) := by decide +kernel
theorem dX1_load_21 : decode cX1_load 21 = .ok (.lrem, 1) := by decide +kernel
theorem dX1_load_22 : decode cX1_load 22 = .ok (.invokestatic 25, 3) := by decide +kernel
theorem dX1_load_25 : decode cX1_load 25 = .ok (.l2i, 1) := by decide +kernel
theorem dX1_load_26 : decode cX1_load 26 = .ok (.iastore, 1) := by decide +kernel
theorem dX1_load_27 : decode cX1_load 27 = .ok (.lload_n 3, 1) := by decide +kernel
theorem dX1_load_28 : decode cX1_load 28 = .ok (.ldc2_w 23, 3) := by decide +kernel
theorem dX1_load_31 : decode cX1_load 31 = .ok (.ldiv, 1) := by decide +kernel
theorem dX1_load_32 : decode cX1_load 32 = .ok (.lstore_n 3, 1) := by decide +kernel
theorem dX1_load_33 : decode cX1_load 33 = .ok (.iinc 5 1, 3) := by decide +kernel
theorem dX1_load_36 : decode cX1_load 36 = .ok (.goto (-31), 3) := by decide +kernel
theorem dX1_load_39 : decode cX1_load 39 = .ok (.aload_n 0, 1) := by decide +kernel
theorem dX1_load_40 : decode cX1_load 40 = .ok (.lload_n 1, 1) := by decide +kernel
theorem dX1_load_41 : decode cX1_load 41 = .ok (.lconst 0, 1) := by decide +kernel
theorem dX1_load_42 : decode cX1_load 42 = .ok (.lcmp, 1) := by decide +kernel
theorem dX1_load_43 : decode cX1_load 43 = .ok (.ifCond .ge 7, 3) := by decide +kernel
theorem dX1_load_46 : decode cX1_load 46 = .ok (.iconst 1, 1) := by decide +kernel
theorem dX1_load_47 : decode cX1_load 47 = .ok (.goto 4, 3) := by decide +kernel
theorem dX1_load_50 : decode cX1_load 50 = .ok (.iconst 0, 1) := by decide +kernel
theorem dX1_load_51 : decode cX1_load 51 = .ok (.putfield 19, 3) := by decide +kernel
theorem dX1_load_54 : decode cX1_load 54 = .ok (.aload_n 0, 1) := by decide +kernel
theorem dX1_load_55 : decode cX1_load 55 = .ok (.iconst 4, 1) := by decide +kernel
theorem dX1_load_56 : decode cX1_load 56 = .ok (.invokevirtual 31, 3) := by decide +kernel
theorem dX1_load_59 : decode cX1_load 59 = .ok (.return_, 1) := by decide +kernel
theorem dX1_take_0 : decode cX1_take 0 = .ok (.aload_n 1, 1) := by decide +kernel
theorem dX1_take_1 : decode cX1_take 1 = .ok (.getfield 9, 3) := by decide +kernel
theorem dX1_take_4 : decode cX1_take 4 = .ok (.iconst 0, 1) := by decide +kernel
theorem dX1_take_5 : decode cX1_take 5 = .ok (.aload_n 0, 1) := by decide +kernel
theorem dX1_take_6 : decode cX1_take 6 = .ok (.getfield 9, 3) := by decide +kernel
theorem dX1_take_9 : decode cX1_take 9 = .ok (.iconst 0, 1) := by decide +kernel
theorem dX1_take_10 : decode cX1_take 10 = .ok (.aload_n 1, 1) := by decide +kernel
theorem dX1_take_11 : decode cX1_take 11 = .ok (.getfield 15, 3) := by decide +kernel
theorem dX1_take_14 : decode cX1_take 14 = .ok (.invokestatic 35, 3) := by decide +kernel
theorem dX1_take_17 : decode cX1_take 17 = .ok (.aload_n 0, 1) := by decide +kernel
theorem dX1_take_18 : decode cX1_take 18 = .ok (.aload_n 1, 1) := by decide +kernel
theorem dX1_take_19 : decode cX1_take 19 = .ok (.getfield 15, 3) := by decide +kernel
theorem dX1_take_22 : decode cX1_take 22 = .ok (.putfield 15, 3) := by decide +kernel
theorem dX1_take_25 : decode cX1_take 25 = .ok (.aload_n 0, 1) := by decide +kernel
theorem dX1_take_26 : decode cX1_take 26 = .ok (.aload_n 1, 1) := by decide +kernel
theorem dX1_take_27 : decode cX1_take 27 = .ok (.getfield 19, 3) := by decide +kernel
theorem dX1_take_30 : decode cX1_take 30 = .ok (.putfield 19, 3) := by decide +kernel
theorem dX1_take_33 : decode cX1_take 33 = .ok (.return_, 1) := by decide +kernel
theorem dX1_takeSum_0 : decode cX1_takeSum 0 = .ok (.aload_n 2, 1) := by decide +kernel
theorem dX1_takeSum_1 : decode cX1_takeSum 1 = .ok (.getfield 19, 3) := by decide +kernel
theorem dX1_takeSum_4 : decode cX1_takeSum 4 = .ok (.iload_n 3, 1) := by decide +kernel
theorem dX1_takeSum_5 : decode cX1_takeSum 5 = .ok (.if_icmp .eq 7, 3) := by decide +kernel
theorem dX1_takeSum_8 : decode cX1_takeSum 8 = .ok (.iconst 1, 1) := by decide +kernel
theorem dX1_takeSum_9 : decode cX1_takeSum 9 = .ok (.goto 4, 3) := by decide +kernel
theorem dX1_takeSum_12 : decode cX1_takeSum 12 = .ok (.iconst 0, 1) := by decide +kernel
theorem dX1_takeSum_13 : decode cX1_takeSum 13 = .ok (.istore 4, 2) := by decide +kernel
theorem dX1_takeSum_15 : decode cX1_takeSum 15 = .ok (.aload_n 1, 1) := by decide +kernel
theorem dX1_takeSum_16 : decode cX1_takeSum 16 = .ok (.aload_n 2, 1) := by decide +kernel
theorem dX1_takeSum_17 : decode cX1_takeSum 17 = .ok (.invokevirtual 41, 3) := by decide +kernel
theorem dX1_takeSum_20 : decode cX1_takeSum 20 = .ok (.ifCond .lt 7, 3) := by decide +kernel
theorem dX1_takeSum_23 : decode cX1_takeSum 23 = .ok (.iconst 1, 1) := by decide +kernel
theorem dX1_takeSum_24 : decode cX1_takeSum 24 = .ok (.goto 4, 3) := by decide +kernel
theorem dX1_takeSum_27 : decode cX1_takeSum 27 = .ok (.iconst 0, 1) := by decide +kernel
theorem dX1_takeSum_28 : decode cX1_takeSum 28 = .ok (.istore 5, 2) := by decide +kernel
theorem dX1_takeSum_30 : decode cX1_takeSum 30 = .ok (.aload_n 0, 1) := by decide +kernel
theorem dX1_takeSum_31 : decode cX1_takeSum 31 = .ok (.iload 5, 2) := by decide +kernel
theorem dX1_takeSum_33 : decode cX1_takeSum 33 = .ok (.ifCond .eq 10, 3) := by decide +kernel
theorem dX1_takeSum_36 : decode cX1_takeSum 36 = .ok (.aload_n 1, 1) := by decide +kernel
theorem dX1_takeSum_37 : decode cX1_takeSum 37 = .ok (.getfield 19, 3) := by decide +kernel
theorem dX1_takeSum_40 : decode cX1_takeSum 40 = .ok (.goto 5, 3) := by decide +kernel
theorem dX1_takeSum_43 : decode cX1_takeSum 43 = .ok (.iload 4, 2) := by decide +kernel
theorem dX1_takeSum_45 : decode cX1_takeSum 45 = .ok (.putfield 19, 3) := by decide +kernel
theorem dX1_takeSum_48 : decode cX1_takeSum 48 = .ok (.aload_n 1, 1) := by decide +kernel
theorem dX1_takeSum_49 : decode cX1_takeSum 49 = .ok (.getfield 19, 3) := by decide +kernel
theorem dX1_takeSum_52 : decode cX1_takeSum 52 = .ok (.iload 4, 2) := by decide +kernel
theorem dX1_takeSum_54 : decode cX1_takeSum 54 = .ok (.if_icmp .ne 12, 3) := by decide +kernel
theorem dX1_takeSum_57 : decode cX1_takeSum 57 = .ok (.aload_n 0, 1) := by decide +kernel
theorem dX1_takeSum_58 : decode cX1_takeSum 58 = .ok (.aload_n 1, 1) := by decide +kernel
theorem dX1_takeSum_59 : decode cX1_takeSum 59 = .ok (.aload_n 2, 1) := by decide +kernel
theorem dX1_takeSum_60 : decode cX1_takeSum 60 = .ok (.invokevirtual 45, 3) := by decide +kernel
theorem dX1_takeSum_63 : decode cX1_takeSum 63 = .ok (.goto 23, 3) := by decide +kernel
theorem dX1_takeSum_66 : decode cX1_takeSum 66 = .ok (.iload 5, 2) := by decide +kernel
theorem dX1_takeSum_68 : decode cX1_takeSum 68 = .ok (.ifCond .eq 12, 3) := by decide +kernel
theorem dX1_takeSum_71 : decode cX1_takeSum 71 = .ok (.aload_n 0, 1) := by decide +kernel
theorem dX1_takeSum_72 : decode cX1_takeSum 72 = .ok (.aload_n 1, 1) := by decide +kernel
theorem dX1_takeSum_73 : decode cX1_takeSum 73 = .ok (.aload_n 2, 1) := by decide +kernel
theorem dX1_takeSum_74 : decode cX1_takeSum 74 = .ok (.invokevirtual 49, 3) := by decide +kernel
theorem dX1_takeSum_77 : decode cX1_takeSum 77 = .ok (.goto 9, 3) := by decide +kernel
theorem dX1_takeSum_80 : decode cX1_takeSum 80 = .ok (.aload_n 0, 1) := by decide +kernel
theorem dX1_takeSum_81 : decode cX1_takeSum 81 = .ok (.aload_n 2, 1) := by decide +kernel
theorem dX1_takeSum_82 : decode cX1_takeSum 82 = .ok (.aload_n 1, 1) := by decide +kernel
theorem dX1_takeSum_83 : decode cX1_takeSum 83 = .ok (.invokevirtual 49, 3) := by decide +kernel
theorem dX1_takeSum_86 : decode cX1_takeSum 86 = .ok (.return_, 1) := by decide +kernel
theorem dX1_addParts_0 : decode cX1_addParts 0 = .ok (.aload_n 1, 1) := by decide +kernel
theorem dX1_addParts_1 : decode cX1_addParts 1 = .ok (.getfield 15, 3) := by decide +kernel
theorem dX1_addParts_4 : decode cX1_addParts 4 = .ok (.aload_n 2, 1) := by decide +kernel
theorem dX1_addParts_5 : decode cX1_addParts 5 = .ok (.getfield 15, 3) := by decide +kernel
theorem dX1_addParts_8 : decode cX1_addParts 8 = .ok (.invokestatic 52, 3) := by decide +kernel
theorem dX1_addParts_11 : decode cX1_addParts 11 = .ok (.istore_n 3, 1) := by decide +kernel
theorem dX1_addParts_12 : decode cX1_addParts 12 = .ok (.iconst 0, 1) := by decide +kernel
theorem dX1_addParts_13 : decode cX1_addParts 13 = .ok (.istore 4, 2) := by decide +kernel
theorem dX1_addParts_15 : decode cX1_addParts 15 = .ok (.iconst 0, 1) := by decide +kernel
theorem dX1_addParts_16 : decode cX1_addParts 16 = .ok (.istore 5, 2) := by decide +kernel
theorem dX1_addParts_18 : decode cX1_addParts 18 = .ok (.iload 5, 2) := by decide +kernel
theorem dX1_addParts_20 : decode cX1_addParts 20 = .ok (.iload_n 3, 1) := by decide +kernel
theorem dX1_addParts_21 : decode cX1_addParts 21 = .ok (.if_icmp .ge 56, 3) := by decide +kernel
theorem dX1_addParts_24 : decode cX1_addParts 24 = .ok (.aload_n 1, 1) := by decide +kernel
theorem dX1_addParts_25 : decode cX1_addParts 25 = .ok (.iload 5, 2) := by decide +kernel
theorem dX1_addParts_27 : decode cX1_addParts 27 = .ok (.invokevirtual 56, 3) := by decide +kernel
theorem dX1_addParts_30 : decode cX1_addParts 30 = .ok (.aload_n 2, 1) := by decide +kernel
theorem dX1_addParts_31 : decode cX1_addParts 31 = .ok (.iload 5, 2) := by decide +kernel
theorem dX1_addParts_33 : decode cX1_addParts 33 = .ok (.invokevirtual 56, 3) := by decide +kernel
theorem dX1_addParts_36 : decode cX1_addParts 36 = .ok (.iadd, 1) := by decide +kernel
theorem dX1_addParts_37 : decode cX1_addParts 37 = .ok (.iload 4, 2) := by decide +kernel
theorem dX1_addParts_39 : decode cX1_addParts 39 = .ok (.iadd, 1) := by decide +kernel
theorem dX1_addParts_40 : decode cX1_addParts 40 = .ok (.istore 6, 2) := by decide +kernel
theorem dX1_addParts_42 : decode cX1_addParts 42 = .ok (.iload 6, 2) := by decide +kernel
theorem dX1_addParts_44 : decode cX1_addParts 44 = .ok (.ldc 60, 2) := by decide +kernel
theorem dX1_addParts_46 : decode cX1_addParts 46 = .ok (.if_icmp .lt 7, 3) := by decide +kernel
theorem dX1_addParts_49 : decode cX1_addParts 49 = .ok (.iconst 1, 1) := by decide +kernel
theorem dX1_addParts_50 : decode cX1_addParts 50 = .ok (.goto 4, 3) := by decide +kernel
theorem dX1_addParts_53 : decode cX1_addParts 53 = .ok (.iconst 0, 1) := by decide +kernel
theorem dX1_addParts_54 : decode cX1_addParts 54 = .ok (.istore 4, 2) := by decide +kernel
theorem dX1_addParts_56 : decode cX1_addParts 56 = .ok (.aload_n 0, 1) := by decide +kernel
theorem dX1_addParts_57 : decode cX1_addParts 57 = .ok (.getfield 9, 3) := by decide +kernel
theorem dX1_addParts_60 : decode cX1_addParts 60 = .ok (.iload 5, 2) := by decide +kernel
theorem dX1_addParts_62 : decode cX1_addParts 62 = .ok (.iload 6, 2) := by decide +kernel
theorem dX1_addParts_64 : decode cX1_addParts 64 = .ok (.iload 4, 2) := by decide +kernel
theorem dX1_addParts_66 : decode cX1_addParts 66 = .ok (.ldc 60, 2) := by decide +kernel
theorem dX1_addParts_68 : decode cX1_addParts 68 = .ok (.imul, 1) := by decide +kernel
theorem dX1_addParts_69 : decode cX1_addParts 69 = .ok (.isub, 1) := by decide +kernel
theorem dX1_addParts_70 : decode cX1_addParts 70 = .ok (.iastore, 1) := by decide +kernel
theorem dX1_addParts_71 : decode cX1_addParts 71 = .ok (.iinc 5 1, 3) := by decide +kernel
theorem dX1_addParts_74 : decode cX1_addParts 74 = .ok (.goto (-56), 3) := by decide +kernel
theorem dX1_addParts_77 : decode cX1_addParts 77 = .ok (.aload_n 0, 1) := by decide +kernel
theorem dX1_addParts_78 : decode cX1_addParts 78 = .ok (.getfield 9, 3) := by decide +kernel
theorem dX1_addParts_81 : decode cX1_addParts 81 = .ok (.iload_n 3, 1) := by decide +kernel
theorem dX1_addParts_82 : decode cX1_addParts 82 = .ok (.iload 4, 2) := by decide +kernel
theorem dX1_addParts_84 : decode cX1_addParts 84 = .ok (.iastore, 1) := by decide +kernel
theorem dX1_addParts_85 : decode cX1_addParts 85 = .ok (.aload_n 0, 1) := by decide +kernel
theorem dX1_addParts_86 : decode cX1_addParts 86 = .ok (.iload_n 3, 1) := by decide +kernel
theorem dX1_addParts_87 : decode cX1_addParts 87 = .ok (.iconst 1, 1) := by decide +kernel
theorem dX1_addParts_88 : decode cX1_addParts 88 = .ok (.iadd, 1) := by decide +kernel
theorem dX1_addParts_89 : decode cX1_addParts 89 = .ok (.invokevirtual 31, 3) := by decide +kernel
theorem dX1_addParts_92 : decode cX1_addParts 92 = .ok (.return_, 1) := by decide +kernel
theorem dX1_subtractParts_0 : decode cX1_subtractParts 0 = .ok (.iconst 0, 1) := by decide +kernel
theorem dX1_subtractParts_1 : decode cX1_subtractParts 1 = .ok (.istore_n 3, 1) := by decide +kernel
theorem dX1_subtractParts_2 : decode cX1_subtractParts 2 = .ok (.iconst 0, 1) := by decide +kernel
theorem dX1_subtractParts_3 : decode cX1_subtractParts 3 = .ok (.istore 4, 2) := by decide +kernel
theorem dX1_subtractParts_5 : decode cX1_subtractParts 5 = .ok (.iload 4, 2) := by decide +kernel
theorem dX1_subtractParts_7 : decode cX1_subtractParts 7 = .ok (.aload_n 1, 1) := by decide +kernel
theorem dX1_subtractParts_8 : decode cX1_subtractParts 8 = .ok (.getfield 15, 3) := by decide +kernel
theorem dX1_subtractParts_11 : decode cX1_subtractParts 11 = .ok (.if_icmp .ge 52, 3) := by decide +kernel
theorem dX1_subtractParts_14 : decode cX1_subtractParts 14 = .ok (.aload_n 1, 1) := by decide +kernel
theorem dX1_subtractParts_15 : decode cX1_subtractParts 15 = .ok (.getfield 9, 3) := by decide +kernel
theorem dX1_subtractParts_18 : decode cX1_subtractParts 18 = .ok (.iload 4, 2) := by decide +kernel
theorem dX1_subtractParts_20 : decode cX1_subtractParts 20 = .ok (.iaload, 1) := by decide +kernel
theorem dX1_subtractParts_21 : decode cX1_subtractParts 21 = .ok (.aload_n 2, 1) := by decide +kernel
theorem dX1_subtractParts_22 : decode cX1_subtractParts 22 = .ok (.iload 4, 2) := by decide +kernel
theorem dX1_subtractParts_24 : decode cX1_subtractParts 24 = .ok (.invokevirtual 56, 3) := by decide +kernel
theorem dX1_subtractParts_27 : decode cX1_subtractParts 27 = .ok (.isub, 1) := by decide +kernel
theorem dX1_subtractParts_28 : decode cX1_subtractParts 28 = .ok (.iload_n 3, 1) := by decide +kernel
theorem dX1_subtractParts_29 : decode cX1_subtractParts 29 = .ok (.isub, 1) := by decide +kernel
theorem dX1_subtractParts_30 : decode cX1_subtractParts 30 = .ok (.istore 5, 2) := by decide +kernel
theorem dX1_subtractParts_32 : decode cX1_subtractParts 32 = .ok (.iload 5, 2) := by decide +kernel
theorem dX1_subtractParts_34 : decode cX1_subtractParts 34 = .ok (.ifCond .ge 7, 3) := by decide +kernel
theorem dX1_subtractParts_37 : decode cX1_subtractParts 37 = .ok (.iconst 1, 1) := by decide +kernel
theorem dX1_subtractParts_38 : decode cX1_subtractParts 38 = .ok (.goto 4, 3) := by decide +kernel
theorem dX1_subtractParts_41 : decode cX1_subtractParts 41 = .ok (.iconst 0, 1) := by decide +kernel
theorem dX1_subtractParts_42 : decode cX1_subtractParts 42 = .ok (.istore_n 3, 1) := by decide +kernel
theorem dX1_subtractParts_43 : decode cX1_subtractParts 43 = .ok (.aload_n 0, 1) := by decide +kernel
theorem dX1_subtractParts_44 : decode cX1_subtractParts 44 = .ok (.getfield 9, 3) := by decide +kernel
theorem dX1_subtractParts_47 : decode cX1_subtractParts 47 = .ok (.iload 4, 2) := by decide +kernel
theorem dX1_subtractParts_49 : decode cX1_subtractParts 49 = .ok (.iload 5, 2) := by decide +kernel
theorem dX1_subtractParts_51 : decode cX1_subtractParts 51 = .ok (.iload_n 3, 1) := by decide +kernel
theorem dX1_subtractParts_52 : decode cX1_subtractParts 52 = .ok (.ldc 60, 2) := by decide +kernel
theorem dX1_subtractParts_54 : decode cX1_subtractParts 54 = .ok (.imul, 1) := by decide +kernel
theorem dX1_subtractParts_55 : decode cX1_subtractParts 55 = .ok (.iadd, 1) := by decide +kernel
theorem dX1_subtractParts_56 : decode cX1_subtractParts 56 = .ok (.iastore, 1) := by decide +kernel
theorem dX1_subtractParts_57 : decode cX1_subtractParts 57 = .ok (.iinc 4 1, 3) := by decide +kernel
theorem dX1_subtractParts_60 : decode cX1_subtractParts 60 = .ok (.goto (-55), 3) := by decide +kernel
theorem dX1_subtractParts_63 : decode cX1_subtractParts 63 = .ok (.aload_n 0, 1) := by decide +kernel
theorem dX1_subtractParts_64 : decode cX1_subtractParts 64 = .ok (.aload_n 1, 1) := by decide +kernel
theorem dX1_subtractParts_65 : decode cX1_subtractParts 65 = .ok (.getfield 15, 3) := by decide +kernel
theorem dX1_subtractParts_68 : decode cX1_subtractParts 68 = .ok (.invokevirtual 31, 3) := by decide +kernel
theorem dX1_subtractParts_71 : decode cX1_subtractParts 71 = .ok (.return_, 1) := by decide +kernel
theorem dX1_takeProduct_0 : decode cX1_takeProduct 0 = .ok (.aload_n 1, 1) := by decide +kernel
theorem dX1_takeProduct_1 : decode cX1_takeProduct 1 = .ok (.getfield 15, 3) := by decide +kernel
theorem dX1_takeProduct_4 : decode cX1_takeProduct 4 = .ok (.aload_n 2, 1) := by decide +kernel
theorem dX1_takeProduct_5 : decode cX1_takeProduct 5 = .ok (.getfield 15, 3) := by decide +kernel
theorem dX1_takeProduct_8 : decode cX1_takeProduct 8 = .ok (.iadd, 1) := by decide +kernel
theorem dX1_takeProduct_9 : decode cX1_takeProduct 9 = .ok (.istore_n 3, 1) := by decide +kernel
theorem dX1_takeProduct_10 : decode cX1_takeProduct 10 = .ok (.aload_n 1, 1) := by decide +kernel
theorem dX1_takeProduct_11 : decode cX1_takeProduct 11 = .ok (.getfield 9, 3) := by decide +kernel
theorem dX1_takeProduct_14 : decode cX1_takeProduct 14 = .ok (.astore 4, 2) := by decide +kernel
theorem dX1_takeProduct_16 : decode cX1_takeProduct 16 = .ok (.aload_n 2, 1) := by decide +kernel
theorem dX1_takeProduct_17 : decode cX1_takeProduct 17 = .ok (.getfield 9, 3) := by decide +kernel
theorem dX1_takeProduct_20 : decode cX1_takeProduct 20 = .ok (.astore 5, 2) := by decide +kernel
theorem dX1_takeProduct_22 : decode cX1_takeProduct 22 = .ok (.lconst 0, 1) := by decide +kernel
theorem dX1_takeProduct_23 : decode cX1_takeProduct 23 = .ok (.lstore 6, 2) := by decide +kernel
theorem dX1_takeProduct_25 : decode cX1_takeProduct 25 = .ok (.iconst 0, 1) := by decide +kernel
theorem dX1_takeProduct_26 : decode cX1_takeProduct 26 = .ok (.istore 8, 2) := by decide +kernel
theorem dX1_takeProduct_28 : decode cX1_takeProduct 28 = .ok (.iload 8, 2) := by decide +kernel
theorem dX1_takeProduct_30 : decode cX1_takeProduct 30 = .ok (.iload_n 3, 1) := by decide +kernel
theorem dX1_takeProduct_31 : decode cX1_takeProduct 31 = .ok (.if_icmp .ge 93, 3) := by decide +kernel
theorem dX1_takeProduct_34 : decode cX1_takeProduct 34 = .ok (.iload 8, 2) := by decide +kernel
theorem dX1_takeProduct_36 : decode cX1_takeProduct 36 = .ok (.iconst 1, 1) := by decide +kernel
theorem dX1_takeProduct_37 : decode cX1_takeProduct 37 = .ok (.iadd, 1) := by decide +kernel
theorem dX1_takeProduct_38 : decode cX1_takeProduct 38 = .ok (.aload_n 1, 1) := by decide +kernel
theorem dX1_takeProduct_39 : decode cX1_takeProduct 39 = .ok (.getfield 15, 3) := by decide +kernel
theorem dX1_takeProduct_42 : decode cX1_takeProduct 42 = .ok (.invokestatic 61, 3) := by decide +kernel
theorem dX1_takeProduct_45 : decode cX1_takeProduct 45 = .ok (.istore 9, 2) := by decide +kernel
theorem dX1_takeProduct_47 : decode cX1_takeProduct 47 = .ok (.iconst 0, 1) := by decide +kernel
theorem dX1_takeProduct_48 : decode cX1_takeProduct 48 = .ok (.iload 8, 2) := by decide +kernel
theorem dX1_takeProduct_50 : decode cX1_takeProduct 50 = .ok (.aload_n 2, 1) := by decide +kernel
theorem dX1_takeProduct_51 : decode cX1_takeProduct 51 = .ok (.getfield 15, 3) := by decide +kernel
theorem dX1_takeProduct_54 : decode cX1_takeProduct 54 = .ok (.isub, 1) := by decide +kernel
theorem dX1_takeProduct_55 : decode cX1_takeProduct 55 = .ok (.iconst 1, 1) := by decide +kernel
theorem dX1_takeProduct_56 : decode cX1_takeProduct 56 = .ok (.iadd, 1) := by decide +kernel
theorem dX1_takeProduct_57 : decode cX1_takeProduct 57 = .ok (.invokestatic 52, 3) := by decide +kernel
theorem dX1_takeProduct_60 : decode cX1_takeProduct 60 = .ok (.istore 10, 2) := by decide +kernel
theorem dX1_takeProduct_62 : decode cX1_takeProduct 62 = .ok (.iload 10, 2) := by decide +kernel
theorem dX1_takeProduct_64 : decode cX1_takeProduct 64 = .ok (.iload 9, 2) := by decide +kernel
theorem dX1_takeProduct_66 : decode cX1_takeProduct 66 = .ok (.if_icmp .ge 30, 3) := by decide +kernel
theorem dX1_takeProduct_69 : decode cX1_takeProduct 69 = .ok (.lload 6, 2) := by decide +kernel
theorem dX1_takeProduct_71 : decode cX1_takeProduct 71 = .ok (.aload 4, 2) := by decide +kernel
theorem dX1_takeProduct_73 : decode cX1_takeProduct 73 = .ok (.iload 10, 2) := by decide +kernel
theorem dX1_takeProduct_75 : decode cX1_takeProduct 75 = .ok (.iaload, 1) := by decide +kernel
theorem dX1_takeProduct_76 : decode cX1_takeProduct 76 = .ok (.i2l, 1) := by decide +kernel
theorem dX1_takeProduct_77 : decode cX1_takeProduct 77 = .ok (.aload 5, 2) := by decide +kernel
theorem dX1_takeProduct_79 : decode cX1_takeProduct 79 = .ok (.iload 8, 2) := by decide +kernel
theorem dX1_takeProduct_81 : decode cX1_takeProduct 81 = .ok (.iload 10, 2) := by decide +kernel
theorem dX1_takeProduct_83 : decode cX1_takeProduct 83 = .ok (.isub, 1) := by decide +kernel
theorem dX1_takeProduct_84 : decode cX1_takeProduct 84 = .ok (.iaload, 1) := by decide +kernel
theorem dX1_takeProduct_85 : decode cX1_takeProduct 85 = .ok (.i2l, 1) := by decide +kernel
theorem dX1_takeProduct_86 : decode cX1_takeProduct 86 = .ok (.lmul, 1) := by decide +kernel
theorem dX1_takeProduct_87 : decode cX1_takeProduct 87 = .ok (.ladd, 1) := by decide +kernel
theorem dX1_takeProduct_88 : decode cX1_takeProduct 88 = .ok (.lstore 6, 2) := by decide +kernel
theorem dX1_takeProduct_90 : decode cX1_takeProduct 90 = .ok (.iinc 10 1, 3) := by decide +kernel
theorem dX1_takeProduct_93 : decode cX1_takeProduct 93 = .ok (.goto (-31), 3) := by decide +kernel
theorem dX1_takeProduct_96 : decode cX1_takeProduct 96 = .ok (.aload_n 0, 1) := by decide +kernel
theorem dX1_takeProduct_97 : decode cX1_takeProduct 97 = .ok (.getfield 9, 3) := by decide +kernel
theorem dX1_takeProduct_100 : decode cX1_takeProduct 100 = .ok (.iload 8, 2) := by decide +kernel
theorem dX1_takeProduct_102 : decode cX1_takeProduct 102 = .ok (.lload 6, 2) := by decide +kernel
theorem dX1_takeProduct_104 : decode cX1_takeProduct 104 = .ok (.ldc2_w 23, 3) := by decide +kernel
theorem dX1_takeProduct_107 : decode cX1_takeProduct 107 = .ok (.lrem, 1) := by decide +kernel
theorem dX1_takeProduct_108 : decode cX1_takeProduct 108 = .ok (.l2i, 1) := by decide +kernel
theorem dX1_takeProduct_109 : decode cX1_takeProduct 109 = .ok (.iastore, 1) := by decide +kernel
theorem dX1_takeProduct_110 : decode cX1_takeProduct 110 = .ok (.lload 6, 2) := by decide +kernel
theorem dX1_takeProduct_112 : decode cX1_takeProduct 112 = .ok (.ldc2_w 23, 3) := by decide +kernel
theorem dX1_takeProduct_115 : decode cX1_takeProduct 115 = .ok (.ldiv, 1) := by decide +kernel
theorem dX1_takeProduct_116 : decode cX1_takeProduct 116 = .ok (.lstore 6, 2) := by decide +kernel
theorem dX1_takeProduct_118 : decode cX1_takeProduct 118 = .ok (.iinc 8 1, 3) := by decide +kernel
theorem dX1_takeProduct_121 : decode cX1_takeProduct 121 = .ok (.goto (-93), 3) := by decide +kernel
theorem dX1_takeProduct_124 : decode cX1_takeProduct 124 = .ok (.aload_n 0, 1) := by decide +kernel
theorem dX1_takeProduct_125 : decode cX1_takeProduct 125 = .ok (.aload_n 1, 1) := by decide +kernel
theorem dX1_takeProduct_126 : decode cX1_takeProduct 126 = .ok (.getfield 19, 3) := by decide +kernel
theorem dX1_takeProduct_129 : decode cX1_takeProduct 129 = .ok (.aload_n 2, 1) := by decide +kernel
theorem dX1_takeProduct_130 : decode cX1_takeProduct 130 = .ok (.getfield 19, 3) := by decide +kernel
theorem dX1_takeProduct_133 : decode cX1_takeProduct 133 = .ok (.if_icmp .eq 7, 3) := by decide +kernel
theorem dX1_takeProduct_136 : decode cX1_takeProduct 136 = .ok (.iconst 1, 1) := by decide +kernel
theorem dX1_takeProduct_137 : decode cX1_takeProduct 137 = .ok (.goto 4, 3) := by decide +kernel
theorem dX1_takeProduct_140 : decode cX1_takeProduct 140 = .ok (.iconst 0, 1) := by decide +kernel
theorem dX1_takeProduct_141 : decode cX1_takeProduct 141 = .ok (.putfield 19, 3) := by decide +kernel
theorem dX1_takeProduct_144 : decode cX1_takeProduct 144 = .ok (.aload_n 0, 1) := by decide +kernel
theorem dX1_takeProduct_145 : decode cX1_takeProduct 145 = .ok (.iload_n 3, 1) := by decide +kernel
theorem dX1_takeProduct_146 : decode cX1_takeProduct 146 = .ok (.invokevirtual 31, 3) := by decide +kernel
theorem dX1_takeProduct_149 : decode cX1_takeProduct 149 = .ok (.return_, 1) := by decide +kernel
theorem dX1_halve_0 : decode cX1_halve 0 = .ok (.iconst 0, 1) := by decide +kernel
theorem dX1_halve_1 : decode cX1_halve 1 = .ok (.istore_n 1, 1) := by decide +kernel
theorem dX1_halve_2 : decode cX1_halve 2 = .ok (.aload_n 0, 1) := by decide +kernel
theorem dX1_halve_3 : decode cX1_halve 3 = .ok (.getfield 15, 3) := by decide +kernel
theorem dX1_halve_6 : decode cX1_halve 6 = .ok (.iconst 1, 1) := by decide +kernel
theorem dX1_halve_7 : decode cX1_halve 7 = .ok (.isub, 1) := by decide +kernel
theorem dX1_halve_8 : decode cX1_halve 8 = .ok (.istore_n 2, 1) := by decide +kernel
theorem dX1_halve_9 : decode cX1_halve 9 = .ok (.iload_n 2, 1) := by decide +kernel
theorem dX1_halve_10 : decode cX1_halve 10 = .ok (.ifCond .lt 34, 3) := by decide +kernel
theorem dX1_halve_13 : decode cX1_halve 13 = .ok (.iload_n 1, 1) := by decide +kernel
theorem dX1_halve_14 : decode cX1_halve 14 = .ok (.ldc 60, 2) := by decide +kernel
theorem dX1_halve_16 : decode cX1_halve 16 = .ok (.imul, 1) := by decide +kernel
theorem dX1_halve_17 : decode cX1_halve 17 = .ok (.aload_n 0, 1) := by decide +kernel
theorem dX1_halve_18 : decode cX1_halve 18 = .ok (.getfield 9, 3) := by decide +kernel
theorem dX1_halve_21 : decode cX1_halve 21 = .ok (.iload_n 2, 1) := by decide +kernel
theorem dX1_halve_22 : decode cX1_halve 22 = .ok (.iaload, 1) := by decide +kernel
theorem dX1_halve_23 : decode cX1_halve 23 = .ok (.iadd, 1) := by decide +kernel
theorem dX1_halve_24 : decode cX1_halve 24 = .ok (.istore_n 3, 1) := by decide +kernel
theorem dX1_halve_25 : decode cX1_halve 25 = .ok (.aload_n 0, 1) := by decide +kernel
theorem dX1_halve_26 : decode cX1_halve 26 = .ok (.getfield 9, 3) := by decide +kernel
theorem dX1_halve_29 : decode cX1_halve 29 = .ok (.iload_n 2, 1) := by decide +kernel
theorem dX1_halve_30 : decode cX1_halve 30 = .ok (.iload_n 3, 1) := by decide +kernel
theorem dX1_halve_31 : decode cX1_halve 31 = .ok (.iconst 2, 1) := by decide +kernel
theorem dX1_halve_32 : decode cX1_halve 32 = .ok (.idiv, 1) := by decide +kernel
theorem dX1_halve_33 : decode cX1_halve 33 = .ok (.iastore, 1) := by decide +kernel
theorem dX1_halve_34 : decode cX1_halve 34 = .ok (.iload_n 3, 1) := by decide +kernel
theorem dX1_halve_35 : decode cX1_halve 35 = .ok (.iconst 2, 1) := by decide +kernel
theorem dX1_halve_36 : decode cX1_halve 36 = .ok (.irem, 1) := by decide +kernel
theorem dX1_halve_37 : decode cX1_halve 37 = .ok (.istore_n 1, 1) := by decide +kernel
theorem dX1_halve_38 : decode cX1_halve 38 = .ok (.iinc 2 (-1), 3) := by decide +kernel
theorem dX1_halve_41 : decode cX1_halve 41 = .ok (.goto (-32), 3) := by decide +kernel
theorem dX1_halve_44 : decode cX1_halve 44 = .ok (.aload_n 0, 1) := by decide +kernel
theorem dX1_halve_45 : decode cX1_halve 45 = .ok (.aload_n 0, 1) := by decide +kernel
theorem dX1_halve_46 : decode cX1_halve 46 = .ok (.getfield 15, 3) := by decide +kernel
theorem dX1_halve_49 : decode cX1_halve 49 = .ok (.invokevirtual 31, 3) := by decide +kernel
theorem dX1_halve_52 : decode cX1_halve 52 = .ok (.return_, 1) := by decide +kernel
theorem dX1_compareParts_0 : decode cX1_compareParts 0 = .ok (.aload_n 0, 1) := by decide +kernel
theorem dX1_compareParts_1 : decode cX1_compareParts 1 = .ok (.getfield 15, 3) := by decide +kernel
theorem dX1_compareParts_4 : decode cX1_compareParts 4 = .ok (.aload_n 1, 1) := by decide +kernel
theorem dX1_compareParts_5 : decode cX1_compareParts 5 = .ok (.getfield 15, 3) := by decide +kernel
theorem dX1_compareParts_8 : decode cX1_compareParts 8 = .ok (.if_icmp .eq 20, 3) := by decide +kernel
theorem dX1_compareParts_11 : decode cX1_compareParts 11 = .ok (.aload_n 0, 1) := by decide +kernel
theorem dX1_compareParts_12 : decode cX1_compareParts 12 = .ok (.getfield 15, 3) := by decide +kernel
theorem dX1_compareParts_15 : decode cX1_compareParts 15 = .ok (.aload_n 1, 1) := by decide +kernel
theorem dX1_compareParts_16 : decode cX1_compareParts 16 = .ok (.getfield 15, 3) := by decide +kernel
theorem dX1_compareParts_19 : decode cX1_compareParts 19 = .ok (.if_icmp .ge 7, 3) := by decide +kernel
theorem dX1_compareParts_22 : decode cX1_compareParts 22 = .ok (.iconst (-1), 1) := by decide +kernel
theorem dX1_compareParts_23 : decode cX1_compareParts 23 = .ok (.goto 4, 3) := by decide +kernel
theorem dX1_compareParts_26 : decode cX1_compareParts 26 = .ok (.iconst 1, 1) := by decide +kernel
theorem dX1_compareParts_27 : decode cX1_compareParts 27 = .ok (.ireturn, 1) := by decide +kernel
theorem dX1_compareParts_28 : decode cX1_compareParts 28 = .ok (.aload_n 0, 1) := by decide +kernel
theorem dX1_compareParts_29 : decode cX1_compareParts 29 = .ok (.getfield 15, 3) := by decide +kernel
theorem dX1_compareParts_32 : decode cX1_compareParts 32 = .ok (.iconst 1, 1) := by decide +kernel
theorem dX1_compareParts_33 : decode cX1_compareParts 33 = .ok (.isub, 1) := by decide +kernel
theorem dX1_compareParts_34 : decode cX1_compareParts 34 = .ok (.istore_n 2, 1) := by decide +kernel
theorem dX1_compareParts_35 : decode cX1_compareParts 35 = .ok (.iload_n 2, 1) := by decide +kernel
theorem dX1_compareParts_36 : decode cX1_compareParts 36 = .ok (.ifCond .lt 45, 3) := by decide +kernel
theorem dX1_compareParts_39 : decode cX1_compareParts 39 = .ok (.aload_n 0, 1) := by decide +kernel
theorem dX1_compareParts_40 : decode cX1_compareParts 40 = .ok (.getfield 9, 3) := by decide +kernel
theorem dX1_compareParts_43 : decode cX1_compareParts 43 = .ok (.iload_n 2, 1) := by decide +kernel
theorem dX1_compareParts_44 : decode cX1_compareParts 44 = .ok (.iaload, 1) := by decide +kernel
theorem dX1_compareParts_45 : decode cX1_compareParts 45 = .ok (.aload_n 1, 1) := by decide +kernel
theorem dX1_compareParts_46 : decode cX1_compareParts 46 = .ok (.getfield 9, 3) := by decide +kernel
theorem dX1_compareParts_49 : decode cX1_compareParts 49 = .ok (.iload_n 2, 1) := by decide +kernel
theorem dX1_compareParts_50 : decode cX1_compareParts 50 = .ok (.iaload, 1) := by decide +kernel
theorem dX1_compareParts_51 : decode cX1_compareParts 51 = .ok (.if_icmp .eq 24, 3) := by decide +kernel
theorem dX1_compareParts_54 : decode cX1_compareParts 54 = .ok (.aload_n 0, 1) := by decide +kernel
theorem dX1_compareParts_55 : decode cX1_compareParts 55 = .ok (.getfield 9, 3) := by decide +kernel
theorem dX1_compareParts_58 : decode cX1_compareParts 58 = .ok (.iload_n 2, 1) := by decide +kernel
theorem dX1_compareParts_59 : decode cX1_compareParts 59 = .ok (.iaload, 1) := by decide +kernel
theorem dX1_compareParts_60 : decode cX1_compareParts 60 = .ok (.aload_n 1, 1) := by decide +kernel
theorem dX1_compareParts_61 : decode cX1_compareParts 61 = .ok (.getfield 9, 3) := by decide +kernel
theorem dX1_compareParts_64 : decode cX1_compareParts 64 = .ok (.iload_n 2, 1) := by decide +kernel
theorem dX1_compareParts_65 : decode cX1_compareParts 65 = .ok (.iaload, 1) := by decide +kernel
theorem dX1_compareParts_66 : decode cX1_compareParts 66 = .ok (.if_icmp .ge 7, 3) := by decide +kernel
theorem dX1_compareParts_69 : decode cX1_compareParts 69 = .ok (.iconst (-1), 1) := by decide +kernel
theorem dX1_compareParts_70 : decode cX1_compareParts 70 = .ok (.goto 4, 3) := by decide +kernel
theorem dX1_compareParts_73 : decode cX1_compareParts 73 = .ok (.iconst 1, 1) := by decide +kernel
theorem dX1_compareParts_74 : decode cX1_compareParts 74 = .ok (.ireturn, 1) := by decide +kernel
theorem dX1_compareParts_75 : decode cX1_compareParts 75 = .ok (.iinc 2 (-1), 3) := by decide +kernel
theorem dX1_compareParts_78 : decode cX1_compareParts 78 = .ok (.goto (-43), 3) := by decide +kernel
theorem dX1_compareParts_81 : decode cX1_compareParts 81 = .ok (.iconst 0, 1) := by decide +kernel
theorem dX1_compareParts_82 : decode cX1_compareParts 82 = .ok (.ireturn, 1) := by decide +kernel
theorem dX1_compareWhole_0 : decode cX1_compareWhole 0 = .ok (.aload_n 0, 1) := by decide +kernel
theorem dX1_compareWhole_1 : decode cX1_compareWhole 1 = .ok (.getfield 19, 3) := by decide +kernel
theorem dX1_compareWhole_4 : decode cX1_compareWhole 4 = .ok (.aload_n 1, 1) := by decide +kernel
theorem dX1_compareWhole_5 : decode cX1_compareWhole 5 = .ok (.getfield 19, 3) := by decide +kernel
theorem dX1_compareWhole_8 : decode cX1_compareWhole 8 = .ok (.if_icmp .eq 16, 3) := by decide +kernel
theorem dX1_compareWhole_11 : decode cX1_compareWhole 11 = .ok (.aload_n 0, 1) := by decide +kernel
theorem dX1_compareWhole_12 : decode cX1_compareWhole 12 = .ok (.getfield 19, 3) := by decide +kernel
theorem dX1_compareWhole_15 : decode cX1_compareWhole 15 = .ok (.ifCond .eq 7, 3) := by decide +kernel
theorem dX1_compareWhole_18 : decode cX1_compareWhole 18 = .ok (.iconst (-1), 1) := by decide +kernel
theorem dX1_compareWhole_19 : decode cX1_compareWhole 19 = .ok (.goto 4, 3) := by decide +kernel
theorem dX1_compareWhole_22 : decode cX1_compareWhole 22 = .ok (.iconst 1, 1) := by decide +kernel
theorem dX1_compareWhole_23 : decode cX1_compareWhole 23 = .ok (.ireturn, 1) := by decide +kernel
theorem dX1_compareWhole_24 : decode cX1_compareWhole 24 = .ok (.aload_n 0, 1) := by decide +kernel
theorem dX1_compareWhole_25 : decode cX1_compareWhole 25 = .ok (.getfield 19, 3) := by decide +kernel
theorem dX1_compareWhole_28 : decode cX1_compareWhole 28 = .ok (.ifCond .eq 11, 3) := by decide +kernel
theorem dX1_compareWhole_31 : decode cX1_compareWhole 31 = .ok (.aload_n 1, 1) := by decide +kernel
theorem dX1_compareWhole_32 : decode cX1_compareWhole 32 = .ok (.aload_n 0, 1) := by decide +kernel
theorem dX1_compareWhole_33 : decode cX1_compareWhole 33 = .ok (.invokevirtual 41, 3) := by decide +kernel
theorem dX1_compareWhole_36 : decode cX1_compareWhole 36 = .ok (.goto 8, 3) := by decide +kernel
theorem dX1_compareWhole_39 : decode cX1_compareWhole 39 = .ok (.aload_n 0, 1) := by decide +kernel
theorem dX1_compareWhole_40 : decode cX1_compareWhole 40 = .ok (.aload_n 1, 1) := by decide +kernel
theorem dX1_compareWhole_41 : decode cX1_compareWhole 41 = .ok (.invokevirtual 41, 3) := by decide +kernel
theorem dX1_compareWhole_44 : decode cX1_compareWhole 44 = .ok (.ireturn, 1) := by decide +kernel
theorem dX1_divideBy_0 : decode cX1_divideBy 0 = .ok (.aload_n 0, 1) := by decide +kernel
theorem dX1_divideBy_1 : decode cX1_divideBy 1 = .ok (.getfield 15, 3) := by decide +kernel
theorem dX1_divideBy_4 : decode cX1_divideBy 4 = .ok (.aload_n 1, 1) := by decide +kernel
theorem dX1_divideBy_5 : decode cX1_divideBy 5 = .ok (.getfield 15, 3) := by decide +kernel
theorem dX1_divideBy_8 : decode cX1_divideBy 8 = .ok (.isub, 1) := by decide +kernel
theorem dX1_divideBy_9 : decode cX1_divideBy 9 = .ok (.iconst 1, 1) := by decide +kernel
theorem dX1_divideBy_10 : decode cX1_divideBy 10 = .ok (.iadd, 1) := by decide +kernel
theorem dX1_divideBy_11 : decode cX1_divideBy 11 = .ok (.istore_n 3, 1) := by decide +kernel
theorem dX1_divideBy_12 : decode cX1_divideBy 12 = .ok (.aload_n 1, 1) := by decide +kernel
theorem dX1_divideBy_13 : decode cX1_divideBy 13 = .ok (.invokevirtual 64, 3) := by decide +kernel
theorem dX1_divideBy_16 : decode cX1_divideBy 16 = .ok (.lstore 4, 2) := by decide +kernel
theorem dX1_divideBy_18 : decode cX1_divideBy 18 = .ok (.lload 4, 2) := by decide +kernel
theorem dX1_divideBy_20 : decode cX1_divideBy 20 = .ok (.lconst 0, 1) := by decide +kernel
theorem dX1_divideBy_21 : decode cX1_divideBy 21 = .ok (.lcmp, 1) := by decide +kernel
theorem dX1_divideBy_22 : decode cX1_divideBy 22 = .ok (.ifCond .eq 7, 3) := by decide +kernel
theorem dX1_divideBy_25 : decode cX1_divideBy 25 = .ok (.iload_n 3, 1) := by decide +kernel
theorem dX1_divideBy_26 : decode cX1_divideBy 26 = .ok (.ifCond .gt 9, 3) := by decide +kernel
theorem dX1_divideBy_29 : decode cX1_divideBy 29 = .ok (.aload_n 2, 1) := by decide +kernel
theorem dX1_divideBy_30 : decode cX1_divideBy 30 = .ok (.lconst 0, 1) := by decide +kernel
theorem dX1_divideBy_31 : decode cX1_divideBy 31 = .ok (.invokevirtual 68, 3) := by decide +kernel
theorem dX1_divideBy_34 : decode cX1_divideBy 34 = .ok (.return_, 1) := by decide +kernel
theorem dX1_divideBy_35 : decode cX1_divideBy 35 = .ok (.aload_n 0, 1) := by decide +kernel
theorem dX1_divideBy_36 : decode cX1_divideBy 36 = .ok (.getfield 9, 3) := by decide +kernel
theorem dX1_divideBy_39 : decode cX1_divideBy 39 = .ok (.aload_n 0, 1) := by decide +kernel
theorem dX1_divideBy_40 : decode cX1_divideBy 40 = .ok (.getfield 15, 3) := by decide +kernel
theorem dX1_divideBy_43 : decode cX1_divideBy 43 = .ok (.iconst 0, 1) := by decide +kernel
theorem dX1_divideBy_44 : decode cX1_divideBy 44 = .ok (.iastore, 1) := by decide +kernel
theorem dX1_divideBy_45 : decode cX1_divideBy 45 = .ok (.iload_n 3, 1) := by decide +kernel
theorem dX1_divideBy_46 : decode cX1_divideBy 46 = .ok (.iconst 1, 1) := by decide +kernel
theorem dX1_divideBy_47 : decode cX1_divideBy 47 = .ok (.isub, 1) := by decide +kernel
theorem dX1_divideBy_48 : decode cX1_divideBy 48 = .ok (.istore 6, 2) := by decide +kernel
theorem dX1_divideBy_50 : decode cX1_divideBy 50 = .ok (.iload 6, 2) := by decide +kernel
theorem dX1_divideBy_52 : decode cX1_divideBy 52 = .ok (.ifCond .lt 25, 3) := by decide +kernel
theorem dX1_divideBy_55 : decode cX1_divideBy 55 = .ok (.aload_n 2, 1) := by decide +kernel
theorem dX1_divideBy_56 : decode cX1_divideBy 56 = .ok (.getfield 9, 3) := by decide +kernel
theorem dX1_divideBy_59 : decode cX1_divideBy 59 = .ok (.iload 6, 2) := by decide +kernel
theorem dX1_divideBy_61 : decode cX1_divideBy 61 = .ok (.aload_n 0, 1) := by decide +kernel
theorem dX1_divideBy_62 : decode cX1_divideBy 62 = .ok (.aload_n 1, 1) := by decide +kernel
theorem dX1_divideBy_63 : decode cX1_divideBy 63 = .ok (.lload 4, 2) := by decide +kernel
theorem dX1_divideBy_65 : decode cX1_divideBy 65 = .ok (.iload 6, 2) := by decide +kernel
theorem dX1_divideBy_67 : decode cX1_divideBy 67 = .ok (.invokevirtual 72, 3) := by decide +kernel
theorem dX1_divideBy_70 : decode cX1_divideBy 70 = .ok (.iastore, 1) := by decide +kernel
theorem dX1_divideBy_71 : decode cX1_divideBy 71 = .ok (.iinc 6 (-1), 3) := by decide +kernel
theorem dX1_divideBy_74 : decode cX1_divideBy 74 = .ok (.goto (-24), 3) := by decide +kernel
theorem dX1_divideBy_77 : decode cX1_divideBy 77 = .ok (.aload_n 2, 1) := by decide +kernel
theorem dX1_divideBy_78 : decode cX1_divideBy 78 = .ok (.aload_n 0, 1) := by decide +kernel
theorem dX1_divideBy_79 : decode cX1_divideBy 79 = .ok (.getfield 19, 3) := by decide +kernel
theorem dX1_divideBy_82 : decode cX1_divideBy 82 = .ok (.aload_n 1, 1) := by decide +kernel
theorem dX1_divideBy_83 : decode cX1_divideBy 83 = .ok (.getfield 19, 3) := by decide +kernel
theorem dX1_divideBy_86 : decode cX1_divideBy 86 = .ok (.if_icmp .eq 7, 3) := by decide +kernel
theorem dX1_divideBy_89 : decode cX1_divideBy 89 = .ok (.iconst 1, 1) := by decide +kernel
theorem dX1_divideBy_90 : decode cX1_divideBy 90 = .ok (.goto 4, 3) := by decide +kernel
theorem dX1_divideBy_93 : decode cX1_divideBy 93 = .ok (.iconst 0, 1) := by decide +kernel
theorem dX1_divideBy_94 : decode cX1_divideBy 94 = .ok (.putfield 19, 3) := by decide +kernel
theorem dX1_divideBy_97 : decode cX1_divideBy 97 = .ok (.aload_n 2, 1) := by decide +kernel
theorem dX1_divideBy_98 : decode cX1_divideBy 98 = .ok (.iload_n 3, 1) := by decide +kernel
theorem dX1_divideBy_99 : decode cX1_divideBy 99 = .ok (.invokevirtual 31, 3) := by decide +kernel
theorem dX1_divideBy_102 : decode cX1_divideBy 102 = .ok (.aload_n 0, 1) := by decide +kernel
theorem dX1_divideBy_103 : decode cX1_divideBy 103 = .ok (.aload_n 1, 1) := by decide +kernel
theorem dX1_divideBy_104 : decode cX1_divideBy 104 = .ok (.getfield 15, 3) := by decide +kernel
theorem dX1_divideBy_107 : decode cX1_divideBy 107 = .ok (.invokevirtual 31, 3) := by decide +kernel
theorem dX1_divideBy_110 : decode cX1_divideBy 110 = .ok (.return_, 1) := by decide +kernel
theorem dX1_leadOfTwo_0 : decode cX1_leadOfTwo 0 = .ok (.aload_n 0, 1) := by decide +kernel
theorem dX1_leadOfTwo_1 : decode cX1_leadOfTwo 1 = .ok (.aload_n 0, 1) := by decide +kernel
theorem dX1_leadOfTwo_2 : decode cX1_leadOfTwo 2 = .ok (.getfield 15, 3) := by decide +kernel
theorem dX1_leadOfTwo_5 : decode cX1_leadOfTwo 5 = .ok (.iconst 1, 1) := by decide +kernel
theorem dX1_leadOfTwo_6 : decode cX1_leadOfTwo 6 = .ok (.isub, 1) := by decide +kernel
theorem dX1_leadOfTwo_7 : decode cX1_leadOfTwo 7 = .ok (.invokevirtual 56, 3) := by decide +kernel
theorem dX1_leadOfTwo_10 : decode cX1_leadOfTwo 10 = .ok (.i2l, 1) := by decide +kernel
theorem dX1_leadOfTwo_11 : decode cX1_leadOfTwo 11 = .ok (.ldc2_w 23, 3) := by decide +kernel
theorem dX1_leadOfTwo_14 : decode cX1_leadOfTwo 14 = .ok (.lmul, 1) := by decide +kernel
theorem dX1_leadOfTwo_15 : decode cX1_leadOfTwo 15 = .ok (.aload_n 0, 1) := by decide +kernel
theorem dX1_leadOfTwo_16 : decode cX1_leadOfTwo 16 = .ok (.aload_n 0, 1) := by decide +kernel
theorem dX1_leadOfTwo_17 : decode cX1_leadOfTwo 17 = .ok (.getfield 15, 3) := by decide +kernel
theorem dX1_leadOfTwo_20 : decode cX1_leadOfTwo 20 = .ok (.iconst 2, 1) := by decide +kernel
theorem dX1_leadOfTwo_21 : decode cX1_leadOfTwo 21 = .ok (.isub, 1) := by decide +kernel
theorem dX1_leadOfTwo_22 : decode cX1_leadOfTwo 22 = .ok (.invokevirtual 56, 3) := by decide +kernel
theorem dX1_leadOfTwo_25 : decode cX1_leadOfTwo 25 = .ok (.i2l, 1) := by decide +kernel
theorem dX1_leadOfTwo_26 : decode cX1_leadOfTwo 26 = .ok (.ladd, 1) := by decide +kernel
theorem dX1_leadOfTwo_27 : decode cX1_leadOfTwo 27 = .ok (.lreturn, 1) := by decide +kernel
theorem dX1_takeAway_0 : decode cX1_takeAway 0 = .ok (.iload 4, 2) := by decide +kernel
theorem dX1_takeAway_2 : decode cX1_takeAway 2 = .ok (.aload_n 1, 1) := by decide +kernel
theorem dX1_takeAway_3 : decode cX1_takeAway 3 = .ok (.getfield 15, 3) := by decide +kernel
theorem dX1_takeAway_6 : decode cX1_takeAway 6 = .ok (.iadd, 1) := by decide +kernel
theorem dX1_takeAway_7 : decode cX1_takeAway 7 = .ok (.istore 5, 2) := by decide +kernel
theorem dX1_takeAway_9 : decode cX1_takeAway 9 = .ok (.iload 5, 2) := by decide +kernel
theorem dX1_takeAway_11 : decode cX1_takeAway 11 = .ok (.iconst 2, 1) := by decide +kernel
theorem dX1_takeAway_12 : decode cX1_takeAway 12 = .ok (.if_icmp .lt 16, 3) := by decide +kernel
theorem dX1_takeAway_15 : decode cX1_takeAway 15 = .ok (.aload_n 0, 1) := by decide +kernel
theorem dX1_takeAway_16 : decode cX1_takeAway 16 = .ok (.getfield 9, 3) := by decide +kernel
theorem dX1_takeAway_19 : decode cX1_takeAway 19 = .ok (.iload 5, 2) := by decide +kernel
theorem dX1_takeAway_21 : decode cX1_takeAway 21 = .ok (.iconst 2, 1) := by decide +kernel
theorem dX1_takeAway_22 : decode cX1_takeAway 22 = .ok (.isub, 1) := by decide +kernel
theorem dX1_takeAway_23 : decode cX1_takeAway 23 = .ok (.iaload, 1) := by decide +kernel
theorem dX1_takeAway_24 : decode cX1_takeAway 24 = .ok (.i2l, 1) := by decide +kernel
theorem dX1_takeAway_25 : decode cX1_takeAway 25 = .ok (.goto 4, 3) := by decide +kernel
theorem dX1_takeAway_28 : decode cX1_takeAway 28 = .ok (.lconst 0, 1) := by decide +kernel
theorem dX1_takeAway_29 : decode cX1_takeAway 29 = .ok (.lstore 6, 2) := by decide +kernel
theorem dX1_takeAway_31 : decode cX1_takeAway 31 = .ok (.aload_n 0, 1) := by decide +kernel
theorem dX1_takeAway_32 : decode cX1_takeAway 32 = .ok (.getfield 9, 3) := by decide +kernel
theorem dX1_takeAway_35 : decode cX1_takeAway 35 = .ok (.iload 5, 2) := by decide +kernel
theorem dX1_takeAway_37 : decode cX1_takeAway 37 = .ok (.iaload, 1) := by decide +kernel
theorem dX1_takeAway_38 : decode cX1_takeAway 38 = .ok (.i2l, 1) := by decide +kernel
theorem dX1_takeAway_39 : decode cX1_takeAway 39 = .ok (.ldc2_w 23, 3) := by decide +kernel
theorem dX1_takeAway_42 : decode cX1_takeAway 42 = .ok (.lmul, 1) := by decide +kernel
theorem dX1_takeAway_43 : decode cX1_takeAway 43 = .ok (.aload_n 0, 1) := by decide +kernel
theorem dX1_takeAway_44 : decode cX1_takeAway 44 = .ok (.getfield 9, 3) := by decide +kernel
theorem dX1_takeAway_47 : decode cX1_takeAway 47 = .ok (.iload 5, 2) := by decide +kernel
theorem dX1_takeAway_49 : decode cX1_takeAway 49 = .ok (.iconst 1, 1) := by decide +kernel
theorem dX1_takeAway_50 : decode cX1_takeAway 50 = .ok (.isub, 1) := by decide +kernel
theorem dX1_takeAway_51 : decode cX1_takeAway 51 = .ok (.iaload, 1) := by decide +kernel
theorem dX1_takeAway_52 : decode cX1_takeAway 52 = .ok (.i2l, 1) := by decide +kernel
theorem dX1_takeAway_53 : decode cX1_takeAway 53 = .ok (.ladd, 1) := by decide +kernel
theorem dX1_takeAway_54 : decode cX1_takeAway 54 = .ok (.ldc2_w 23, 3) := by decide +kernel
theorem dX1_takeAway_57 : decode cX1_takeAway 57 = .ok (.lmul, 1) := by decide +kernel
theorem dX1_takeAway_58 : decode cX1_takeAway 58 = .ok (.lload 6, 2) := by decide +kernel
theorem dX1_takeAway_60 : decode cX1_takeAway 60 = .ok (.ladd, 1) := by decide +kernel
theorem dX1_takeAway_61 : decode cX1_takeAway 61 = .ok (.lstore 8, 2) := by decide +kernel
theorem dX1_takeAway_63 : decode cX1_takeAway 63 = .ok (.lload_n 2, 1) := by decide +kernel
theorem dX1_takeAway_64 : decode cX1_takeAway 64 = .ok (.lconst 0, 1) := by decide +kernel
theorem dX1_takeAway_65 : decode cX1_takeAway 65 = .ok (.lcmp, 1) := by decide +kernel
theorem dX1_takeAway_66 : decode cX1_takeAway 66 = .ok (.ifCond .ne 7, 3) := by decide +kernel
theorem dX1_takeAway_69 : decode cX1_takeAway 69 = .ok (.iconst 0, 1) := by decide +kernel
theorem dX1_takeAway_70 : decode cX1_takeAway 70 = .ok (.goto 8, 3) := by decide +kernel
theorem dX1_takeAway_73 : decode cX1_takeAway 73 = .ok (.lload 8, 2) := by decide +kernel
theorem dX1_takeAway_75 : decode cX1_takeAway 75 = .ok (.lload_n 2, 1) := by decide +kernel
theorem dX1_takeAway_76 : decode cX1_takeAway 76 = .ok (.ldiv, 1) := by decide +kernel
theorem dX1_takeAway_77 : decode cX1_takeAway 77 = .ok (.l2i, 1) := by decide +kernel
theorem dX1_takeAway_78 : decode cX1_takeAway 78 = .ok (.istore 10, 2) := by decide +kernel
theorem dX1_takeAway_80 : decode cX1_takeAway 80 = .ok (.iload 10, 2) := by decide +kernel
theorem dX1_takeAway_82 : decode cX1_takeAway 82 = .ok (.ifCond .ne 5, 3) := by decide +kernel
theorem dX1_takeAway_85 : decode cX1_takeAway 85 = .ok (.iconst 0, 1) := by decide +kernel
theorem dX1_takeAway_86 : decode cX1_takeAway 86 = .ok (.ireturn, 1) := by decide +kernel
theorem dX1_takeAway_87 : decode cX1_takeAway 87 = .ok (.aload_n 0, 1) := by decide +kernel
theorem dX1_takeAway_88 : decode cX1_takeAway 88 = .ok (.aload_n 1, 1) := by decide +kernel
theorem dX1_takeAway_89 : decode cX1_takeAway 89 = .ok (.iload 10, 2) := by decide +kernel
theorem dX1_takeAway_91 : decode cX1_takeAway 91 = .ok (.iload 4, 2) := by decide +kernel
theorem dX1_takeAway_93 : decode cX1_takeAway 93 = .ok (.invokevirtual 76, 3) := by decide +kernel
theorem dX1_takeAway_96 : decode cX1_takeAway 96 = .ok (.aload_n 0, 1) := by decide +kernel
theorem dX1_takeAway_97 : decode cX1_takeAway 97 = .ok (.getfield 9, 3) := by decide +kernel
theorem dX1_takeAway_100 : decode cX1_takeAway 100 = .ok (.iload 5, 2) := by decide +kernel
theorem dX1_takeAway_102 : decode cX1_takeAway 102 = .ok (.iaload, 1) := by decide +kernel
theorem dX1_takeAway_103 : decode cX1_takeAway 103 = .ok (.ifCond .ge 13, 3) := by decide +kernel
theorem dX1_takeAway_106 : decode cX1_takeAway 106 = .ok (.aload_n 0, 1) := by decide +kernel
theorem dX1_takeAway_107 : decode cX1_takeAway 107 = .ok (.aload_n 1, 1) := by decide +kernel
theorem dX1_takeAway_108 : decode cX1_takeAway 108 = .ok (.iload 4, 2) := by decide +kernel
theorem dX1_takeAway_110 : decode cX1_takeAway 110 = .ok (.invokevirtual 80, 3) := by decide +kernel
theorem dX1_takeAway_113 : decode cX1_takeAway 113 = .ok (.iinc 10 (-1), 3) := by decide +kernel
theorem dX1_takeAway_116 : decode cX1_takeAway 116 = .ok (.iload 10, 2) := by decide +kernel
theorem dX1_takeAway_118 : decode cX1_takeAway 118 = .ok (.ireturn, 1) := by decide +kernel
theorem dX1_subtractTimes_0 : decode cX1_subtractTimes 0 = .ok (.lconst 0, 1) := by decide +kernel
theorem dX1_subtractTimes_1 : decode cX1_subtractTimes 1 = .ok (.lstore 4, 2) := by decide +kernel
theorem dX1_subtractTimes_3 : decode cX1_subtractTimes 3 = .ok (.iconst 0, 1) := by decide +kernel
theorem dX1_subtractTimes_4 : decode cX1_subtractTimes 4 = .ok (.istore 6, 2) := by decide +kernel
theorem dX1_subtractTimes_6 : decode cX1_subtractTimes 6 = .ok (.iload 6, 2) := by decide +kernel
theorem dX1_subtractTimes_8 : decode cX1_subtractTimes 8 = .ok (.aload_n 1, 1) := by decide +kernel
theorem dX1_subtractTimes_9 : decode cX1_subtractTimes 9 = .ok (.getfield 15, 3) := by decide +kernel
theorem dX1_subtractTimes_12 : decode cX1_subtractTimes 12 = .ok (.if_icmp .ge 84, 3) := by decide +kernel
theorem dX1_subtractTimes_15 : decode cX1_subtractTimes 15 = .ok (.iload_n 2, 1) := by decide +kernel
theorem dX1_subtractTimes_16 : decode cX1_subtractTimes 16 = .ok (.i2l, 1) := by decide +kernel
theorem dX1_subtractTimes_17 : decode cX1_subtractTimes 17 = .ok (.aload_n 1, 1) := by decide +kernel
theorem dX1_subtractTimes_18 : decode cX1_subtractTimes 18 = .ok (.getfield 9, 3) := by decide +kernel
theorem dX1_subtractTimes_21 : decode cX1_subtractTimes 21 = .ok (.iload 6, 2) := by decide +kernel
theorem dX1_subtractTimes_23 : decode cX1_subtractTimes 23 = .ok (.iaload, 1) := by decide +kernel
theorem dX1_subtractTimes_24 : decode cX1_subtractTimes 24 = .ok (.i2l, 1) := by decide +kernel
theorem dX1_subtractTimes_25 : decode cX1_subtractTimes 25 = .ok (.lmul, 1) := by decide +kernel
theorem dX1_subtractTimes_26 : decode cX1_subtractTimes 26 = .ok (.lload 4, 2) := by decide +kernel
theorem dX1_subtractTimes_28 : decode cX1_subtractTimes 28 = .ok (.ladd, 1) := by decide +kernel
theorem dX1_subtractTimes_29 : decode cX1_subtractTimes 29 = .ok (.lstore 7, 2) := by decide +kernel
theorem dX1_subtractTimes_31 : decode cX1_subtractTimes 31 = .ok (.lload 7, 2) := by decide +kernel
theorem dX1_subtractTimes_33 : decode cX1_subtractTimes 33 = .ok (.ldc2_w 23, 3) := by decide +kernel
theorem dX1_subtractTimes_36 : decode cX1_subtractTimes 36 = .ok (.ldiv, 1) := by decide +kernel
theorem dX1_subtractTimes_37 : decode cX1_subtractTimes 37 = .ok (.lstore 4, 2) := by decide +kernel
theorem dX1_subtractTimes_39 : decode cX1_subtractTimes 39 = .ok (.aload_n 0, 1) := by decide +kernel
theorem dX1_subtractTimes_40 : decode cX1_subtractTimes 40 = .ok (.getfield 9, 3) := by decide +kernel
theorem dX1_subtractTimes_43 : decode cX1_subtractTimes 43 = .ok (.iload_n 3, 1) := by decide +kernel
theorem dX1_subtractTimes_44 : decode cX1_subtractTimes 44 = .ok (.iload 6, 2) := by decide +kernel
theorem dX1_subtractTimes_46 : decode cX1_subtractTimes 46 = .ok (.iadd, 1) := by decide +kernel
theorem dX1_subtractTimes_47 : decode cX1_subtractTimes 47 = .ok (.iaload, 1) := by decide +kernel
theorem dX1_subtractTimes_48 : decode cX1_subtractTimes 48 = .ok (.lload 7, 2) := by decide +kernel
theorem dX1_subtractTimes_50 : decode cX1_subtractTimes 50 = .ok (.lload 4, 2) := by decide +kernel
theorem dX1_subtractTimes_52 : decode cX1_subtractTimes 52 = .ok (.ldc2_w 23, 3) := by decide +kernel
theorem dX1_subtractTimes_55 : decode cX1_subtractTimes 55 = .ok (.lmul, 1) := by decide +kernel
theorem dX1_subtractTimes_56 : decode cX1_subtractTimes 56 = .ok (.lsub, 1) := by decide +kernel
theorem dX1_subtractTimes_57 : decode cX1_subtractTimes 57 = .ok (.l2i, 1) := by decide +kernel
theorem dX1_subtractTimes_58 : decode cX1_subtractTimes 58 = .ok (.isub, 1) := by decide +kernel
theorem dX1_subtractTimes_59 : decode cX1_subtractTimes 59 = .ok (.istore 9, 2) := by decide +kernel
theorem dX1_subtractTimes_61 : decode cX1_subtractTimes 61 = .ok (.iload 9, 2) := by decide +kernel
theorem dX1_subtractTimes_63 : decode cX1_subtractTimes 63 = .ok (.ifCond .ge 16, 3) := by decide +kernel
theorem dX1_subtractTimes_66 : decode cX1_subtractTimes 66 = .ok (.iload 9, 2) := by decide +kernel
theorem dX1_subtractTimes_68 : decode cX1_subtractTimes 68 = .ok (.ldc 60, 2) := by decide +kernel
theorem dX1_subtractTimes_70 : decode cX1_subtractTimes 70 = .ok (.iadd, 1) := by decide +kernel
theorem dX1_subtractTimes_71 : decode cX1_subtractTimes 71 = .ok (.istore 9, 2) := by decide +kernel
theorem dX1_subtractTimes_73 : decode cX1_subtractTimes 73 = .ok (.lload 4, 2) := by decide +kernel
theorem dX1_subtractTimes_75 : decode cX1_subtractTimes 75 = .ok (.lconst 1, 1) := by decide +kernel
theorem dX1_subtractTimes_76 : decode cX1_subtractTimes 76 = .ok (.ladd, 1) := by decide +kernel
theorem dX1_subtractTimes_77 : decode cX1_subtractTimes 77 = .ok (.lstore 4, 2) := by decide +kernel
theorem dX1_subtractTimes_79 : decode cX1_subtractTimes 79 = .ok (.aload_n 0, 1) := by decide +kernel
theorem dX1_subtractTimes_80 : decode cX1_subtractTimes 80 = .ok (.getfield 9, 3) := by decide +kernel
theorem dX1_subtractTimes_83 : decode cX1_subtractTimes 83 = .ok (.iload_n 3, 1) := by decide +kernel
theorem dX1_subtractTimes_84 : decode cX1_subtractTimes 84 = .ok (.iload 6, 2) := by decide +kernel
theorem dX1_subtractTimes_86 : decode cX1_subtractTimes 86 = .ok (.iadd, 1) := by decide +kernel
theorem dX1_subtractTimes_87 : decode cX1_subtractTimes 87 = .ok (.iload 9, 2) := by decide +kernel
theorem dX1_subtractTimes_89 : decode cX1_subtractTimes 89 = .ok (.iastore, 1) := by decide +kernel
theorem dX1_subtractTimes_90 : decode cX1_subtractTimes 90 = .ok (.iinc 6 1, 3) := by decide +kernel
theorem dX1_subtractTimes_93 : decode cX1_subtractTimes 93 = .ok (.goto (-87), 3) := by decide +kernel
theorem dX1_subtractTimes_96 : decode cX1_subtractTimes 96 = .ok (.aload_n 0, 1) := by decide +kernel
theorem dX1_subtractTimes_97 : decode cX1_subtractTimes 97 = .ok (.getfield 9, 3) := by decide +kernel
theorem dX1_subtractTimes_100 : decode cX1_subtractTimes 100 = .ok (.iload_n 3, 1) := by decide +kernel
theorem dX1_subtractTimes_101 : decode cX1_subtractTimes 101 = .ok (.aload_n 1, 1) := by decide +kernel
theorem dX1_subtractTimes_102 : decode cX1_subtractTimes 102 = .ok (.getfield 15, 3) := by decide +kernel
theorem dX1_subtractTimes_105 : decode cX1_subtractTimes 105 = .ok (.iadd, 1) := by decide +kernel
theorem dX1_subtractTimes_106 : decode cX1_subtractTimes 106 = .ok (.dup2, 1) := by decide +kernel
theorem dX1_subtractTimes_107 : decode cX1_subtractTimes 107 = .ok (.iaload, 1) := by decide +kernel
theorem dX1_subtractTimes_108 : decode cX1_subtractTimes 108 = .ok (.lload 4, 2) := by decide +kernel
theorem dX1_subtractTimes_110 : decode cX1_subtractTimes 110 = .ok (.l2i, 1) := by decide +kernel
theorem dX1_subtractTimes_111 : decode cX1_subtractTimes 111 = .ok (.isub, 1) := by decide +kernel
theorem dX1_subtractTimes_112 : decode cX1_subtractTimes 112 = .ok (.iastore, 1) := by decide +kernel
theorem dX1_subtractTimes_113 : decode cX1_subtractTimes 113 = .ok (.return_, 1) := by decide +kernel
theorem dX1_addBack_0 : decode cX1_addBack 0 = .ok (.iconst 0, 1) := by decide +kernel
theorem dX1_addBack_1 : decode cX1_addBack 1 = .ok (.istore_n 3, 1) := by decide +kernel
theorem dX1_addBack_2 : decode cX1_addBack 2 = .ok (.iconst 0, 1) := by decide +kernel
theorem dX1_addBack_3 : decode cX1_addBack 3 = .ok (.istore 4, 2) := by decide +kernel
theorem dX1_addBack_5 : decode cX1_addBack 5 = .ok (.iload 4, 2) := by decide +kernel
theorem dX1_addBack_7 : decode cX1_addBack 7 = .ok (.aload_n 1, 1) := by decide +kernel
theorem dX1_addBack_8 : decode cX1_addBack 8 = .ok (.getfield 15, 3) := by decide +kernel
theorem dX1_addBack_11 : decode cX1_addBack 11 = .ok (.if_icmp .ge 59, 3) := by decide +kernel
theorem dX1_addBack_14 : decode cX1_addBack 14 = .ok (.aload_n 0, 1) := by decide +kernel
theorem dX1_addBack_15 : decode cX1_addBack 15 = .ok (.getfield 9, 3) := by decide +kernel
theorem dX1_addBack_18 : decode cX1_addBack 18 = .ok (.iload_n 2, 1) := by decide +kernel
theorem dX1_addBack_19 : decode cX1_addBack 19 = .ok (.iload 4, 2) := by decide +kernel
theorem dX1_addBack_21 : decode cX1_addBack 21 = .ok (.iadd, 1) := by decide +kernel
theorem dX1_addBack_22 : decode cX1_addBack 22 = .ok (.iaload, 1) := by decide +kernel
theorem dX1_addBack_23 : decode cX1_addBack 23 = .ok (.aload_n 1, 1) := by decide +kernel
theorem dX1_addBack_24 : decode cX1_addBack 24 = .ok (.getfield 9, 3) := by decide +kernel
theorem dX1_addBack_27 : decode cX1_addBack 27 = .ok (.iload 4, 2) := by decide +kernel
theorem dX1_addBack_29 : decode cX1_addBack 29 = .ok (.iaload, 1) := by decide +kernel
theorem dX1_addBack_30 : decode cX1_addBack 30 = .ok (.iadd, 1) := by decide +kernel
theorem dX1_addBack_31 : decode cX1_addBack 31 = .ok (.iload_n 3, 1) := by decide +kernel
theorem dX1_addBack_32 : decode cX1_addBack 32 = .ok (.iadd, 1) := by decide +kernel
theorem dX1_addBack_33 : decode cX1_addBack 33 = .ok (.istore 5, 2) := by decide +kernel
theorem dX1_addBack_35 : decode cX1_addBack 35 = .ok (.iload 5, 2) := by decide +kernel
theorem dX1_addBack_37 : decode cX1_addBack 37 = .ok (.ldc 60, 2) := by decide +kernel
theorem dX1_addBack_39 : decode cX1_addBack 39 = .ok (.if_icmp .lt 7, 3) := by decide +kernel
theorem dX1_addBack_42 : decode cX1_addBack 42 = .ok (.iconst 1, 1) := by decide +kernel
theorem dX1_addBack_43 : decode cX1_addBack 43 = .ok (.goto 4, 3) := by decide +kernel
theorem dX1_addBack_46 : decode cX1_addBack 46 = .ok (.iconst 0, 1) := by decide +kernel
theorem dX1_addBack_47 : decode cX1_addBack 47 = .ok (.istore_n 3, 1) := by decide +kernel
theorem dX1_addBack_48 : decode cX1_addBack 48 = .ok (.aload_n 0, 1) := by decide +kernel
theorem dX1_addBack_49 : decode cX1_addBack 49 = .ok (.getfield 9, 3) := by decide +kernel
theorem dX1_addBack_52 : decode cX1_addBack 52 = .ok (.iload_n 2, 1) := by decide +kernel
theorem dX1_addBack_53 : decode cX1_addBack 53 = .ok (.iload 4, 2) := by decide +kernel
theorem dX1_addBack_55 : decode cX1_addBack 55 = .ok (.iadd, 1) := by decide +kernel
theorem dX1_addBack_56 : decode cX1_addBack 56 = .ok (.iload 5, 2) := by decide +kernel
theorem dX1_addBack_58 : decode cX1_addBack 58 = .ok (.iload_n 3, 1) := by decide +kernel
theorem dX1_addBack_59 : decode cX1_addBack 59 = .ok (.ldc 60, 2) := by decide +kernel
theorem dX1_addBack_61 : decode cX1_addBack 61 = .ok (.imul, 1) := by decide +kernel
theorem dX1_addBack_62 : decode cX1_addBack 62 = .ok (.isub, 1) := by decide +kernel
theorem dX1_addBack_63 : decode cX1_addBack 63 = .ok (.iastore, 1) := by decide +kernel
theorem dX1_addBack_64 : decode cX1_addBack 64 = .ok (.iinc 4 1, 3) := by decide +kernel
theorem dX1_addBack_67 : decode cX1_addBack 67 = .ok (.goto (-62), 3) := by decide +kernel
theorem dX1_addBack_70 : decode cX1_addBack 70 = .ok (.aload_n 0, 1) := by decide +kernel
theorem dX1_addBack_71 : decode cX1_addBack 71 = .ok (.getfield 9, 3) := by decide +kernel
theorem dX1_addBack_74 : decode cX1_addBack 74 = .ok (.iload_n 2, 1) := by decide +kernel
theorem dX1_addBack_75 : decode cX1_addBack 75 = .ok (.aload_n 1, 1) := by decide +kernel
theorem dX1_addBack_76 : decode cX1_addBack 76 = .ok (.getfield 15, 3) := by decide +kernel
theorem dX1_addBack_79 : decode cX1_addBack 79 = .ok (.iadd, 1) := by decide +kernel
theorem dX1_addBack_80 : decode cX1_addBack 80 = .ok (.dup2, 1) := by decide +kernel
theorem dX1_addBack_81 : decode cX1_addBack 81 = .ok (.iaload, 1) := by decide +kernel
theorem dX1_addBack_82 : decode cX1_addBack 82 = .ok (.iload_n 3, 1) := by decide +kernel
theorem dX1_addBack_83 : decode cX1_addBack 83 = .ok (.iadd, 1) := by decide +kernel
theorem dX1_addBack_84 : decode cX1_addBack 84 = .ok (.iastore, 1) := by decide +kernel
theorem dX1_addBack_85 : decode cX1_addBack 85 = .ok (.return_, 1) := by decide +kernel
theorem dX1_loadAboveRoot_0 : decode cX1_loadAboveRoot 0 = .ok (.aload_n 1, 1) := by decide +kernel
theorem dX1_loadAboveRoot_1 : decode cX1_loadAboveRoot 1 = .ok (.getfield 15, 3) := by decide +kernel
theorem dX1_loadAboveRoot_4 : decode cX1_loadAboveRoot 4 = .ok (.iconst 2, 1) := by decide +kernel
theorem dX1_loadAboveRoot_5 : decode cX1_loadAboveRoot 5 = .ok (.if_icmp .ge 7, 3) := by decide +kernel
theorem dX1_loadAboveRoot_8 : decode cX1_loadAboveRoot 8 = .ok (.iconst 0, 1) := by decide +kernel
theorem dX1_loadAboveRoot_9 : decode cX1_loadAboveRoot 9 = .ok (.goto 13, 3) := by decide +kernel
theorem dX1_loadAboveRoot_12 : decode cX1_loadAboveRoot 12 = .ok (.aload_n 1, 1) := by decide +kernel
theorem dX1_loadAboveRoot_13 : decode cX1_loadAboveRoot 13 = .ok (.getfield 15, 3) := by decide +kernel
theorem dX1_loadAboveRoot_16 : decode cX1_loadAboveRoot 16 = .ok (.iconst 2, 1) := by decide +kernel
theorem dX1_loadAboveRoot_17 : decode cX1_loadAboveRoot 17 = .ok (.isub, 1) := by decide +kernel
theorem dX1_loadAboveRoot_18 : decode cX1_loadAboveRoot 18 = .ok (.iconst 2, 1) := by decide +kernel
theorem dX1_loadAboveRoot_19 : decode cX1_loadAboveRoot 19 = .ok (.idiv, 1) := by decide +kernel
theorem dX1_loadAboveRoot_20 : decode cX1_loadAboveRoot 20 = .ok (.iconst 2, 1) := by decide +kernel
theorem dX1_loadAboveRoot_21 : decode cX1_loadAboveRoot 21 = .ok (.imul, 1) := by decide +kernel
theorem dX1_loadAboveRoot_22 : decode cX1_loadAboveRoot 22 = .ok (.istore_n 2, 1) := by decide +kernel
theorem dX1_loadAboveRoot_23 : decode cX1_loadAboveRoot 23 = .ok (.lconst 0, 1) := by decide +kernel
theorem dX1_loadAboveRoot_24 : decode cX1_loadAboveRoot 24 = .ok (.lstore_n 3, 1) := by decide +kernel
theorem dX1_loadAboveRoot_25 : decode cX1_loadAboveRoot 25 = .ok (.aload_n 1, 1) := by decide +kernel
theorem dX1_loadAboveRoot_26 : decode cX1_loadAboveRoot 26 = .ok (.getfield 15, 3) := by decide +kernel
theorem dX1_loadAboveRoot_29 : decode cX1_loadAboveRoot 29 = .ok (.iconst 1, 1) := by decide +kernel
theorem dX1_loadAboveRoot_30 : decode cX1_loadAboveRoot 30 = .ok (.isub, 1) := by decide +kernel
theorem dX1_loadAboveRoot_31 : decode cX1_loadAboveRoot 31 = .ok (.istore 5, 2) := by decide +kernel
theorem dX1_loadAboveRoot_33 : decode cX1_loadAboveRoot 33 = .ok (.iload 5, 2) := by decide +kernel
theorem dX1_loadAboveRoot_35 : decode cX1_loadAboveRoot 35 = .ok (.iload_n 2, 1) := by decide +kernel
theorem dX1_loadAboveRoot_36 : decode cX1_loadAboveRoot 36 = .ok (.if_icmp .lt 24, 3) := by decide +kernel
theorem dX1_loadAboveRoot_39 : decode cX1_loadAboveRoot 39 = .ok (.lload_n 3, 1) := by decide +kernel
theorem dX1_loadAboveRoot_40 : decode cX1_loadAboveRoot 40 = .ok (.ldc2_w 23, 3) := by decide +kernel
theorem dX1_loadAboveRoot_43 : decode cX1_loadAboveRoot 43 = .ok (.lmul, 1) := by decide +kernel
theorem dX1_loadAboveRoot_44 : decode cX1_loadAboveRoot 44 = .ok (.aload_n 1, 1) := by decide +kernel
theorem dX1_loadAboveRoot_45 : decode cX1_loadAboveRoot 45 = .ok (.getfield 9, 3) := by decide +kernel
theorem dX1_loadAboveRoot_48 : decode cX1_loadAboveRoot 48 = .ok (.iload 5, 2) := by decide +kernel
theorem dX1_loadAboveRoot_50 : decode cX1_loadAboveRoot 50 = .ok (.iaload, 1) := by decide +kernel
theorem dX1_loadAboveRoot_51 : decode cX1_loadAboveRoot 51 = .ok (.i2l, 1) := by decide +kernel
theorem dX1_loadAboveRoot_52 : decode cX1_loadAboveRoot 52 = .ok (.ladd, 1) := by decide +kernel
theorem dX1_loadAboveRoot_53 : decode cX1_loadAboveRoot 53 = .ok (.lstore_n 3, 1) := by decide +kernel
theorem dX1_loadAboveRoot_54 : decode cX1_loadAboveRoot 54 = .ok (.iinc 5 (-1), 3) := by decide +kernel
theorem dX1_loadAboveRoot_57 : decode cX1_loadAboveRoot 57 = .ok (.goto (-24), 3) := by decide +kernel
theorem dX1_loadAboveRoot_60 : decode cX1_loadAboveRoot 60 = .ok (.lload_n 3, 1) := by decide +kernel
theorem dX1_loadAboveRoot_61 : decode cX1_loadAboveRoot 61 = .ok (.invokestatic 84, 3) := by decide +kernel
theorem dX1_loadAboveRoot_64 : decode cX1_loadAboveRoot 64 = .ok (.lconst 1, 1) := by decide +kernel
theorem dX1_loadAboveRoot_65 : decode cX1_loadAboveRoot 65 = .ok (.ladd, 1) := by decide +kernel
theorem dX1_loadAboveRoot_66 : decode cX1_loadAboveRoot 66 = .ok (.lstore 5, 2) := by decide +kernel
theorem dX1_loadAboveRoot_68 : decode cX1_loadAboveRoot 68 = .ok (.iload_n 2, 1) := by decide +kernel
theorem dX1_loadAboveRoot_69 : decode cX1_loadAboveRoot 69 = .ok (.iconst 2, 1) := by decide +kernel
theorem dX1_loadAboveRoot_70 : decode cX1_loadAboveRoot 70 = .ok (.idiv, 1) := by decide +kernel
theorem dX1_loadAboveRoot_71 : decode cX1_loadAboveRoot 71 = .ok (.istore 7, 2) := by decide +kernel
theorem dX1_loadAboveRoot_73 : decode cX1_loadAboveRoot 73 = .ok (.aload_n 0, 1) := by decide +kernel
theorem dX1_loadAboveRoot_74 : decode cX1_loadAboveRoot 74 = .ok (.getfield 9, 3) := by decide +kernel
theorem dX1_loadAboveRoot_77 : decode cX1_loadAboveRoot 77 = .ok (.iconst 0, 1) := by decide +kernel
theorem dX1_loadAboveRoot_78 : decode cX1_loadAboveRoot 78 = .ok (.iload 7, 2) := by decide +kernel
theorem dX1_loadAboveRoot_80 : decode cX1_loadAboveRoot 80 = .ok (.iconst 0, 1) := by decide +kernel
theorem dX1_loadAboveRoot_81 : decode cX1_loadAboveRoot 81 = .ok (.invokestatic 87, 3) := by decide +kernel
theorem dX1_loadAboveRoot_84 : decode cX1_loadAboveRoot 84 = .ok (.aload_n 0, 1) := by decide +kernel
theorem dX1_loadAboveRoot_85 : decode cX1_loadAboveRoot 85 = .ok (.getfield 9, 3) := by decide +kernel
theorem dX1_loadAboveRoot_88 : decode cX1_loadAboveRoot 88 = .ok (.iload 7, 2) := by decide +kernel
theorem dX1_loadAboveRoot_90 : decode cX1_loadAboveRoot 90 = .ok (.lload 5, 2) := by decide +kernel
theorem dX1_loadAboveRoot_92 : decode cX1_loadAboveRoot 92 = .ok (.ldc2_w 23, 3) := by decide +kernel
theorem dX1_loadAboveRoot_95 : decode cX1_loadAboveRoot 95 = .ok (.lrem, 1) := by decide +kernel
theorem dX1_loadAboveRoot_96 : decode cX1_loadAboveRoot 96 = .ok (.l2i, 1) := by decide +kernel
theorem dX1_loadAboveRoot_97 : decode cX1_loadAboveRoot 97 = .ok (.iastore, 1) := by decide +kernel
theorem dX1_loadAboveRoot_98 : decode cX1_loadAboveRoot 98 = .ok (.aload_n 0, 1) := by decide +kernel
theorem dX1_loadAboveRoot_99 : decode cX1_loadAboveRoot 99 = .ok (.getfield 9, 3) := by decide +kernel
theorem dX1_loadAboveRoot_102 : decode cX1_loadAboveRoot 102 = .ok (.iload 7, 2) := by decide +kernel
theorem dX1_loadAboveRoot_104 : decode cX1_loadAboveRoot 104 = .ok (.iconst 1, 1) := by decide +kernel
theorem dX1_loadAboveRoot_105 : decode cX1_loadAboveRoot 105 = .ok (.iadd, 1) := by decide +kernel
theorem dX1_loadAboveRoot_106 : decode cX1_loadAboveRoot 106 = .ok (.lload 5, 2) := by decide +kernel
theorem dX1_loadAboveRoot_108 : decode cX1_loadAboveRoot 108 = .ok (.ldc2_w 23, 3) := by decide +kernel
theorem dX1_loadAboveRoot_111 : decode cX1_loadAboveRoot 111 = .ok (.ldiv, 1) := by decide +kernel
theorem dX1_loadAboveRoot_112 : decode cX1_loadAboveRoot 112 = .ok (.l2i, 1) := by decide +kernel
theorem dX1_loadAboveRoot_113 : decode cX1_loadAboveRoot 113 = .ok (.iastore, 1) := by decide +kernel
theorem dX1_loadAboveRoot_114 : decode cX1_loadAboveRoot 114 = .ok (.aload_n 0, 1) := by decide +kernel
theorem dX1_loadAboveRoot_115 : decode cX1_loadAboveRoot 115 = .ok (.iconst 0, 1) := by decide +kernel
theorem dX1_loadAboveRoot_116 : decode cX1_loadAboveRoot 116 = .ok (.putfield 19, 3) := by decide +kernel
theorem dX1_loadAboveRoot_119 : decode cX1_loadAboveRoot 119 = .ok (.aload_n 0, 1) := by decide +kernel
theorem dX1_loadAboveRoot_120 : decode cX1_loadAboveRoot 120 = .ok (.iload 7, 2) := by decide +kernel
theorem dX1_loadAboveRoot_122 : decode cX1_loadAboveRoot 122 = .ok (.iconst 2, 1) := by decide +kernel
theorem dX1_loadAboveRoot_123 : decode cX1_loadAboveRoot 123 = .ok (.iadd, 1) := by decide +kernel
theorem dX1_loadAboveRoot_124 : decode cX1_loadAboveRoot 124 = .ok (.invokevirtual 31, 3) := by decide +kernel
theorem dX1_loadAboveRoot_127 : decode cX1_loadAboveRoot 127 = .ok (.return_, 1) := by decide +kernel
theorem dX1_rootOfLong_0 : decode cX1_rootOfLong 0 = .ok (.lconst 0, 1) := by decide +kernel
theorem dX1_rootOfLong_1 : decode cX1_rootOfLong 1 = .ok (.lstore_n 2, 1) := by decide +kernel
theorem dX1_rootOfLong_2 : decode cX1_rootOfLong 2 = .ok (.ldc2_w 93, 3) := by decide +kernel
theorem dX1_rootOfLong_5 : decode cX1_rootOfLong 5 = .ok (.lstore 4, 2) := by decide +kernel
theorem dX1_rootOfLong_7 : decode cX1_rootOfLong 7 = .ok (.lload 4, 2) := by decide +kernel
theorem dX1_rootOfLong_9 : decode cX1_rootOfLong 9 = .ok (.lconst 0, 1) := by decide +kernel
theorem dX1_rootOfLong_10 : decode cX1_rootOfLong 10 = .ok (.lcmp, 1) := by decide +kernel
theorem dX1_rootOfLong_11 : decode cX1_rootOfLong 11 = .ok (.ifCond .le 31, 3) := by decide +kernel
theorem dX1_rootOfLong_14 : decode cX1_rootOfLong 14 = .ok (.lload_n 2, 1) := by decide +kernel
theorem dX1_rootOfLong_15 : decode cX1_rootOfLong 15 = .ok (.lload 4, 2) := by decide +kernel
theorem dX1_rootOfLong_17 : decode cX1_rootOfLong 17 = .ok (.ladd, 1) := by decide +kernel
theorem dX1_rootOfLong_18 : decode cX1_rootOfLong 18 = .ok (.lstore 6, 2) := by decide +kernel
theorem dX1_rootOfLong_20 : decode cX1_rootOfLong 20 = .ok (.lload 6, 2) := by decide +kernel
theorem dX1_rootOfLong_22 : decode cX1_rootOfLong 22 = .ok (.lload 6, 2) := by decide +kernel
theorem dX1_rootOfLong_24 : decode cX1_rootOfLong 24 = .ok (.lmul, 1) := by decide +kernel
theorem dX1_rootOfLong_25 : decode cX1_rootOfLong 25 = .ok (.lload_n 0, 1) := by decide +kernel
theorem dX1_rootOfLong_26 : decode cX1_rootOfLong 26 = .ok (.lcmp, 1) := by decide +kernel
theorem dX1_rootOfLong_27 : decode cX1_rootOfLong 27 = .ok (.ifCond .gt 6, 3) := by decide +kernel
theorem dX1_rootOfLong_30 : decode cX1_rootOfLong 30 = .ok (.lload 6, 2) := by decide +kernel
theorem dX1_rootOfLong_32 : decode cX1_rootOfLong 32 = .ok (.lstore_n 2, 1) := by decide +kernel
theorem dX1_rootOfLong_33 : decode cX1_rootOfLong 33 = .ok (.lload 4, 2) := by decide +kernel
theorem dX1_rootOfLong_35 : decode cX1_rootOfLong 35 = .ok (.iconst 1, 1) := by decide +kernel
theorem dX1_rootOfLong_36 : decode cX1_rootOfLong 36 = .ok (.lshr, 1) := by decide +kernel
theorem dX1_rootOfLong_37 : decode cX1_rootOfLong 37 = .ok (.lstore 4, 2) := by decide +kernel
theorem dX1_rootOfLong_39 : decode cX1_rootOfLong 39 = .ok (.goto (-32), 3) := by decide +kernel
theorem dX1_rootOfLong_42 : decode cX1_rootOfLong 42 = .ok (.lload_n 2, 1) := by decide +kernel
theorem dX1_rootOfLong_43 : decode cX1_rootOfLong 43 = .ok (.lreturn, 1) := by decide +kernel
theorem dX1_countDigits_0 : decode cX1_countDigits 0 = .ok (.aload_n 0, 1) := by decide +kernel
theorem dX1_countDigits_1 : decode cX1_countDigits 1 = .ok (.getfield 15, 3) := by decide +kernel
theorem dX1_countDigits_4 : decode cX1_countDigits 4 = .ok (.ifCond .ne 5, 3) := by decide +kernel
theorem dX1_countDigits_7 : decode cX1_countDigits 7 = .ok (.iconst 1, 1) := by decide +kernel
theorem dX1_countDigits_8 : decode cX1_countDigits 8 = .ok (.ireturn, 1) := by decide +kernel
theorem dX1_countDigits_9 : decode cX1_countDigits 9 = .ok (.aload_n 0, 1) := by decide +kernel
theorem dX1_countDigits_10 : decode cX1_countDigits 10 = .ok (.getfield 9, 3) := by decide +kernel
theorem dX1_countDigits_13 : decode cX1_countDigits 13 = .ok (.aload_n 0, 1) := by decide +kernel
theorem dX1_countDigits_14 : decode cX1_countDigits 14 = .ok (.getfield 15, 3) := by decide +kernel
theorem dX1_countDigits_17 : decode cX1_countDigits 17 = .ok (.iconst 1, 1) := by decide +kernel
theorem dX1_countDigits_18 : decode cX1_countDigits 18 = .ok (.isub, 1) := by decide +kernel
theorem dX1_countDigits_19 : decode cX1_countDigits 19 = .ok (.iaload, 1) := by decide +kernel
theorem dX1_countDigits_20 : decode cX1_countDigits 20 = .ok (.istore_n 1, 1) := by decide +kernel
theorem dX1_countDigits_21 : decode cX1_countDigits 21 = .ok (.iconst 1, 1) := by decide +kernel
theorem dX1_countDigits_22 : decode cX1_countDigits 22 = .ok (.istore_n 2, 1) := by decide +kernel
theorem dX1_countDigits_23 : decode cX1_countDigits 23 = .ok (.iload_n 2, 1) := by decide +kernel
theorem dX1_countDigits_24 : decode cX1_countDigits 24 = .ok (.bipush 6, 2) := by decide +kernel
theorem dX1_countDigits_26 : decode cX1_countDigits 26 = .ok (.if_icmp .ge 18, 3) := by decide +kernel
theorem dX1_countDigits_29 : decode cX1_countDigits 29 = .ok (.iload_n 1, 1) := by decide +kernel
theorem dX1_countDigits_30 : decode cX1_countDigits 30 = .ok (.getstatic 95, 3) := by decide +kernel
theorem dX1_countDigits_33 : decode cX1_countDigits 33 = .ok (.iload_n 2, 1) := by decide +kernel
theorem dX1_countDigits_34 : decode cX1_countDigits 34 = .ok (.iaload, 1) := by decide +kernel
theorem dX1_countDigits_35 : decode cX1_countDigits 35 = .ok (.if_icmp .lt 9, 3) := by decide +kernel
theorem dX1_countDigits_38 : decode cX1_countDigits 38 = .ok (.iinc 2 1, 3) := by decide +kernel
theorem dX1_countDigits_41 : decode cX1_countDigits 41 = .ok (.goto (-18), 3) := by decide +kernel
theorem dX1_countDigits_44 : decode cX1_countDigits 44 = .ok (.aload_n 0, 1) := by decide +kernel
theorem dX1_countDigits_45 : decode cX1_countDigits 45 = .ok (.getfield 15, 3) := by decide +kernel
theorem dX1_countDigits_48 : decode cX1_countDigits 48 = .ok (.iconst 1, 1) := by decide +kernel
theorem dX1_countDigits_49 : decode cX1_countDigits 49 = .ok (.isub, 1) := by decide +kernel
theorem dX1_countDigits_50 : decode cX1_countDigits 50 = .ok (.bipush 6, 2) := by decide +kernel
theorem dX1_countDigits_52 : decode cX1_countDigits 52 = .ok (.imul, 1) := by decide +kernel
theorem dX1_countDigits_53 : decode cX1_countDigits 53 = .ok (.iload_n 2, 1) := by decide +kernel
theorem dX1_countDigits_54 : decode cX1_countDigits 54 = .ok (.iadd, 1) := by decide +kernel
theorem dX1_countDigits_55 : decode cX1_countDigits 55 = .ok (.ireturn, 1) := by decide +kernel
theorem dX1_digitOfPlace_0 : decode cX1_digitOfPlace 0 = .ok (.aload_n 0, 1) := by decide +kernel
theorem dX1_digitOfPlace_1 : decode cX1_digitOfPlace 1 = .ok (.iload_n 1, 1) := by decide +kernel
theorem dX1_digitOfPlace_2 : decode cX1_digitOfPlace 2 = .ok (.bipush 6, 2) := by decide +kernel
theorem dX1_digitOfPlace_4 : decode cX1_digitOfPlace 4 = .ok (.idiv, 1) := by decide +kernel
theorem dX1_digitOfPlace_5 : decode cX1_digitOfPlace 5 = .ok (.invokevirtual 56, 3) := by decide +kernel
theorem dX1_digitOfPlace_8 : decode cX1_digitOfPlace 8 = .ok (.getstatic 95, 3) := by decide +kernel
theorem dX1_digitOfPlace_11 : decode cX1_digitOfPlace 11 = .ok (.iload_n 1, 1) := by decide +kernel
theorem dX1_digitOfPlace_12 : decode cX1_digitOfPlace 12 = .ok (.bipush 6, 2) := by decide +kernel
theorem dX1_digitOfPlace_14 : decode cX1_digitOfPlace 14 = .ok (.irem, 1) := by decide +kernel
theorem dX1_digitOfPlace_15 : decode cX1_digitOfPlace 15 = .ok (.iaload, 1) := by decide +kernel
theorem dX1_digitOfPlace_16 : decode cX1_digitOfPlace 16 = .ok (.idiv, 1) := by decide +kernel
theorem dX1_digitOfPlace_17 : decode cX1_digitOfPlace 17 = .ok (.bipush 10, 2) := by decide +kernel
theorem dX1_digitOfPlace_19 : decode cX1_digitOfPlace 19 = .ok (.irem, 1) := by decide +kernel
theorem dX1_digitOfPlace_20 : decode cX1_digitOfPlace 20 = .ok (.ireturn, 1) := by decide +kernel
theorem dX1_remainder_0 : decode cX1_remainder 0 = .ok (.lconst 0, 1) := by decide +kernel
theorem dX1_remainder_1 : decode cX1_remainder 1 = .ok (.lstore_n 3, 1) := by decide +kernel
theorem dX1_remainder_2 : decode cX1_remainder 2 = .ok (.aload_n 0, 1) := by decide +kernel
theorem dX1_remainder_3 : decode cX1_remainder 3 = .ok (.getfield 15, 3) := by decide +kernel
theorem dX1_remainder_6 : decode cX1_remainder 6 = .ok (.iconst 1, 1) := by decide +kernel
theorem dX1_remainder_7 : decode cX1_remainder 7 = .ok (.isub, 1) := by decide +kernel
theorem dX1_remainder_8 : decode cX1_remainder 8 = .ok (.istore 5, 2) := by decide +kernel
theorem dX1_remainder_10 : decode cX1_remainder 10 = .ok (.iload 5, 2) := by decide +kernel
theorem dX1_remainder_12 : decode cX1_remainder 12 = .ok (.ifCond .lt 63, 3) := by decide +kernel
theorem dX1_remainder_15 : decode cX1_remainder 15 = .ok (.getstatic 98, 3) := by decide +kernel
theorem dX1_remainder_18 : decode cX1_remainder 18 = .ok (.astore 6, 2) := by decide +kernel
theorem dX1_remainder_20 : decode cX1_remainder 20 = .ok (.aload 6, 2) := by decide +kernel
theorem dX1_remainder_22 : decode cX1_remainder 22 = .ok (.arraylength, 1) := by decide +kernel
theorem dX1_remainder_23 : decode cX1_remainder 23 = .ok (.istore 7, 2) := by decide +kernel
theorem dX1_remainder_25 : decode cX1_remainder 25 = .ok (.iconst 0, 1) := by decide +kernel
theorem dX1_remainder_26 : decode cX1_remainder 26 = .ok (.istore 8, 2) := by decide +kernel
theorem dX1_remainder_28 : decode cX1_remainder 28 = .ok (.iload 8, 2) := by decide +kernel
theorem dX1_remainder_30 : decode cX1_remainder 30 = .ok (.iload 7, 2) := by decide +kernel
theorem dX1_remainder_32 : decode cX1_remainder 32 = .ok (.if_icmp .ge 24, 3) := by decide +kernel
theorem dX1_remainder_35 : decode cX1_remainder 35 = .ok (.aload 6, 2) := by decide +kernel
theorem dX1_remainder_37 : decode cX1_remainder 37 = .ok (.iload 8, 2) := by decide +kernel
theorem dX1_remainder_39 : decode cX1_remainder 39 = .ok (.iaload, 1) := by decide +kernel
theorem dX1_remainder_40 : decode cX1_remainder 40 = .ok (.istore 9, 2) := by decide +kernel
theorem dX1_remainder_42 : decode cX1_remainder 42 = .ok (.lload_n 3, 1) := by decide +kernel
theorem dX1_remainder_43 : decode cX1_remainder 43 = .ok (.iload 9, 2) := by decide +kernel
theorem dX1_remainder_45 : decode cX1_remainder 45 = .ok (.i2l, 1) := by decide +kernel
theorem dX1_remainder_46 : decode cX1_remainder 46 = .ok (.lmul, 1) := by decide +kernel
theorem dX1_remainder_47 : decode cX1_remainder 47 = .ok (.lload_n 1, 1) := by decide +kernel
theorem dX1_remainder_48 : decode cX1_remainder 48 = .ok (.lrem, 1) := by decide +kernel
theorem dX1_remainder_49 : decode cX1_remainder 49 = .ok (.lstore_n 3, 1) := by decide +kernel
theorem dX1_remainder_50 : decode cX1_remainder 50 = .ok (.iinc 8 1, 3) := by decide +kernel
theorem dX1_remainder_53 : decode cX1_remainder 53 = .ok (.goto (-25), 3) := by decide +kernel
theorem dX1_remainder_56 : decode cX1_remainder 56 = .ok (.lload_n 3, 1) := by decide +kernel
theorem dX1_remainder_57 : decode cX1_remainder 57 = .ok (.aload_n 0, 1) := by decide +kernel
theorem dX1_remainder_58 : decode cX1_remainder 58 = .ok (.getfield 9, 3) := by decide +kernel
theorem dX1_remainder_61 : decode cX1_remainder 61 = .ok (.iload 5, 2) := by decide +kernel
theorem dX1_remainder_63 : decode cX1_remainder 63 = .ok (.iaload, 1) := by decide +kernel
theorem dX1_remainder_64 : decode cX1_remainder 64 = .ok (.i2l, 1) := by decide +kernel
theorem dX1_remainder_65 : decode cX1_remainder 65 = .ok (.ladd, 1) := by decide +kernel
theorem dX1_remainder_66 : decode cX1_remainder 66 = .ok (.lload_n 1, 1) := by decide +kernel
theorem dX1_remainder_67 : decode cX1_remainder 67 = .ok (.lrem, 1) := by decide +kernel
theorem dX1_remainder_68 : decode cX1_remainder 68 = .ok (.lstore_n 3, 1) := by decide +kernel
theorem dX1_remainder_69 : decode cX1_remainder 69 = .ok (.iinc 5 (-1), 3) := by decide +kernel
theorem dX1_remainder_72 : decode cX1_remainder 72 = .ok (.goto (-62), 3) := by decide +kernel
theorem dX1_remainder_75 : decode cX1_remainder 75 = .ok (.aload_n 0, 1) := by decide +kernel
theorem dX1_remainder_76 : decode cX1_remainder 76 = .ok (.getfield 19, 3) := by decide +kernel
theorem dX1_remainder_79 : decode cX1_remainder 79 = .ok (.ifCond .eq 15, 3) := by decide +kernel
theorem dX1_remainder_82 : decode cX1_remainder 82 = .ok (.lload_n 3, 1) := by decide +kernel
theorem dX1_remainder_83 : decode cX1_remainder 83 = .ok (.lconst 0, 1) := by decide +kernel
theorem dX1_remainder_84 : decode cX1_remainder 84 = .ok (.lcmp, 1) := by decide +kernel
theorem dX1_remainder_85 : decode cX1_remainder 85 = .ok (.ifCond .eq 9, 3) := by decide +kernel
theorem dX1_remainder_88 : decode cX1_remainder 88 = .ok (.lload_n 1, 1) := by decide +kernel
theorem dX1_remainder_89 : decode cX1_remainder 89 = .ok (.lload_n 3, 1) := by decide +kernel
theorem dX1_remainder_90 : decode cX1_remainder 90 = .ok (.lsub, 1) := by decide +kernel
theorem dX1_remainder_91 : decode cX1_remainder 91 = .ok (.goto 4, 3) := by decide +kernel
theorem dX1_remainder_94 : decode cX1_remainder 94 = .ok (.lload_n 3, 1) := by decide +kernel
theorem dX1_remainder_95 : decode cX1_remainder 95 = .ok (.lreturn, 1) := by decide +kernel
theorem dX1_lowBits_0 : decode cX1_lowBits 0 = .ok (.lconst 0, 1) := by decide +kernel
theorem dX1_lowBits_1 : decode cX1_lowBits 1 = .ok (.lstore_n 1, 1) := by decide +kernel
theorem dX1_lowBits_2 : decode cX1_lowBits 2 = .ok (.aload_n 0, 1) := by decide +kernel
theorem dX1_lowBits_3 : decode cX1_lowBits 3 = .ok (.getfield 15, 3) := by decide +kernel
theorem dX1_lowBits_6 : decode cX1_lowBits 6 = .ok (.iconst 1, 1) := by decide +kernel
theorem dX1_lowBits_7 : decode cX1_lowBits 7 = .ok (.isub, 1) := by decide +kernel
theorem dX1_lowBits_8 : decode cX1_lowBits 8 = .ok (.istore_n 3, 1) := by decide +kernel
theorem dX1_lowBits_9 : decode cX1_lowBits 9 = .ok (.iload_n 3, 1) := by decide +kernel
theorem dX1_lowBits_10 : decode cX1_lowBits 10 = .ok (.ifCond .lt 23, 3) := by decide +kernel
theorem dX1_lowBits_13 : decode cX1_lowBits 13 = .ok (.lload_n 1, 1) := by decide +kernel
theorem dX1_lowBits_14 : decode cX1_lowBits 14 = .ok (.ldc2_w 23, 3) := by decide +kernel
theorem dX1_lowBits_17 : decode cX1_lowBits 17 = .ok (.lmul, 1) := by decide +kernel
theorem dX1_lowBits_18 : decode cX1_lowBits 18 = .ok (.aload_n 0, 1) := by decide +kernel
theorem dX1_lowBits_19 : decode cX1_lowBits 19 = .ok (.getfield 9, 3) := by decide +kernel
theorem dX1_lowBits_22 : decode cX1_lowBits 22 = .ok (.iload_n 3, 1) := by decide +kernel
theorem dX1_lowBits_23 : decode cX1_lowBits 23 = .ok (.iaload, 1) := by decide +kernel
theorem dX1_lowBits_24 : decode cX1_lowBits 24 = .ok (.i2l, 1) := by decide +kernel
theorem dX1_lowBits_25 : decode cX1_lowBits 25 = .ok (.ladd, 1) := by decide +kernel
theorem dX1_lowBits_26 : decode cX1_lowBits 26 = .ok (.lstore_n 1, 1) := by decide +kernel
theorem dX1_lowBits_27 : decode cX1_lowBits 27 = .ok (.iinc 3 (-1), 3) := by decide +kernel
theorem dX1_lowBits_30 : decode cX1_lowBits 30 = .ok (.goto (-21), 3) := by decide +kernel
theorem dX1_lowBits_33 : decode cX1_lowBits 33 = .ok (.aload_n 0, 1) := by decide +kernel
theorem dX1_lowBits_34 : decode cX1_lowBits 34 = .ok (.getfield 19, 3) := by decide +kernel
theorem dX1_lowBits_37 : decode cX1_lowBits 37 = .ok (.ifCond .eq 8, 3) := by decide +kernel
theorem dX1_lowBits_40 : decode cX1_lowBits 40 = .ok (.lload_n 1, 1) := by decide +kernel
theorem dX1_lowBits_41 : decode cX1_lowBits 41 = .ok (.lneg, 1) := by decide +kernel
theorem dX1_lowBits_42 : decode cX1_lowBits 42 = .ok (.goto 4, 3) := by decide +kernel
theorem dX1_lowBits_45 : decode cX1_lowBits 45 = .ok (.lload_n 1, 1) := by decide +kernel
theorem dX1_lowBits_46 : decode cX1_lowBits 46 = .ok (.lreturn, 1) := by decide +kernel
end
section
/-! NUMBERS: an int and a long as the integer that they hold -/
def iI (z : Int) : Int32 := Int32.ofInt z
def lI (z : Int) : Int64 := Int64.ofInt z
theorem iI_add (a b : Int) : iI a + iI b = iI (a + b) := (Int32.ofInt_add a b).symm
theorem iI_sub (a b : Int) : iI a - iI b = iI (a - b) := (Int32.ofInt_sub a b).symm
theorem iI_mul (a b : Int) : iI a * iI b = iI (a * b) := (Int32.ofInt_mul a b).symm
theorem iI_neg (a : Int) : -iI a = iI (-a) := (Int32.ofInt_neg a).symm
theorem lI_add (a b : Int) : lI a + lI b = lI (a + b) := (Int64.ofInt_add a b).symm
theorem lI_sub (a b : Int) : lI a - lI b = lI (a - b) := (Int64.ofInt_sub a b).symm
theorem lI_mul (a b : Int) : lI a * lI b = lI (a * b) := (Int64.ofInt_mul a b).symm
theorem lI_neg (a : Int) : -lI a = lI (-a) := (Int64.ofInt_neg a).symm
theorem iI_toInt {z : Int} (h : -2147483648 ≤ z ∧ z ≤ 2147483647) : (iI z).toInt = z := Int32.toInt_ofInt_of_le (by omega) (by omega)
theorem lI_toInt {z : Int} (h : -9223372036854775808 ≤ z ∧ z ≤ 9223372036854775807) : (lI z).toInt = z := Int64.toInt_ofInt_of_le (by omega) (by omega)
theorem iI_self (x : Int32) : iI x.toInt = x := Int32.ofInt_toInt x
theorem lI_self (x : Int64) : lI x.toInt = x := Int64.ofInt_toInt x
theorem iI_ex (x : Int32) : ∃ z : Int, (-2147483648 ≤ z ∧ z ≤ 2147483647) ∧ x = iI z := by
  have h1 := x.le_toInt
  have h2 := x.toInt_lt
  exact ⟨x.toInt, by omega, (iI_self x).symm⟩
theorem lI_ex (x : Int64) : ∃ z : Int, (-9223372036854775808 ≤ z ∧ z ≤ 9223372036854775807) ∧ x = lI z := by
  have h1 := x.le_toInt
  have h2 := x.toInt_lt
  exact ⟨x.toInt, by omega, (lI_self x).symm⟩
theorem iI_lt {a b : Int} (h : (-2147483648 ≤ a ∧ a ≤ 2147483647) ∧ (-2147483648 ≤ b ∧ b ≤ 2147483647)) : iI a < iI b ↔ a < b := by
  rw [Int32.lt_iff_toInt_lt, iI_toInt h.1, iI_toInt h.2]
theorem iI_le {a b : Int} (h : (-2147483648 ≤ a ∧ a ≤ 2147483647) ∧ (-2147483648 ≤ b ∧ b ≤ 2147483647)) : iI a ≤ iI b ↔ a ≤ b := by
  rw [Int32.le_iff_toInt_le, iI_toInt h.1, iI_toInt h.2]
theorem iI_eq {a b : Int} (h : (-2147483648 ≤ a ∧ a ≤ 2147483647) ∧ (-2147483648 ≤ b ∧ b ≤ 2147483647)) : iI a = iI b ↔ a = b := by
  rw [← Int32.toInt_inj, iI_toInt h.1, iI_toInt h.2]
theorem lI_lt {a b : Int} (h : (-9223372036854775808 ≤ a ∧ a ≤ 9223372036854775807) ∧ (-9223372036854775808 ≤ b ∧ b ≤ 9223372036854775807)) : lI a < lI b ↔ a < b := by
  rw [Int64.lt_iff_toInt_lt, lI_toInt h.1, lI_toInt h.2]
theorem lI_le {a b : Int} (h : (-9223372036854775808 ≤ a ∧ a ≤ 9223372036854775807) ∧ (-9223372036854775808 ≤ b ∧ b ≤ 9223372036854775807)) : lI a ≤ lI b ↔ a ≤ b := by
  rw [Int64.le_iff_toInt_le, lI_toInt h.1, lI_toInt h.2]
theorem lI_eq {a b : Int} (h : (-9223372036854775808 ≤ a ∧ a ≤ 9223372036854775807) ∧ (-9223372036854775808 ≤ b ∧ b ≤ 9223372036854775807)) : lI a = lI b ↔ a = b := by
  rw [← Int64.toInt_inj, lI_toInt h.1, lI_toInt h.2]
theorem tdiv_in {a b : Int} (hb : 0 < b) : (0 ≤ a → 0 ≤ a.tdiv b ∧ a.tdiv b ≤ a) ∧ (a ≤ 0 → a ≤ a.tdiv b ∧ a.tdiv b ≤ 0) := by
  constructor
  · intro ha
    rw [Int.tdiv_eq_ediv_of_nonneg ha]
    exact ⟨Int.ediv_nonneg ha (by omega), Int.ediv_le_self b ha⟩
  · intro ha
    have e : a.tdiv b = -((-a) / b) := by
      rw [← Int.tdiv_eq_ediv_of_nonneg (by omega : (0 : Int) ≤ -a), Int.neg_tdiv, Int.neg_neg]
    have h1 := Int.ediv_le_self b (by omega : (0 : Int) ≤ -a)
    have h2 : 0 ≤ (-a) / b := Int.ediv_nonneg (by omega) (by omega)
    omega
theorem iI_divT {a b : Int} (h : (-2147483648 ≤ a ∧ a ≤ 2147483647) ∧ (0 < b ∧ b ≤ 2147483647)) : iI a / iI b = iI (a.tdiv b) := by
  have hin := tdiv_in (a := a) (b := b) h.2.1
  have hr : -2147483648 ≤ a.tdiv b ∧ a.tdiv b ≤ 2147483647 := by
    rcases Int.le_total 0 a with q | q
    · have := hin.1 q; omega
    · have := hin.2 q; omega
  rw [← Int32.toInt_inj, Int32.toInt_div, iI_toInt h.1, iI_toInt ⟨by omega, by omega⟩, iI_toInt hr]
  exact Int.bmod_eq_of_le (by omega) (by omega)
theorem lI_divT {a b : Int} (h : (-9223372036854775808 ≤ a ∧ a ≤ 9223372036854775807) ∧ (0 < b ∧ b ≤ 9223372036854775807)) : lI a / lI b = lI (a.tdiv b) := by
  have hin := tdiv_in (a := a) (b := b) h.2.1
  have hr : -9223372036854775808 ≤ a.tdiv b ∧ a.tdiv b ≤ 9223372036854775807 := by
    rcases Int.le_total 0 a with q | q
    · have := hin.1 q; omega
    · have := hin.2 q; omega
  rw [← Int64.toInt_inj, Int64.toInt_div, lI_toInt h.1, lI_toInt ⟨by omega, by omega⟩, lI_toInt hr]
  exact Int.bmod_eq_of_le (by omega) (by omega)
theorem iI_div {a b : Int} (h : (0 ≤ a ∧ a ≤ 2147483647) ∧ (0 < b ∧ b ≤ 2147483647)) : iI a / iI b = iI (a / b) := by
  rw [iI_divT ⟨⟨by omega, h.1.2⟩, h.2⟩, Int.tdiv_eq_ediv_of_nonneg h.1.1]
theorem lI_div {a b : Int} (h : (0 ≤ a ∧ a ≤ 9223372036854775807) ∧ (0 < b ∧ b ≤ 9223372036854775807)) : lI a / lI b = lI (a / b) := by
  rw [lI_divT ⟨⟨by omega, h.1.2⟩, h.2⟩, Int.tdiv_eq_ediv_of_nonneg h.1.1]
theorem iI_rem {a b : Int} (h : (0 ≤ a ∧ a ≤ 2147483647) ∧ (0 < b ∧ b ≤ 2147483647)) : iI a - iI a / iI b * iI b = iI (a % b) := by
  rw [iI_div h, iI_mul, iI_sub]
  congr 1
  have := Int.mul_ediv_add_emod a b
  rw [Int.mul_comm] at this
  omega
theorem lI_rem {a b : Int} (h : (0 ≤ a ∧ a ≤ 9223372036854775807) ∧ (0 < b ∧ b ≤ 9223372036854775807)) : lI a - lI a / lI b * lI b = lI (a % b) := by
  rw [lI_div h, lI_mul, lI_sub]
  congr 1
  have := Int.mul_ediv_add_emod a b
  rw [Int.mul_comm] at this
  omega
theorem lI_remT {a b : Int} (h : (-9223372036854775808 ≤ a ∧ a ≤ 9223372036854775807) ∧ (0 < b ∧ b ≤ 9223372036854775807)) : lI a - lI a / lI b * lI b = lI (a.tmod b) := by
  rw [lI_divT h, lI_mul, lI_sub]
  congr 1
  have := Int.mul_tdiv_add_tmod a b
  rw [Int.mul_comm] at this
  omega
theorem iI_l {a : Int} (h : -2147483648 ≤ a ∧ a ≤ 2147483647) : (iI a).toInt64 = lI a := by
  rw [← Int64.toInt_inj, Int32.toInt_toInt64, iI_toInt h, lI_toInt ⟨by omega, by omega⟩]
theorem lI_i (a : Int) : (lI a).toInt32 = iI a := Int64.toInt32_ofInt
theorem iI_clamp {i : Nat} (h : i ≤ 2147483647) : (iI (i : Int)).toNatClampNeg = i := by
  show (iI (i : Int)).toInt.toNat = i
  rw [iI_toInt ⟨by omega, by omega⟩]
  omega
theorem iI_in {i n : Nat} (h : i < n) (hn : n ≤ 2147483647) : vp_in (iI (i : Int)) n := by
  rw [vp_in_iff, iI_toInt ⟨by omega, by omega⟩]
  omega
theorem iI_pos {i : Nat} (h : i ≤ 2147483647) : ¬ iI (i : Int) < 0 := by
  rw [show (0 : Int32) = iI 0 from rfl, iI_lt ⟨⟨by omega, by omega⟩, by decide⟩]
  omega
theorem lcm_lt {x y : Int64} : lg_cmp x y < 0 ↔ x < y := lg_cmp_lt x y
theorem lcm_gt {x y : Int64} : 0 < lg_cmp x y ↔ y < x := lg_cmp_gt x y
theorem lcm_eq {x y : Int64} : lg_cmp x y = 0 ↔ x = y := by
  unfold lg_cmp
  by_cases h1 : x > y
  · simp only [h1, if_true]
    exact ⟨fun h => absurd h (by decide), fun h => by subst h; exact absurd h1 Int64.lt_irrefl⟩
  · by_cases h2 : x = y
    · simp [h2]
    · simp only [h1, h2, if_false]
      exact ⟨fun h => absurd h (by decide), fun h => h.elim⟩
end
section
/-! THE ROWS OF A WALK, with one context and integers for numbers -/
abbrev mw_C (p : Program) (s : State) (m : MethodId) (args : Array Value) (meth : Method) (c : Code) (cc : ByteArray) (nL : Nat) (own : String) (Ts : List Cond) (D : va_G) (cl : List vw_C) (tys : List (ClassId × FieldType)) : Prop :=
  p.tables.exec = Jvm.exec ∧ c.code = cc ∧ c.maxLocals = nL ∧ s.vm.findClass own = some m.cls ∧ (∀ w ∈ Ts, w.before args s = true) ∧ meth.locks = false ∧ va_K D cl tys s
section MV
variable {p : Program} {l : Launch} {e : Env} {R : Room} {s : State} {m : MethodId} {args : Array Value} {below : List Frame} {meth : Method} {c : Code} {H : Heap} {locs : List Loc} {cells slots : Nat} {Q : State → Prop}
variable {cc : ByteArray} {nL : Nat} {own : String} {Ts : List Cond} {pc : Nat} {ls : Array Slot} {rest : List Value} {D : va_G} {cl : List vw_C} {tys : List (ClassId × FieldType)}
theorem mw_C.fix (B : mw_C p s m args meth c cc nL own Ts D cl tys) : CallFix p m c cc nL s args Ts own := ⟨B.1, B.2.1, B.2.2.1, B.2.2.2.1, B.2.2.2.2.1⟩
theorem mv_iconst (B : mw_C p s m args meth c cc nL own Ts D cl tys) {z : Int} (hdg : decode cc pc = .ok (.iconst z, 1))  (k : W p l e R s m args below meth c H locs cells slots Q (F0 m (pc + 1) ls (.int (iI z) :: rest))) : W p l e R s m args below meth c H locs cells slots Q (F0 m (pc) ls (rest)) := lv_iconst B.1 B.2.1 hdg rfl k
theorem mv_bipush (B : mw_C p s m args meth c cc nL own Ts D cl tys) {z : Int} (hdg : decode cc pc = .ok (.bipush z, 2)) (hz : -128 ≤ z ∧ z ≤ 127) (k : W p l e R s m args below meth c H locs cells slots Q (F0 m (pc + 2) ls (.int (iI z) :: rest))) : W p l e R s m args below meth c H locs cells slots Q (F0 m (pc) ls (rest)) := lv_bipush B.1 B.2.1 hdg (by rw [← Int32.toInt_inj, iI_toInt ⟨by omega, by omega⟩, Int8.toInt_toInt32, Int8.toInt_ofInt_of_le (by omega) (by omega)]) k
theorem mv_sipush (B : mw_C p s m args meth c cc nL own Ts D cl tys) {z : Int} (hdg : decode cc pc = .ok (.sipush z, 3)) (hz : -32768 ≤ z ∧ z ≤ 32767) (k : W p l e R s m args below meth c H locs cells slots Q (F0 m (pc + 3) ls (.int (iI z) :: rest))) : W p l e R s m args below meth c H locs cells slots Q (F0 m (pc) ls (rest)) := lv_sipush B.1 B.2.1 hdg (by rw [← Int32.toInt_inj, iI_toInt ⟨by omega, by omega⟩, Int16.toInt_toInt32, Int16.toInt_ofInt_of_le (by omega) (by omega)]) k
theorem mv_ldc (B : mw_C p s m args meth c cc nL own Ts D cl tys) {z : Int} {v : Int32} {index : Nat} (hdg : decode cc pc = .ok (.ldc index, 2)) (hc : Jvm.Cond.constant own index v ∈ Ts) (hv : v = iI z) (k : W p l e R s m args below meth c H locs cells slots Q (F0 m (pc + 2) ls (.int (iI z) :: rest))) : W p l e R s m args below meth c H locs cells slots Q (F0 m (pc) ls (rest)) := lv_ldc B.1 B.2.1 B.2.2.2.1 (B.2.2.2.2.1 _ hc) hdg (hv ▸ k)
theorem mv_ldc2 (B : mw_C p s m args meth c cc nL own Ts D cl tys) {z : Int} {v : Int64} {index : Nat} (hdg : decode cc pc = .ok (.ldc2_w index, 3)) (hc : Jvm.Cond.constantLong own index v ∈ Ts) (hv : v = lI z) (k : W p l e R s m args below meth c H locs cells slots Q (F0 m (pc + 3) ls (.long (lI z) :: rest))) : W p l e R s m args below meth c H locs cells slots Q (F0 m (pc) ls (rest)) := lv_ldc2 B.1 B.2.1 B.2.2.2.1 (B.2.2.2.2.1 _ hc) hdg (hv ▸ k)
theorem mv_lconst0 (B : mw_C p s m args meth c cc nL own Ts D cl tys)  (hdg : decode cc pc = .ok (.lconst 0, 1))  (k : W p l e R s m args below meth c H locs cells slots Q (F0 m (pc + 1) ls (.long (lI 0) :: rest))) : W p l e R s m args below meth c H locs cells slots Q (F0 m (pc) ls (rest)) := lv_lconst B.1 B.2.1 hdg rfl k
theorem mv_lconst1 (B : mw_C p s m args meth c cc nL own Ts D cl tys)  (hdg : decode cc pc = .ok (.lconst 1, 1))  (k : W p l e R s m args below meth c H locs cells slots Q (F0 m (pc + 1) ls (.long (lI 1) :: rest))) : W p l e R s m args below meth c H locs cells slots Q (F0 m (pc) ls (rest)) := lv_lconst B.1 B.2.1 hdg rfl k
theorem mv_iload_n (B : mw_C p s m args meth c cc nL own Ts D cl tys) {k : Fin 4} {i : Nat} {x : Int32} (hdg : decode cc pc = .ok (.iload_n k, 1)) (hi : (k : Nat) = i) (hl : ls[i]? = some (.val (.int x))) (kk : W p l e R s m args below meth c H locs cells slots Q (F0 m (pc + 1) ls (.int x :: rest))) : W p l e R s m args below meth c H locs cells slots Q (F0 m (pc) ls (rest)) := lv_iload_n B.1 B.2.1 hdg hi hl kk
theorem mv_iload (B : mw_C p s m args meth c cc nL own Ts D cl tys) {i : Nat} {x : Int32} (hdg : decode cc pc = .ok (.iload i, 2)) (hl : ls[i]? = some (.val (.int x))) (kk : W p l e R s m args below meth c H locs cells slots Q (F0 m (pc + 2) ls (.int x :: rest))) : W p l e R s m args below meth c H locs cells slots Q (F0 m (pc) ls (rest)) := lv_iload B.1 B.2.1 hdg hl kk
theorem mv_lload_n (B : mw_C p s m args meth c cc nL own Ts D cl tys) {k : Fin 4} {i : Nat} {x : Int64} (hdg : decode cc pc = .ok (.lload_n k, 1)) (hi : (k : Nat) = i) (hl : ls[i]? = some (.val (.long x))) (kk : W p l e R s m args below meth c H locs cells slots Q (F0 m (pc + 1) ls (.long x :: rest))) : W p l e R s m args below meth c H locs cells slots Q (F0 m (pc) ls (rest)) := lv_lload_n B.1 B.2.1 hdg hi hl kk
theorem mv_lload (B : mw_C p s m args meth c cc nL own Ts D cl tys) {i : Nat} {x : Int64} (hdg : decode cc pc = .ok (.lload i, 2)) (hl : ls[i]? = some (.val (.long x))) (kk : W p l e R s m args below meth c H locs cells slots Q (F0 m (pc + 2) ls (.long x :: rest))) : W p l e R s m args below meth c H locs cells slots Q (F0 m (pc) ls (rest)) := lv_lload B.1 B.2.1 hdg hl kk
theorem mv_aload_n (B : mw_C p s m args meth c cc nL own Ts D cl tys) {k : Fin 4} {i : Nat} {x : Nat} (hdg : decode cc pc = .ok (.aload_n k, 1)) (hi : (k : Nat) = i) (hl : ls[i]? = some (.val (.ref x))) (kk : W p l e R s m args below meth c H locs cells slots Q (F0 m (pc + 1) ls (.ref x :: rest))) : W p l e R s m args below meth c H locs cells slots Q (F0 m (pc) ls (rest)) := lv_aload_n B.1 B.2.1 hdg hi hl kk
theorem mv_aload (B : mw_C p s m args meth c cc nL own Ts D cl tys) {i : Nat} {x : Nat} (hdg : decode cc pc = .ok (.aload i, 2)) (hl : ls[i]? = some (.val (.ref x))) (kk : W p l e R s m args below meth c H locs cells slots Q (F0 m (pc + 2) ls (.ref x :: rest))) : W p l e R s m args below meth c H locs cells slots Q (F0 m (pc) ls (rest)) := lv_aload B.1 B.2.1 hdg hl kk
theorem mv_istore_n (B : mw_C p s m args meth c cc nL own Ts D cl tys) {k : Fin 4} {i : Nat} {x : Int32} {lv lv' : List (Nat × Value)} (hdg : decode cc pc = .ok (.istore_n k, 1)) (hi : (k : Nat) = i) (h : lv_has ls nL lv) (hn : i < nL) (hl : (i, (.int x : Value)) :: lv.filter (fun q => !(q.1 == i) && !(q.1 + 1 == i && q.2.category == 2)) = lv') (kk : ∀ ls' : Array Slot, lv_has ls' nL lv' → W p l e R s m args below meth c H locs cells slots Q (F0 m (pc + 1) ls' (rest))) : W p l e R s m args below meth c H locs cells slots Q (F0 m (pc) ls (.int x :: rest)) := lv_istore_n B.1 B.2.1 hdg hi h hn hl kk
theorem mv_istore (B : mw_C p s m args meth c cc nL own Ts D cl tys) {i : Nat} {x : Int32} {lv lv' : List (Nat × Value)} (hdg : decode cc pc = .ok (.istore i, 2)) (h : lv_has ls nL lv) (hn : i < nL) (hl : (i, (.int x : Value)) :: lv.filter (fun q => !(q.1 == i) && !(q.1 + 1 == i && q.2.category == 2)) = lv') (kk : ∀ ls' : Array Slot, lv_has ls' nL lv' → W p l e R s m args below meth c H locs cells slots Q (F0 m (pc + 2) ls' (rest))) : W p l e R s m args below meth c H locs cells slots Q (F0 m (pc) ls (.int x :: rest)) := lv_istore B.1 B.2.1 hdg h hn hl kk
theorem mv_lstore_n (B : mw_C p s m args meth c cc nL own Ts D cl tys) {k : Fin 4} {i : Nat} {x : Int64} {lv lv' : List (Nat × Value)} (hdg : decode cc pc = .ok (.lstore_n k, 1)) (hi : (k : Nat) = i) (h : lv_has ls nL lv) (hn : i + 1 < nL) (hl : (i, (.long x : Value)) :: lv.filter (fun q => !(q.1 == i) && (!(q.1 == i + 1) && !(q.1 + 1 == i && q.2.category == 2))) = lv') (kk : ∀ ls' : Array Slot, lv_has ls' nL lv' → W p l e R s m args below meth c H locs cells slots Q (F0 m (pc + 1) ls' (rest))) : W p l e R s m args below meth c H locs cells slots Q (F0 m (pc) ls (.long x :: rest)) := lv_lstore_n B.1 B.2.1 hdg hi h hn hl kk
theorem mv_lstore (B : mw_C p s m args meth c cc nL own Ts D cl tys) {i : Nat} {x : Int64} {lv lv' : List (Nat × Value)} (hdg : decode cc pc = .ok (.lstore i, 2)) (h : lv_has ls nL lv) (hn : i + 1 < nL) (hl : (i, (.long x : Value)) :: lv.filter (fun q => !(q.1 == i) && (!(q.1 == i + 1) && !(q.1 + 1 == i && q.2.category == 2))) = lv') (kk : ∀ ls' : Array Slot, lv_has ls' nL lv' → W p l e R s m args below meth c H locs cells slots Q (F0 m (pc + 2) ls' (rest))) : W p l e R s m args below meth c H locs cells slots Q (F0 m (pc) ls (.long x :: rest)) := lv_lstore B.1 B.2.1 hdg h hn hl kk
theorem mv_astore_n (B : mw_C p s m args meth c cc nL own Ts D cl tys) {k : Fin 4} {i : Nat} {x : Nat} {lv lv' : List (Nat × Value)} (hdg : decode cc pc = .ok (.astore_n k, 1)) (hi : (k : Nat) = i) (h : lv_has ls nL lv) (hn : i < nL) (hl : (i, (.ref x : Value)) :: lv.filter (fun q => !(q.1 == i) && !(q.1 + 1 == i && q.2.category == 2)) = lv') (kk : ∀ ls' : Array Slot, lv_has ls' nL lv' → W p l e R s m args below meth c H locs cells slots Q (F0 m (pc + 1) ls' (rest))) : W p l e R s m args below meth c H locs cells slots Q (F0 m (pc) ls (.ref x :: rest)) := lv_astore_n B.1 B.2.1 hdg hi h hn hl kk
theorem mv_astore (B : mw_C p s m args meth c cc nL own Ts D cl tys) {i : Nat} {x : Nat} {lv lv' : List (Nat × Value)} (hdg : decode cc pc = .ok (.astore i, 2)) (h : lv_has ls nL lv) (hn : i < nL) (hl : (i, (.ref x : Value)) :: lv.filter (fun q => !(q.1 == i) && !(q.1 + 1 == i && q.2.category == 2)) = lv') (kk : ∀ ls' : Array Slot, lv_has ls' nL lv' → W p l e R s m args below meth c H locs cells slots Q (F0 m (pc + 2) ls' (rest))) : W p l e R s m args below meth c H locs cells slots Q (F0 m (pc) ls (.ref x :: rest)) := lv_astore B.1 B.2.1 hdg h hn hl kk
theorem mv_iinc (B : mw_C p s m args meth c cc nL own Ts D cl tys) {i k : Nat} {x n : Int} {lv lv' : List (Nat × Value)} (hdg : decode cc pc = .ok (.iinc i n, 3)) (h : lv_has ls nL lv) (hk : lv[k]? = some (i, .int (iI x))) (hn : i < nL) (hl : (i, Value.int (iI (x + n))) :: lv.filter (fun q => !(q.1 == i) && !(q.1 + 1 == i && q.2.category == 2)) = lv') (kk : ∀ ls' : Array Slot, lv_has ls' nL lv' → W p l e R s m args below meth c H locs cells slots Q (F0 m (pc + 3) ls' (rest))) : W p l e R s m args below meth c H locs cells slots Q (F0 m (pc) ls (rest)) := lv_iinc B.1 B.2.1 hdg h hk (iI_add x n) hn hl kk
theorem mv_iadd (B : mw_C p s m args meth c cc nL own Ts D cl tys) {x y : Int} (hdg : decode cc pc = .ok (.iadd, 1))  (k : W p l e R s m args below meth c H locs cells slots Q (F0 m (pc + 1) ls (.int (iI (x + y)) :: rest))) : W p l e R s m args below meth c H locs cells slots Q (F0 m (pc) ls (.int (iI y) :: .int (iI x) :: rest)) := lv_iadd B.1 B.2.1 hdg  (by rw [iI_add]; exact k)
theorem mv_isub (B : mw_C p s m args meth c cc nL own Ts D cl tys) {x y : Int} (hdg : decode cc pc = .ok (.isub, 1))  (k : W p l e R s m args below meth c H locs cells slots Q (F0 m (pc + 1) ls (.int (iI (x - y)) :: rest))) : W p l e R s m args below meth c H locs cells slots Q (F0 m (pc) ls (.int (iI y) :: .int (iI x) :: rest)) := lv_isub B.1 B.2.1 hdg  (by rw [iI_sub]; exact k)
theorem mv_imul (B : mw_C p s m args meth c cc nL own Ts D cl tys) {x y : Int} (hdg : decode cc pc = .ok (.imul, 1))  (k : W p l e R s m args below meth c H locs cells slots Q (F0 m (pc + 1) ls (.int (iI (x * y)) :: rest))) : W p l e R s m args below meth c H locs cells slots Q (F0 m (pc) ls (.int (iI y) :: .int (iI x) :: rest)) := lv_imul B.1 B.2.1 hdg  (by rw [iI_mul]; exact k)
theorem mv_ladd (B : mw_C p s m args meth c cc nL own Ts D cl tys) {x y : Int} (hdg : decode cc pc = .ok (.ladd, 1))  (k : W p l e R s m args below meth c H locs cells slots Q (F0 m (pc + 1) ls (.long (lI (x + y)) :: rest))) : W p l e R s m args below meth c H locs cells slots Q (F0 m (pc) ls (.long (lI y) :: .long (lI x) :: rest)) := lv_ladd B.1 B.2.1 hdg  (by rw [lI_add]; exact k)
theorem mv_lsub (B : mw_C p s m args meth c cc nL own Ts D cl tys) {x y : Int} (hdg : decode cc pc = .ok (.lsub, 1))  (k : W p l e R s m args below meth c H locs cells slots Q (F0 m (pc + 1) ls (.long (lI (x - y)) :: rest))) : W p l e R s m args below meth c H locs cells slots Q (F0 m (pc) ls (.long (lI y) :: .long (lI x) :: rest)) := lv_lsub B.1 B.2.1 hdg  (by rw [lI_sub]; exact k)
theorem mv_lmul (B : mw_C p s m args meth c cc nL own Ts D cl tys) {x y : Int} (hdg : decode cc pc = .ok (.lmul, 1))  (k : W p l e R s m args below meth c H locs cells slots Q (F0 m (pc + 1) ls (.long (lI (x * y)) :: rest))) : W p l e R s m args below meth c H locs cells slots Q (F0 m (pc) ls (.long (lI y) :: .long (lI x) :: rest)) := lv_lmul B.1 B.2.1 hdg  (by rw [lI_mul]; exact k)
theorem mv_idiv (B : mw_C p s m args meth c cc nL own Ts D cl tys) {x y : Int} (hdg : decode cc pc = .ok (.idiv, 1)) (h : (0 ≤ x ∧ x ≤ 2147483647) ∧ (0 < y ∧ y ≤ 2147483647)) (k : W p l e R s m args below meth c H locs cells slots Q (F0 m (pc + 1) ls (.int (iI (x / y)) :: rest))) : W p l e R s m args below meth c H locs cells slots Q (F0 m (pc) ls (.int (iI y) :: .int (iI x) :: rest)) := lv_idiv B.1 B.2.1 hdg (by rw [show (0 : Int32) = iI 0 from rfl, iI_eq ⟨⟨by omega, by omega⟩, by decide⟩]; omega) (by rw [iI_div h]; exact k)
theorem mv_irem (B : mw_C p s m args meth c cc nL own Ts D cl tys) {x y : Int} (hdg : decode cc pc = .ok (.irem, 1)) (h : (0 ≤ x ∧ x ≤ 2147483647) ∧ (0 < y ∧ y ≤ 2147483647)) (k : W p l e R s m args below meth c H locs cells slots Q (F0 m (pc + 1) ls (.int (iI (x % y)) :: rest))) : W p l e R s m args below meth c H locs cells slots Q (F0 m (pc) ls (.int (iI y) :: .int (iI x) :: rest)) := lv_irem B.1 B.2.1 hdg (by rw [show (0 : Int32) = iI 0 from rfl, iI_eq ⟨⟨by omega, by omega⟩, by decide⟩]; omega) (by rw [iI_rem h]; exact k)
theorem mv_ldiv (B : mw_C p s m args meth c cc nL own Ts D cl tys) {x y : Int} (hdg : decode cc pc = .ok (.ldiv, 1)) (h : (0 ≤ x ∧ x ≤ 9223372036854775807) ∧ (0 < y ∧ y ≤ 9223372036854775807)) (k : W p l e R s m args below meth c H locs cells slots Q (F0 m (pc + 1) ls (.long (lI (x / y)) :: rest))) : W p l e R s m args below meth c H locs cells slots Q (F0 m (pc) ls (.long (lI y) :: .long (lI x) :: rest)) := lv_ldiv B.1 B.2.1 hdg (by rw [show (0 : Int64) = lI 0 from rfl, lI_eq ⟨⟨by omega, by omega⟩, by decide⟩]; omega) (by rw [lI_div h]; exact k)
theorem mv_lrem (B : mw_C p s m args meth c cc nL own Ts D cl tys) {x y : Int} (hdg : decode cc pc = .ok (.lrem, 1)) (h : (0 ≤ x ∧ x ≤ 9223372036854775807) ∧ (0 < y ∧ y ≤ 9223372036854775807)) (k : W p l e R s m args below meth c H locs cells slots Q (F0 m (pc + 1) ls (.long (lI (x % y)) :: rest))) : W p l e R s m args below meth c H locs cells slots Q (F0 m (pc) ls (.long (lI y) :: .long (lI x) :: rest)) := lv_lrem B.1 B.2.1 hdg (by rw [show (0 : Int64) = lI 0 from rfl, lI_eq ⟨⟨by omega, by omega⟩, by decide⟩]; omega) (by rw [lI_rem h]; exact k)
theorem mv_ldivT (B : mw_C p s m args meth c cc nL own Ts D cl tys) {x y : Int} (hdg : decode cc pc = .ok (.ldiv, 1)) (h : (-9223372036854775808 ≤ x ∧ x ≤ 9223372036854775807) ∧ (0 < y ∧ y ≤ 9223372036854775807)) (k : W p l e R s m args below meth c H locs cells slots Q (F0 m (pc + 1) ls (.long (lI (x.tdiv y)) :: rest))) : W p l e R s m args below meth c H locs cells slots Q (F0 m (pc) ls (.long (lI y) :: .long (lI x) :: rest)) := lv_ldiv B.1 B.2.1 hdg (by rw [show (0 : Int64) = lI 0 from rfl, lI_eq ⟨⟨by omega, by omega⟩, by decide⟩]; omega) (by rw [lI_divT h]; exact k)
theorem mv_lremT (B : mw_C p s m args meth c cc nL own Ts D cl tys) {x y : Int} (hdg : decode cc pc = .ok (.lrem, 1)) (h : (-9223372036854775808 ≤ x ∧ x ≤ 9223372036854775807) ∧ (0 < y ∧ y ≤ 9223372036854775807)) (k : W p l e R s m args below meth c H locs cells slots Q (F0 m (pc + 1) ls (.long (lI (x.tmod y)) :: rest))) : W p l e R s m args below meth c H locs cells slots Q (F0 m (pc) ls (.long (lI y) :: .long (lI x) :: rest)) := lv_lrem B.1 B.2.1 hdg (by rw [show (0 : Int64) = lI 0 from rfl, lI_eq ⟨⟨by omega, by omega⟩, by decide⟩]; omega) (by rw [lI_remT h]; exact k)
theorem mv_ineg (B : mw_C p s m args meth c cc nL own Ts D cl tys) {x : Int} (hdg : decode cc pc = .ok (.ineg, 1)) (k : W p l e R s m args below meth c H locs cells slots Q (F0 m (pc + 1) ls (.int (iI (-x)) :: rest))) : W p l e R s m args below meth c H locs cells slots Q (F0 m (pc) ls (.int (iI x) :: rest)) := lv_ineg B.1 B.2.1 hdg (by rw [iI_neg]; exact k)
theorem mv_lneg (B : mw_C p s m args meth c cc nL own Ts D cl tys) {x : Int} (hdg : decode cc pc = .ok (.lneg, 1)) (k : W p l e R s m args below meth c H locs cells slots Q (F0 m (pc + 1) ls (.long (lI (-x)) :: rest))) : W p l e R s m args below meth c H locs cells slots Q (F0 m (pc) ls (.long (lI x) :: rest)) := lv_lneg B.1 B.2.1 hdg (by rw [lI_neg]; exact k)
theorem mv_i2l (B : mw_C p s m args meth c cc nL own Ts D cl tys) {x : Int} (hdg : decode cc pc = .ok (.i2l, 1)) (h : -2147483648 ≤ x ∧ x ≤ 2147483647) (k : W p l e R s m args below meth c H locs cells slots Q (F0 m (pc + 1) ls (.long (lI x) :: rest))) : W p l e R s m args below meth c H locs cells slots Q (F0 m (pc) ls (.int (iI x) :: rest)) := lv_i2l B.1 B.2.1 hdg (iI_l h) k
theorem mv_l2i (B : mw_C p s m args meth c cc nL own Ts D cl tys) {x : Int} (hdg : decode cc pc = .ok (.l2i, 1)) (k : W p l e R s m args below meth c H locs cells slots Q (F0 m (pc + 1) ls (.int (iI x) :: rest))) : W p l e R s m args below meth c H locs cells slots Q (F0 m (pc) ls (.long (lI x) :: rest)) := lv_l2i B.1 B.2.1 hdg (lI_i x) k
theorem mv_dup (B : mw_C p s m args meth c cc nL own Ts D cl tys) {va : Value} (hdg : decode cc pc = .ok (.dup, 1)) (hva : va.category = 1) (k : W p l e R s m args below meth c H locs cells slots Q (F0 m (pc + 1) ls (va :: va :: rest))) : W p l e R s m args below meth c H locs cells slots Q (F0 m (pc) ls (va :: rest)) := lv_dup B.1 B.2.1 hdg hva k
theorem mv_dup2 (B : mw_C p s m args meth c cc nL own Ts D cl tys) {va vb : Value} (hdg : decode cc pc = .ok (.dup2, 1)) (hva : va.category = 1) (hvb : vb.category = 1) (k : W p l e R s m args below meth c H locs cells slots Q (F0 m (pc + 1) ls (va :: vb :: va :: vb :: rest))) : W p l e R s m args below meth c H locs cells slots Q (F0 m (pc) ls (va :: vb :: rest)) := lv_dup2_11 B.1 B.2.1 hdg hva hvb k
theorem mv_pop (B : mw_C p s m args meth c cc nL own Ts D cl tys) {va : Value} (hdg : decode cc pc = .ok (.pop, 1)) (hva : va.category = 1) (k : W p l e R s m args below meth c H locs cells slots Q (F0 m (pc + 1) ls (rest))) : W p l e R s m args below meth c H locs cells slots Q (F0 m (pc) ls (va :: rest)) := lv_pop B.1 B.2.1 hdg hva k
theorem mv_goto (B : mw_C p s m args meth c cc nL own Ts D cl tys) {off : Int} {tgt : Nat} (hdg : decode cc pc = .ok (.goto off, 3)) (ht : (pc : Int) + off = (tgt : Int)) (k : W p l e R s m args below meth c H locs cells slots Q (F0 m (tgt) ls (rest))) : W p l e R s m args below meth c H locs cells slots Q (F0 m (pc) ls (rest)) := lv_goto B.1 B.2.1 hdg ht k
theorem mv_icmp_eq (B : mw_C p s m args meth c cc nL own Ts D cl tys) {x y : Int} {off : Int} {tgt : Nat} (hdg : decode cc pc = .ok (.if_icmp .eq off, 3)) (ht : (pc : Int) + off = (tgt : Int)) (h : ((-2147483648 ≤ x ∧ x ≤ 2147483647) ∧ (-2147483648 ≤ y ∧ y ≤ 2147483647))) (kt : x = y → W p l e R s m args below meth c H locs cells slots Q (F0 m (tgt) ls (rest))) (kf : ¬ (x = y) → W p l e R s m args below meth c H locs cells slots Q (F0 m (pc + 3) ls (rest))) : W p l e R s m args below meth c H locs cells slots Q (F0 m (pc) ls (.int (iI y) :: .int (iI x) :: rest)) := lv_icmp_eq B.1 B.2.1 hdg ht (fun q => kt ((iI_eq h).mp q)) (fun q => kf (fun q2 => q ((iI_eq h).mpr q2)))
theorem mv_if_eq (B : mw_C p s m args meth c cc nL own Ts D cl tys) {x : Int} {off : Int} {tgt : Nat} (hdg : decode cc pc = .ok (.ifCond .eq off, 3)) (ht : (pc : Int) + off = (tgt : Int)) (h : -2147483648 ≤ x ∧ x ≤ 2147483647) (kt : x = 0 → W p l e R s m args below meth c H locs cells slots Q (F0 m (tgt) ls (rest))) (kf : ¬ (x = 0) → W p l e R s m args below meth c H locs cells slots Q (F0 m (pc + 3) ls (rest))) : W p l e R s m args below meth c H locs cells slots Q (F0 m (pc) ls (.int (iI x) :: rest)) := lv_if_eq B.1 B.2.1 hdg ht (fun q => kt ((iI_eq (b := 0) ⟨h, by decide⟩).mp q)) (fun q => kf (fun q2 => q ((iI_eq (b := 0) ⟨h, by decide⟩).mpr q2)))
theorem mv_lcmp_eq (B : mw_C p s m args meth c cc nL own Ts D cl tys) {x y : Int} {off : Int} {tgt : Nat} (hdg1 : decode cc pc = .ok (.lcmp, 1)) (hdg : decode cc (pc + 1) = .ok (.ifCond .eq off, 3)) (ht : ((pc + 1 : Nat) : Int) + off = (tgt : Int)) (h : ((-9223372036854775808 ≤ x ∧ x ≤ 9223372036854775807) ∧ (-9223372036854775808 ≤ y ∧ y ≤ 9223372036854775807))) (kt : x = y → W p l e R s m args below meth c H locs cells slots Q (F0 m (tgt) ls (rest))) (kf : ¬ (x = y) → W p l e R s m args below meth c H locs cells slots Q (F0 m (pc + 4) ls (rest))) : W p l e R s m args below meth c H locs cells slots Q (F0 m (pc) ls (.long (lI y) :: .long (lI x) :: rest)) := W.lcmp B.1 B.2.1 hdg1 (lv_if_eq B.1 B.2.1 hdg ht (fun q => kt ((lcm_eq.trans (lI_eq h)).mp q)) (fun q => kf (fun q2 => q ((lcm_eq.trans (lI_eq h)).mpr q2))))
theorem mv_icmp_ne (B : mw_C p s m args meth c cc nL own Ts D cl tys) {x y : Int} {off : Int} {tgt : Nat} (hdg : decode cc pc = .ok (.if_icmp .ne off, 3)) (ht : (pc : Int) + off = (tgt : Int)) (h : ((-2147483648 ≤ x ∧ x ≤ 2147483647) ∧ (-2147483648 ≤ y ∧ y ≤ 2147483647))) (kt : ¬ x = y → W p l e R s m args below meth c H locs cells slots Q (F0 m (tgt) ls (rest))) (kf : x = y → W p l e R s m args below meth c H locs cells slots Q (F0 m (pc + 3) ls (rest))) : W p l e R s m args below meth c H locs cells slots Q (F0 m (pc) ls (.int (iI y) :: .int (iI x) :: rest)) := lv_icmp_ne B.1 B.2.1 hdg ht (fun q => kt (fun q2 => q ((iI_eq h).mpr q2))) (fun q => kf ((iI_eq h).mp q))
theorem mv_if_ne (B : mw_C p s m args meth c cc nL own Ts D cl tys) {x : Int} {off : Int} {tgt : Nat} (hdg : decode cc pc = .ok (.ifCond .ne off, 3)) (ht : (pc : Int) + off = (tgt : Int)) (h : -2147483648 ≤ x ∧ x ≤ 2147483647) (kt : ¬ x = 0 → W p l e R s m args below meth c H locs cells slots Q (F0 m (tgt) ls (rest))) (kf : x = 0 → W p l e R s m args below meth c H locs cells slots Q (F0 m (pc + 3) ls (rest))) : W p l e R s m args below meth c H locs cells slots Q (F0 m (pc) ls (.int (iI x) :: rest)) := lv_if_ne B.1 B.2.1 hdg ht (fun q => kt (fun q2 => q ((iI_eq (b := 0) ⟨h, by decide⟩).mpr q2))) (fun q => kf ((iI_eq (b := 0) ⟨h, by decide⟩).mp q))
theorem mv_lcmp_ne (B : mw_C p s m args meth c cc nL own Ts D cl tys) {x y : Int} {off : Int} {tgt : Nat} (hdg1 : decode cc pc = .ok (.lcmp, 1)) (hdg : decode cc (pc + 1) = .ok (.ifCond .ne off, 3)) (ht : ((pc + 1 : Nat) : Int) + off = (tgt : Int)) (h : ((-9223372036854775808 ≤ x ∧ x ≤ 9223372036854775807) ∧ (-9223372036854775808 ≤ y ∧ y ≤ 9223372036854775807))) (kt : ¬ x = y → W p l e R s m args below meth c H locs cells slots Q (F0 m (tgt) ls (rest))) (kf : x = y → W p l e R s m args below meth c H locs cells slots Q (F0 m (pc + 4) ls (rest))) : W p l e R s m args below meth c H locs cells slots Q (F0 m (pc) ls (.long (lI y) :: .long (lI x) :: rest)) := W.lcmp B.1 B.2.1 hdg1 (lv_if_ne B.1 B.2.1 hdg ht (fun q => kt (fun q2 => q ((lcm_eq.trans (lI_eq h)).mpr q2))) (fun q => kf ((lcm_eq.trans (lI_eq h)).mp q)))
theorem mv_icmp_lt (B : mw_C p s m args meth c cc nL own Ts D cl tys) {x y : Int} {off : Int} {tgt : Nat} (hdg : decode cc pc = .ok (.if_icmp .lt off, 3)) (ht : (pc : Int) + off = (tgt : Int)) (h : ((-2147483648 ≤ x ∧ x ≤ 2147483647) ∧ (-2147483648 ≤ y ∧ y ≤ 2147483647))) (kt : x < y → W p l e R s m args below meth c H locs cells slots Q (F0 m (tgt) ls (rest))) (kf : ¬ (x < y) → W p l e R s m args below meth c H locs cells slots Q (F0 m (pc + 3) ls (rest))) : W p l e R s m args below meth c H locs cells slots Q (F0 m (pc) ls (.int (iI y) :: .int (iI x) :: rest)) := lv_icmp_lt B.1 B.2.1 hdg ht (fun q => kt ((iI_lt h).mp q)) (fun q => kf (fun q2 => q ((iI_lt h).mpr q2)))
theorem mv_if_lt (B : mw_C p s m args meth c cc nL own Ts D cl tys) {x : Int} {off : Int} {tgt : Nat} (hdg : decode cc pc = .ok (.ifCond .lt off, 3)) (ht : (pc : Int) + off = (tgt : Int)) (h : -2147483648 ≤ x ∧ x ≤ 2147483647) (kt : x < 0 → W p l e R s m args below meth c H locs cells slots Q (F0 m (tgt) ls (rest))) (kf : ¬ (x < 0) → W p l e R s m args below meth c H locs cells slots Q (F0 m (pc + 3) ls (rest))) : W p l e R s m args below meth c H locs cells slots Q (F0 m (pc) ls (.int (iI x) :: rest)) := lv_if_lt B.1 B.2.1 hdg ht (fun q => kt ((iI_lt (b := 0) ⟨h, by decide⟩).mp q)) (fun q => kf (fun q2 => q ((iI_lt (b := 0) ⟨h, by decide⟩).mpr q2)))
theorem mv_lcmp_lt (B : mw_C p s m args meth c cc nL own Ts D cl tys) {x y : Int} {off : Int} {tgt : Nat} (hdg1 : decode cc pc = .ok (.lcmp, 1)) (hdg : decode cc (pc + 1) = .ok (.ifCond .lt off, 3)) (ht : ((pc + 1 : Nat) : Int) + off = (tgt : Int)) (h : ((-9223372036854775808 ≤ x ∧ x ≤ 9223372036854775807) ∧ (-9223372036854775808 ≤ y ∧ y ≤ 9223372036854775807))) (kt : x < y → W p l e R s m args below meth c H locs cells slots Q (F0 m (tgt) ls (rest))) (kf : ¬ (x < y) → W p l e R s m args below meth c H locs cells slots Q (F0 m (pc + 4) ls (rest))) : W p l e R s m args below meth c H locs cells slots Q (F0 m (pc) ls (.long (lI y) :: .long (lI x) :: rest)) := W.lcmp B.1 B.2.1 hdg1 (lv_if_lt B.1 B.2.1 hdg ht (fun q => kt ((lcm_lt.trans (lI_lt h)).mp q)) (fun q => kf (fun q2 => q ((lcm_lt.trans (lI_lt h)).mpr q2))))
theorem mv_icmp_ge (B : mw_C p s m args meth c cc nL own Ts D cl tys) {x y : Int} {off : Int} {tgt : Nat} (hdg : decode cc pc = .ok (.if_icmp .ge off, 3)) (ht : (pc : Int) + off = (tgt : Int)) (h : ((-2147483648 ≤ x ∧ x ≤ 2147483647) ∧ (-2147483648 ≤ y ∧ y ≤ 2147483647))) (kt : y ≤ x → W p l e R s m args below meth c H locs cells slots Q (F0 m (tgt) ls (rest))) (kf : ¬ (y ≤ x) → W p l e R s m args below meth c H locs cells slots Q (F0 m (pc + 3) ls (rest))) : W p l e R s m args below meth c H locs cells slots Q (F0 m (pc) ls (.int (iI y) :: .int (iI x) :: rest)) := lv_icmp_ge B.1 B.2.1 hdg ht (fun q => kt ((iI_le ⟨h.2, h.1⟩).mp q)) (fun q => kf (fun q2 => q ((iI_le ⟨h.2, h.1⟩).mpr q2)))
theorem mv_if_ge (B : mw_C p s m args meth c cc nL own Ts D cl tys) {x : Int} {off : Int} {tgt : Nat} (hdg : decode cc pc = .ok (.ifCond .ge off, 3)) (ht : (pc : Int) + off = (tgt : Int)) (h : -2147483648 ≤ x ∧ x ≤ 2147483647) (kt : 0 ≤ x → W p l e R s m args below meth c H locs cells slots Q (F0 m (tgt) ls (rest))) (kf : ¬ (0 ≤ x) → W p l e R s m args below meth c H locs cells slots Q (F0 m (pc + 3) ls (rest))) : W p l e R s m args below meth c H locs cells slots Q (F0 m (pc) ls (.int (iI x) :: rest)) := lv_if_ge B.1 B.2.1 hdg ht (fun q => kt ((iI_le (a := 0) ⟨by decide, h⟩).mp q)) (fun q => kf (fun q2 => q ((iI_le (a := 0) ⟨by decide, h⟩).mpr q2)))
theorem mv_lcmp_ge (B : mw_C p s m args meth c cc nL own Ts D cl tys) {x y : Int} {off : Int} {tgt : Nat} (hdg1 : decode cc pc = .ok (.lcmp, 1)) (hdg : decode cc (pc + 1) = .ok (.ifCond .ge off, 3)) (ht : ((pc + 1 : Nat) : Int) + off = (tgt : Int)) (h : ((-9223372036854775808 ≤ x ∧ x ≤ 9223372036854775807) ∧ (-9223372036854775808 ≤ y ∧ y ≤ 9223372036854775807))) (kt : y ≤ x → W p l e R s m args below meth c H locs cells slots Q (F0 m (tgt) ls (rest))) (kf : ¬ (y ≤ x) → W p l e R s m args below meth c H locs cells slots Q (F0 m (pc + 4) ls (rest))) : W p l e R s m args below meth c H locs cells slots Q (F0 m (pc) ls (.long (lI y) :: .long (lI x) :: rest)) := W.lcmp B.1 B.2.1 hdg1 (lv_if_ge B.1 B.2.1 hdg ht (fun q => kt (Int.not_lt.mp (fun q2 => Int32.not_lt.mpr q ((lcm_lt.trans (lI_lt h)).mpr q2)))) (fun q => kf (fun q2 => q (Int32.not_lt.mp (fun q3 => Int.not_lt.mpr q2 ((lcm_lt.trans (lI_lt h)).mp q3))))))
theorem mv_icmp_gt (B : mw_C p s m args meth c cc nL own Ts D cl tys) {x y : Int} {off : Int} {tgt : Nat} (hdg : decode cc pc = .ok (.if_icmp .gt off, 3)) (ht : (pc : Int) + off = (tgt : Int)) (h : ((-2147483648 ≤ x ∧ x ≤ 2147483647) ∧ (-2147483648 ≤ y ∧ y ≤ 2147483647))) (kt : y < x → W p l e R s m args below meth c H locs cells slots Q (F0 m (tgt) ls (rest))) (kf : ¬ (y < x) → W p l e R s m args below meth c H locs cells slots Q (F0 m (pc + 3) ls (rest))) : W p l e R s m args below meth c H locs cells slots Q (F0 m (pc) ls (.int (iI y) :: .int (iI x) :: rest)) := lv_icmp_gt B.1 B.2.1 hdg ht (fun q => kt ((iI_lt ⟨h.2, h.1⟩).mp q)) (fun q => kf (fun q2 => q ((iI_lt ⟨h.2, h.1⟩).mpr q2)))
theorem mv_if_gt (B : mw_C p s m args meth c cc nL own Ts D cl tys) {x : Int} {off : Int} {tgt : Nat} (hdg : decode cc pc = .ok (.ifCond .gt off, 3)) (ht : (pc : Int) + off = (tgt : Int)) (h : -2147483648 ≤ x ∧ x ≤ 2147483647) (kt : 0 < x → W p l e R s m args below meth c H locs cells slots Q (F0 m (tgt) ls (rest))) (kf : ¬ (0 < x) → W p l e R s m args below meth c H locs cells slots Q (F0 m (pc + 3) ls (rest))) : W p l e R s m args below meth c H locs cells slots Q (F0 m (pc) ls (.int (iI x) :: rest)) := lv_if_gt B.1 B.2.1 hdg ht (fun q => kt ((iI_lt (a := 0) ⟨by decide, h⟩).mp q)) (fun q => kf (fun q2 => q ((iI_lt (a := 0) ⟨by decide, h⟩).mpr q2)))
theorem mv_lcmp_gt (B : mw_C p s m args meth c cc nL own Ts D cl tys) {x y : Int} {off : Int} {tgt : Nat} (hdg1 : decode cc pc = .ok (.lcmp, 1)) (hdg : decode cc (pc + 1) = .ok (.ifCond .gt off, 3)) (ht : ((pc + 1 : Nat) : Int) + off = (tgt : Int)) (h : ((-9223372036854775808 ≤ x ∧ x ≤ 9223372036854775807) ∧ (-9223372036854775808 ≤ y ∧ y ≤ 9223372036854775807))) (kt : y < x → W p l e R s m args below meth c H locs cells slots Q (F0 m (tgt) ls (rest))) (kf : ¬ (y < x) → W p l e R s m args below meth c H locs cells slots Q (F0 m (pc + 4) ls (rest))) : W p l e R s m args below meth c H locs cells slots Q (F0 m (pc) ls (.long (lI y) :: .long (lI x) :: rest)) := W.lcmp B.1 B.2.1 hdg1 (lv_if_gt B.1 B.2.1 hdg ht (fun q => kt ((lcm_gt.trans (lI_lt ⟨h.2, h.1⟩)).mp q)) (fun q => kf (fun q2 => q ((lcm_gt.trans (lI_lt ⟨h.2, h.1⟩)).mpr q2))))
theorem mv_icmp_le (B : mw_C p s m args meth c cc nL own Ts D cl tys) {x y : Int} {off : Int} {tgt : Nat} (hdg : decode cc pc = .ok (.if_icmp .le off, 3)) (ht : (pc : Int) + off = (tgt : Int)) (h : ((-2147483648 ≤ x ∧ x ≤ 2147483647) ∧ (-2147483648 ≤ y ∧ y ≤ 2147483647))) (kt : x ≤ y → W p l e R s m args below meth c H locs cells slots Q (F0 m (tgt) ls (rest))) (kf : ¬ (x ≤ y) → W p l e R s m args below meth c H locs cells slots Q (F0 m (pc + 3) ls (rest))) : W p l e R s m args below meth c H locs cells slots Q (F0 m (pc) ls (.int (iI y) :: .int (iI x) :: rest)) := lv_icmp_le B.1 B.2.1 hdg ht (fun q => kt ((iI_le h).mp q)) (fun q => kf (fun q2 => q ((iI_le h).mpr q2)))
theorem mv_if_le (B : mw_C p s m args meth c cc nL own Ts D cl tys) {x : Int} {off : Int} {tgt : Nat} (hdg : decode cc pc = .ok (.ifCond .le off, 3)) (ht : (pc : Int) + off = (tgt : Int)) (h : -2147483648 ≤ x ∧ x ≤ 2147483647) (kt : x ≤ 0 → W p l e R s m args below meth c H locs cells slots Q (F0 m (tgt) ls (rest))) (kf : ¬ (x ≤ 0) → W p l e R s m args below meth c H locs cells slots Q (F0 m (pc + 3) ls (rest))) : W p l e R s m args below meth c H locs cells slots Q (F0 m (pc) ls (.int (iI x) :: rest)) := lv_if_le B.1 B.2.1 hdg ht (fun q => kt ((iI_le (b := 0) ⟨h, by decide⟩).mp q)) (fun q => kf (fun q2 => q ((iI_le (b := 0) ⟨h, by decide⟩).mpr q2)))
theorem mv_lcmp_le (B : mw_C p s m args meth c cc nL own Ts D cl tys) {x y : Int} {off : Int} {tgt : Nat} (hdg1 : decode cc pc = .ok (.lcmp, 1)) (hdg : decode cc (pc + 1) = .ok (.ifCond .le off, 3)) (ht : ((pc + 1 : Nat) : Int) + off = (tgt : Int)) (h : ((-9223372036854775808 ≤ x ∧ x ≤ 9223372036854775807) ∧ (-9223372036854775808 ≤ y ∧ y ≤ 9223372036854775807))) (kt : x ≤ y → W p l e R s m args below meth c H locs cells slots Q (F0 m (tgt) ls (rest))) (kf : ¬ (x ≤ y) → W p l e R s m args below meth c H locs cells slots Q (F0 m (pc + 4) ls (rest))) : W p l e R s m args below meth c H locs cells slots Q (F0 m (pc) ls (.long (lI y) :: .long (lI x) :: rest)) := W.lcmp B.1 B.2.1 hdg1 (lv_if_le B.1 B.2.1 hdg ht (fun q => kt (Int.not_lt.mp (fun q2 => Int32.not_lt.mpr q ((lcm_gt.trans (lI_lt ⟨h.2, h.1⟩)).mpr q2)))) (fun q => kf (fun q2 => q (Int32.not_lt.mp (fun q3 => Int.not_lt.mpr q2 ((lcm_gt.trans (lI_lt ⟨h.2, h.1⟩)).mp q3))))))
theorem mv_nmi {x : Int} (k : ∀ t : Int, t = x → W p l e R s m args below meth c H locs cells slots Q (F0 m (pc) ls (.int (iI t) :: rest))) : W p l e R s m args below meth c H locs cells slots Q (F0 m (pc) ls (.int (iI x) :: rest)) := k x rfl
theorem mv_nml {x : Int} (k : ∀ t : Int, t = x → W p l e R s m args below meth c H locs cells slots Q (F0 m (pc) ls (.long (lI t) :: rest))) : W p l e R s m args below meth c H locs cells slots Q (F0 m (pc) ls (.long (lI x) :: rest)) := k x rfl
end MV
end
section
/-! THE WORLD AS A MAP: which cell lies at which address; no places, and two names may be one cell -/
abbrev mw_M : Type := Nat → Option va_E
def mw_set (f : mw_M) (a : Nat) (e : va_E) : mw_M := fun q => if q = a then some e else f q
theorem mw_set_self (f : mw_M) (a : Nat) (e : va_E) : mw_set f a e a = some e := by simp [mw_set]
theorem mw_set_ne (f : mw_M) {a q : Nat} (e : va_E) (h : q ≠ a) : mw_set f a e q = f q := by simp [mw_set, h]
def mw_A (f : mw_M) (sz : Nat) : Nat → Prop := fun q => (∃ e : va_E, f q = some e) ∨ sz ≤ q
def mw_R (f : mw_M) (ws : va_W) : Prop := ∀ (a : Nat) (e : va_E), f a = some e ↔ ∃ k : Nat, ws[k]? = some (a, e)
def mw_I (D : va_G) (cl : List vw_C) (A : Nat → Prop) (s : State) (H : Heap) (locs : List Loc) (f : mw_M) : Prop := ∃ ws : va_W, va_P D cl ws H ∧ va_D A ws ∧ va_S A s.heap H locs ∧ mw_R f ws
def mw_B (D : va_G) (cl : List vw_C) (A : Nat → Prop) (f : mw_M) (t : State) : Prop := ∃ ws : va_W, va_P D cl ws t.heap ∧ va_D A ws ∧ mw_R f ws
def mw_Pre (D : va_G) (cl : List vw_C) (tys : List (ClassId × FieldType)) (S : (Nat → Prop) → State → Prop) (f : mw_M) (sz : Nat) (U : State) : Prop := U.heap.size = sz ∧ mw_B D cl (fun _ => True) f U ∧ va_K D cl tys U ∧ S (mw_A f sz) U
theorem mw_R.set {f : mw_M} {ws : va_W} {A : Nat → Prop} {k a : Nat} {e0 : va_E} (e1 : va_E) (h : mw_R f ws) (hD : va_D A ws) (hk : ws[k]? = some (a, e0)) : mw_R (mw_set f a e1) (ws.set k (a, e1)) := by
  intro b e
  have hlt : k < ws.length := (List.getElem?_eq_some_iff.mp hk).1
  have hself : (ws.set k (a, e1))[k]? = some (a, e1) := by rw [List.getElem?_set_self hlt]
  by_cases hb : b = a
  · subst hb
    rw [mw_set_self]
    constructor
    · intro h1
      cases h1
      exact ⟨k, hself⟩
    · intro ⟨j, hj⟩
      by_cases hjk : j = k
      · subst hjk
        rw [hself] at hj
        cases hj
        rfl
      · rw [List.getElem?_set_ne (Ne.symm hjk)] at hj
        exact absurd (hD.1 j k _ _ hj hk rfl) hjk
  · rw [mw_set_ne _ _ hb, h b e]
    constructor
    · intro ⟨j, hj⟩
      have hjk : j ≠ k := fun q => by
        subst q
        rw [hk] at hj
        cases hj
        exact hb rfl
      exact ⟨j, by rw [List.getElem?_set_ne (Ne.symm hjk)]; exact hj⟩
    · intro ⟨j, hj⟩
      by_cases hjk : j = k
      · subst hjk
        rw [hself] at hj
        cases hj
        exact absurd rfl hb
      · rw [List.getElem?_set_ne (Ne.symm hjk)] at hj
        exact ⟨j, hj⟩
theorem mw_R.push {f : mw_M} {ws : va_W} {A : Nat → Prop} {a : Nat} {e1 : va_E} (h : mw_R f ws) (hD : va_D A (ws ++ [(a, e1)])) : mw_R (mw_set f a e1) (ws ++ [(a, e1)]) := by
  have hlast : (ws ++ [(a, e1)])[ws.length]? = some (a, e1) := by rw [List.getElem?_append_right (Nat.le_refl _), Nat.sub_self]; rfl
  have hold : ∀ (j : Nat) (q : Nat × va_E), ws[j]? = some q → (ws ++ [(a, e1)])[j]? = some q := fun j q hj => by
    rw [List.getElem?_append_left (List.getElem?_eq_some_iff.mp hj).1]; exact hj
  have hback : ∀ (j : Nat) (q : Nat × va_E), (ws ++ [(a, e1)])[j]? = some q → ws[j]? = some q ∨ q = (a, e1) := fun j q hj => by
    by_cases hl : j < ws.length
    · rw [List.getElem?_append_left hl] at hj
      exact Or.inl hj
    · rw [List.getElem?_append_right (by omega)] at hj
      have hz : j - ws.length < 1 := (List.getElem?_eq_some_iff.mp hj).1
      rw [show j - ws.length = 0 by omega] at hj
      cases hj
      exact Or.inr rfl
  intro b e
  by_cases hb : b = a
  · subst hb
    rw [mw_set_self]
    constructor
    · intro h1
      cases h1
      exact ⟨_, hlast⟩
    · intro ⟨j, hj⟩
      rcases hback j _ hj with h1 | h1
      · have := hD.1 j ws.length _ _ hj hlast rfl
        have := (List.getElem?_eq_some_iff.mp h1).1
        omega
      · cases h1
        rfl
  · rw [mw_set_ne _ _ hb, h b e]
    constructor
    · intro ⟨j, hj⟩
      exact ⟨j, hold j _ hj⟩
    · intro ⟨j, hj⟩
      rcases hback j _ hj with h1 | h1
      · exact ⟨j, h1⟩
      · cases h1
        exact absurd rfl hb
section MW
variable {p : Program} {l : Launch} {e : Env} {R : Room} {s : State} {m : MethodId} {args : Array Value} {below : List Frame} {meth : Method} {c : Code} {H : Heap} {locs : List Loc} {cells slots : Nat} {Q : State → Prop}
variable {cc : ByteArray} {nL : Nat} {own : String} {Ts : List Cond} {pc : Nat} {ls : Array Slot} {rest : List Value} {D : va_G} {cl : List vw_C} {tys : List (ClassId × FieldType)} {A : Nat → Prop} {f : mw_M} {a : Nat}
theorem mw_I.dom (hI : mw_I D cl A s H locs f) (hA : ∀ q, s.heap.size ≤ q → A q) : ∀ q, mw_A f H.size q → A q := by
  obtain ⟨ws, hP, hD, hS, hR⟩ := hI
  intro q h
  rcases h with ⟨e1, h⟩ | h
  · obtain ⟨k, hk⟩ := (hR q e1).mp h
    exact hD.2 k _ hk
  · exact hA q (Nat.le_trans hS.1 h)
theorem mw_I.sub (hI : mw_I D cl A s H locs f) : va_S A s.heap H locs := by
  obtain ⟨ws, hP, hD, hS, hR⟩ := hI
  exact hS
theorem mw_I.lt (hI : mw_I D cl A s H locs f) {e1 : va_E} (h : f a = some e1) : a < H.size := by
  obtain ⟨ws, hP, hD, hS, hR⟩ := hI
  obtain ⟨k, hk⟩ := (hR a e1).mp h
  exact (hP k _ hk).lt
theorem mw_get (B : mw_C p s m args meth c cc nL own Ts D cl tys) (hI : mw_I D cl A s H locs f) {C : String} {T : u_T} {N ci index : Nat} {fs : List Value} (ha : f a = some (.inr (ci, fs))) (hin : ∀ w ∈ u_ws C T N, w ∈ Ts) (hc : cl[ci]? = some (C, T, N)) (k : Nat) (hk : k < N) (hl : Cond.fieldLink own index (T k).1 (T k).2.1 (T k).2.2.1 ∈ Ts) {v : Value} (hv : fs[k]? = some v) (hdg : decode cc pc = .ok (.getfield index, 3))
    (kk : W p l e R s m args below meth c H locs cells slots Q (F0 m (pc + 3) ls (v :: rest))) : W p l e R s m args below meth c H locs cells slots Q (F0 m pc ls (.ref a :: rest)) := by
  obtain ⟨ws, hP, hD, hS, hR⟩ := hI
  obtain ⟨q0, he⟩ := (hR a _).mp ha
  exact va_get B.1 B.2.1 B.2.2.2.2.1 hin B.2.2.2.1 B.2.2.2.2.2.2 hP q0 he hc k hk (B.2.2.2.2.1 _ hl) (fun _ h9 => h9) hv hdg kk
theorem mw_put (B : mw_C p s m args meth c cc nL own Ts D cl tys) (hI : mw_I D cl A s H locs f) {C : String} {T : u_T} {N ci index : Nat} {fs : List Value} (ha : f a = some (.inr (ci, fs))) (hin : ∀ w ∈ u_ws C T N, w ∈ Ts) (ty0 : Nat → FieldType) (hty : ∀ k, k < N → parseFieldDescriptor (T k).2.2.1 = some (ty0 k)) (hnm : ∀ a, a < N → ∀ b, b < N → a ≠ b → (T a).2.1 ≠ (T b).2.1) (hc : cl[ci]? = some (C, T, N)) (k : Nat) (hk : k < N) (hl : Cond.fieldLink own index (T k).1 (T k).2.1 (T k).2.2.1 ∈ Ts) (hfin : (T k).2.2.2 = false) {v : Value} (hn : narrow (ty0 k) v = v) (hfit : fits (ty0 k) v = true) (hlen : k < fs.length) (hdg : decode cc pc = .ok (.putfield index, 3))
    (kk : ∀ (H1 : Heap) (locs1 : List Loc), mw_I D cl A s H1 locs1 (mw_set f a (.inr (ci, fs.set k v))) → W p l e R s m args below meth c H1 locs1 cells slots Q (F0 m (pc + 3) ls rest)) : W p l e R s m args below meth c H locs cells slots Q (F0 m pc ls (v :: .ref a :: rest)) := by
  obtain ⟨ws, hP, hD, hS, hR⟩ := hI
  obtain ⟨q0, he⟩ := (hR a _).mp ha
  exact va_put B.1 B.2.1 B.2.2.2.2.1 hin ty0 hty hnm B.2.2.2.1 B.2.2.2.2.2.2 hP hD hS q0 he hc k hk (B.2.2.2.2.1 _ hl) (fun _ h9 => h9) hfin (hty k hk) hn hfit hlen hdg (fun H1 locs1 hP1 hD1 hS1 => kk H1 locs1 ⟨_, hP1, hD1, hS1, hR.set _ hD he⟩)
theorem mw_putF (B : mw_C p s m args meth c cc nL own Ts D cl tys) (hI : mw_I D cl A s H locs f) {C : String} {T : u_T} {N ci index : Nat} {fs : List Value} (ha : f a = some (.inr (ci, fs))) (hin : ∀ w ∈ u_ws C T N, w ∈ Ts) (ty0 : Nat → FieldType) (hty : ∀ k, k < N → parseFieldDescriptor (T k).2.2.1 = some (ty0 k)) (hnm : ∀ a, a < N → ∀ b, b < N → a ≠ b → (T a).2.1 ≠ (T b).2.1) (hc : cl[ci]? = some (C, T, N)) (k : Nat) (hk : k < N) (hl : Cond.fieldLink own index (T k).1 (T k).2.1 (T k).2.2.1 ∈ Ts) (hfin : (T k).2.2.2 = true) (hin2 : meth.name = "<init>") (hdecl : (T k).1 = own) {v : Value} (hn : narrow (ty0 k) v = v) (hfit : fits (ty0 k) v = true) (hlen : k < fs.length) (hdg : decode cc pc = .ok (.putfield index, 3))
    (kk : ∀ (H1 : Heap) (locs1 : List Loc), mw_I D cl A s H1 locs1 (mw_set f a (.inr (ci, fs.set k v))) → W p l e R s m args below meth c H1 locs1 cells slots Q (F0 m (pc + 3) ls rest)) : W p l e R s m args below meth c H locs cells slots Q (F0 m pc ls (v :: .ref a :: rest)) := by
  obtain ⟨ws, hP, hD, hS, hR⟩ := hI
  obtain ⟨q0, he⟩ := (hR a _).mp ha
  exact va_putF B.1 B.2.1 B.2.2.2.2.1 hin ty0 hty hnm B.2.2.2.1 B.2.2.2.2.2.2 hP hD hS q0 he hc k hk (B.2.2.2.2.1 _ hl) (fun _ h9 => h9) hfin hin2 hdecl (hty k hk) hn hfit hlen hdg (fun H1 locs1 hP1 hD1 hS1 => kk H1 locs1 ⟨_, hP1, hD1, hS1, hR.set _ hD he⟩)
/-- an array of ints that holds the integers g -/
abbrev mw_ar (cI : ClassId) (n : Nat) (g : Nat → Int) : va_E := .inl (cI, n, .inl (fun j => iI (g j)))
def upI (g : Nat → Int) (k : Nat) (x : Int) : Nat → Int := fun j => if j = k then x else g j
theorem upI_self (g : Nat → Int) (k : Nat) (x : Int) : upI g k x k = x := by simp [upI]
theorem upI_ne (g : Nat → Int) {k j : Nat} (x : Int) (h : j ≠ k) : upI g k x j = g j := by simp [upI, h]
theorem upd_upI (g : Nat → Int) (k : Nat) (x : Int) : upd (fun j => iI (g j)) k (iI x) = fun j => iI (upI g k x j) := by
  funext j
  by_cases h : j = k
  · simp [upd, upI, h]
  · simp [upd, upI, h]
theorem mw_iald (B : mw_C p s m args meth c cc nL own Ts D cl tys) (hI : mw_I D cl A s H locs f) (t0 : Nat) {cI : ClassId} {n : Nat} {g : Nat → Int} (ha : f a = some (mw_ar cI n g)) (ht : tys[t0]? = some (cI, .int)) {x : Int} (i : Nat) (hi : x = (i : Int)) (hin : i < n) (hn : n ≤ 2147483647) (hdg : decode cc pc = .ok (.iaload, 1))
    (kk : W p l e R s m args below meth c H locs cells slots Q (F0 m (pc + 1) ls (.int (iI (g i)) :: rest))) : W p l e R s m args below meth c H locs cells slots Q (F0 m pc ls (.int (iI x) :: .ref a :: rest)) := by
  subst hi
  obtain ⟨ws, hP, hD, hS, hR⟩ := hI
  obtain ⟨q0, he⟩ := (hR a _).mp ha
  refine va_iald B.1 B.2.1 B.2.2.2.2.2.2 hP q0 t0 he ht (iI_in hin hn) hdg ?_
  rw [iI_clamp (by omega)]
  exact kk
theorem mw_iast (B : mw_C p s m args meth c cc nL own Ts D cl tys) (hI : mw_I D cl A s H locs f) (t0 : Nat) {cI : ClassId} {n : Nat} {g : Nat → Int} (ha : f a = some (mw_ar cI n g)) (ht : tys[t0]? = some (cI, .int)) {x v : Int} (i : Nat) (hi : x = (i : Int)) (hin : i < n) (hn : n ≤ 2147483647) (hdg : decode cc pc = .ok (.iastore, 1))
    (kk : ∀ (H1 : Heap) (locs1 : List Loc), mw_I D cl A s H1 locs1 (mw_set f a (mw_ar cI n (upI g i v))) → W p l e R s m args below meth c H1 locs1 cells slots Q (F0 m (pc + 1) ls rest)) : W p l e R s m args below meth c H locs cells slots Q (F0 m pc ls (.int (iI v) :: .int (iI x) :: .ref a :: rest)) := by
  subst hi
  obtain ⟨ws, hP, hD, hS, hR⟩ := hI
  obtain ⟨q0, he⟩ := (hR a _).mp ha
  refine va_iast B.1 B.2.1 B.2.2.2.2.2.2 hP hD hS q0 t0 he ht (iI_in hin hn) hdg (fun H1 locs1 hP1 hD1 hS1 => ?_)
  rw [iI_clamp (by omega), upd_upI] at hP1 hD1
  exact kk H1 locs1 ⟨_, hP1, hD1, hS1, hR.set _ hD he⟩
theorem mw_alen (B : mw_C p s m args meth c cc nL own Ts D cl tys) (hI : mw_I D cl A s H locs f) (t0 : Nat) {cI : ClassId} {x : vp_A} (ha : f a = some (.inl (cI, x))) {ty : FieldType} (ht : tys[t0]? = some (cI, ty)) (hdg : decode cc pc = .ok (.arraylength, 1))
    (kk : W p l e R s m args below meth c H locs cells slots Q (F0 m (pc + 1) ls (.int (iI (x.1 : Int)) :: rest))) : W p l e R s m args below meth c H locs cells slots Q (F0 m pc ls (.ref a :: rest)) := by
  obtain ⟨ws, hP, hD, hS, hR⟩ := hI
  obtain ⟨q0, he⟩ := (hR a _).mp ha
  exact va_alen B.1 B.2.1 B.2.2.2.2.2.2 hP q0 t0 he ht (Int32.ofInt_eq_ofNat.symm) hdg kk
/-- an array of references -/
abbrev mw_qr (cA : ClassId) (n : Nat) (g : Nat → Option Nat) : va_E := .inl (cA, n, .inr (.inr (.inr (.inr g))))
theorem mw_aald (B : mw_C p s m args meth c cc nL own Ts D cl tys) (hI : mw_I D cl A s H locs f) (t0 : Nat) {cA : ClassId} {C : String} {n : Nat} {g : Nat → Option Nat} (ha : f a = some (mw_qr cA n g)) (ht : tys[t0]? = some (cA, .object C)) {x : Int} (i : Nat) (hi : x = (i : Int)) (hin : i < n) (hn : n ≤ 2147483647) {y : Nat} (hy : g i = some y) (hdg : decode cc pc = .ok (.aaload, 1))
    (kk : W p l e R s m args below meth c H locs cells slots Q (F0 m (pc + 1) ls (.ref y :: rest))) : W p l e R s m args below meth c H locs cells slots Q (F0 m pc ls (.int (iI x) :: .ref a :: rest)) := by
  subst hi
  obtain ⟨ws, hP, hD, hS, hR⟩ := hI
  obtain ⟨q0, he⟩ := (hR a _).mp ha
  refine va_aldq B.1 B.2.1 B.2.2.2.2.2.2 hP q0 t0 he ht (iI_in hin hn) hdg ?_
  rw [iI_clamp (by omega), hy]
  exact kk
theorem mw_aast (B : mw_C p s m args meth c cc nL own Ts D cl tys) (hI : mw_I D cl A s H locs f) (t0 ci : Nat) {cA : ClassId} {r : vw_C} {n v : Nat} {vs : List Value} {g : Nat → Option Nat} (ha : f a = some (mw_qr cA n g)) (ht : tys[t0]? = some (cA, .object r.1)) (hv : f v = some (.inr (ci, vs))) (hc : cl[ci]? = some r) {x : Int} (i : Nat) (hi : x = (i : Int)) (hin : i < n) (hn : n ≤ 2147483647) (hdg : decode cc pc = .ok (.aastore, 1))
    (kk : ∀ (H1 : Heap) (locs1 : List Loc), mw_I D cl A s H1 locs1 (mw_set f a (mw_qr cA n (va_up g i (some v)))) → W p l e R s m args below meth c H1 locs1 cells slots Q (F0 m (pc + 1) ls rest)) : W p l e R s m args below meth c H locs cells slots Q (F0 m pc ls (.ref v :: .int (iI x) :: .ref a :: rest)) := by
  subst hi
  obtain ⟨ws, hP, hD, hS, hR⟩ := hI
  obtain ⟨q0, he⟩ := (hR a _).mp ha
  obtain ⟨q1, hq1⟩ := (hR v _).mp hv
  refine va_astq B.1 B.2.1 B.2.2.2.2.2.2 hP hD hS q0 t0 q1 ci he ht hq1 hc (iI_in hin hn) hdg (fun H1 locs1 hP1 hD1 hS1 => ?_)
  rw [iI_clamp (by omega)] at hP1 hD1
  exact kk H1 locs1 ⟨_, hP1, hD1, hS1, hR.set _ hD he⟩
/-- a call's run, and the world behind it -/
theorem mw_calli {rest0 st0 : List Value} {av : Array Value} {mc ms : Nat} {post : Int32 → mw_M → Prop} (hI : mw_I D cl A s H locs f) (hA : ∀ q, s.heap.size ≤ q → A q) (hr : va_Run p l e R s m args below meth c H locs cells slots mc ms (F0 m pc ls st0) rest0 (va_Qi post (mw_B D cl (mw_A f H.size)) (mw_A f H.size) av) (mw_A f H.size))
    (kk : ∀ (r : Int32) (f1 : mw_M) (H1 : Heap) (locs1 : List Loc), post r f1 → mw_I D cl A s H1 locs1 f1 → W p l e R s m args below meth c H1 locs1 (cells + mc) (slots + ms) Q (F0 m (pc + 3) ls (.int r :: rest0))) : W p l e R s m args below meth c H locs cells slots Q (F0 m pc ls st0) := by
  have hF := hI.dom hA
  refine va_calli hr hI.sub (fun q _ h => hF q h) hF (fun r u t H1 locs1 ht hvm hw hB hz hk hS1 => ?_)
  obtain ⟨ws1, hP1, hD1, hR1⟩ := hB
  rw [ht] at hP1
  exact kk r u H1 locs1 hw ⟨ws1, hP1, hD1.weaken (fun _ _ _ h => hF _ h), hS1, hR1⟩
theorem mw_calll {rest0 st0 : List Value} {av : Array Value} {mc ms : Nat} {post : Int64 → mw_M → Prop} (hI : mw_I D cl A s H locs f) (hA : ∀ q, s.heap.size ≤ q → A q) (hr : va_Run p l e R s m args below meth c H locs cells slots mc ms (F0 m pc ls st0) rest0 (va_Ql post (mw_B D cl (mw_A f H.size)) (mw_A f H.size) av) (mw_A f H.size))
    (kk : ∀ (r : Int64) (f1 : mw_M) (H1 : Heap) (locs1 : List Loc), post r f1 → mw_I D cl A s H1 locs1 f1 → W p l e R s m args below meth c H1 locs1 (cells + mc) (slots + ms) Q (F0 m (pc + 3) ls (.long r :: rest0))) : W p l e R s m args below meth c H locs cells slots Q (F0 m pc ls st0) := by
  have hF := hI.dom hA
  refine va_calll hr hI.sub (fun q _ h => hF q h) hF (fun r u t H1 locs1 ht hvm hw hB hz hk hS1 => ?_)
  obtain ⟨ws1, hP1, hD1, hR1⟩ := hB
  rw [ht] at hP1
  exact kk r u H1 locs1 hw ⟨ws1, hP1, hD1.weaken (fun _ _ _ h => hF _ h), hS1, hR1⟩
theorem mw_callv {rest0 st0 : List Value} {av : Array Value} {mc ms : Nat} {post : mw_M → Prop} (hI : mw_I D cl A s H locs f) (hA : ∀ q, s.heap.size ≤ q → A q) (hr : va_Run p l e R s m args below meth c H locs cells slots mc ms (F0 m pc ls st0) rest0 (va_Qv post (mw_B D cl (mw_A f H.size)) (mw_A f H.size) av) (mw_A f H.size))
    (kk : ∀ (f1 : mw_M) (H1 : Heap) (locs1 : List Loc), post f1 → mw_I D cl A s H1 locs1 f1 → W p l e R s m args below meth c H1 locs1 (cells + mc) (slots + ms) Q (F0 m (pc + 3) ls rest0)) : W p l e R s m args below meth c H locs cells slots Q (F0 m pc ls st0) := by
  have hF := hI.dom hA
  refine va_callv hr hI.sub (fun q _ h => hF q h) hF (fun u t H1 locs1 ht hvm hw hB hz hk hS1 => ?_)
  obtain ⟨ws1, hP1, hD1, hR1⟩ := hB
  rw [ht] at hP1
  exact kk u H1 locs1 hw ⟨ws1, hP1, hD1.weaken (fun _ _ _ h => hF _ h), hS1, hR1⟩
/-- an answer that is a cell: the state is the map and the address -/
theorem mw_callr {rest0 st0 : List Value} {av : Array Value} {mc ms : Nat} {post : Nat × mw_M → Prop} (hI : mw_I D cl A s H locs f) (hA : ∀ q, s.heap.size ≤ q → A q) (hr : va_Run p l e R s m args below meth c H locs cells slots mc ms (F0 m pc ls st0) rest0 (va_Qr post (fun u a t => a = u.1 ∧ mw_B D cl (mw_A f H.size) u.2 t) (mw_A f H.size) av) (mw_A f H.size))
    (kk : ∀ (r : Nat) (f1 : mw_M) (H1 : Heap) (locs1 : List Loc), post (r, f1) → mw_I D cl A s H1 locs1 f1 → W p l e R s m args below meth c H1 locs1 (cells + mc) (slots + ms) Q (F0 m (pc + 3) ls (.ref r :: rest0))) : W p l e R s m args below meth c H locs cells slots Q (F0 m pc ls st0) := by
  have hF := hI.dom hA
  refine va_callr hr hI.sub (fun q _ h => hF q h) hF (fun u a1 t H1 locs1 ht hvm hw hB hz hk hS1 => ?_)
  obtain ⟨rfl, ws1, hP1, hD1, hR1⟩ := hB
  rw [ht] at hP1
  exact kk u.1 u.2 H1 locs1 hw ⟨ws1, hP1, hD1.weaken (fun _ _ _ h => hF _ h), hS1, hR1⟩
/-- what a callee may take as given -/
theorem mw_pre {S : (Nat → Prop) → State → Prop} {av : List Value} (B : mw_C p s m args meth c cc nL own Ts D cl tys) (hI : mw_I D cl A s H locs f) (hSt : ∀ U : State, U.heap = H → s.WarmedH U.vm → S (mw_A f H.size) U) : ∀ U : State, U.heap = H → s.WarmedH U.vm → va_Pc av (mw_Pre D cl tys S f H.size) av.toArray U := by
  obtain ⟨ws, hP, hD, hS, hR⟩ := hI
  intro U hU hW
  exact ⟨rfl, by rw [hU], ⟨ws, by rw [hU]; exact hP, hD.weaken (fun _ _ _ _ => trivial), hR⟩, va_K.moved hW.alike B.2.2.2.2.2.2, hSt U hU hW⟩
theorem mw_blind {S : (Nat → Prop) → State → Prop} {av : List Value} {sz : Nat} (hS : ∀ (A : Nat → Prop) (u U : State), u.heap = U.heap → u.vm.Alike U.vm → u.vm = U.vm → S A u → S A U) : FrameBlind (va_Pc av (mw_Pre D cl tys S f sz)) := by
  intro a U g mk q
  obtain ⟨q0, q1, q2, q3, q4⟩ := q
  exact ⟨q0, q1, q2, va_K.moved (u := U) (U := U.calling g mk a) (Vm.Alike.refl U.vm) q3, hS _ U (U.calling g mk a) rfl (Vm.Alike.refl U.vm) rfl q4⟩
theorem mw_recv (B : mw_C p s m args meth c cc nL own Ts D cl tys) (hI : mw_I D cl A s H locs f) {q : vw_C} {ci : Nat} {fs : List Value} (ha : f a = some (.inr (ci, fs))) (hc : cl[ci]? = some q) : ∃ cell : Cell, H[a]? = some cell ∧ cell.vm.isStatics = false ∧ s.vm.findClass q.1 = some cell.cls := by
  obtain ⟨ws, hP, hD, hS, hR⟩ := hI
  obtain ⟨q0, he⟩ := (hR a _).mp ha
  exact va_recv B.2.2.2.2.2.2 hP hc he
end MW
end
section
/-! WHAT LIES OUTSIDE THE WORLD AND STAYS: the class's two tables, and words that no list of words carries -/
abbrev tyL (kA : Nat → ClassId) : List (ClassId × FieldType) := [(kA 0, .int), (kA 1, .object "BigDesk$Whole"), (kA 2, .long)]
def tn_ (i : Nat) : Int := [1, 10, 100, 1000, 10000, 100000].getD i 0
def fc_ (i : Nat) : Int := [8, 8, 5, 5, 5, 5, 5, 5].getD i 0
def st_T (n : String) (N : Nat) (g : Nat → Int) (A : Nat → Prop) (U : State) : Prop := ∃ t : Nat, va_Z "BigDesk" n "[I" (.ref t) A U U.heap ∧ va_T .int t N (fun j => .int (iI (g j))) A U U.heap
def st_S (A : Nat → Prop) (U : State) : Prop := st_T "TENS" 6 tn_ A U ∧ st_T "FACTORS_OF_BASE" 8 fc_ A U ∧ va_AO "BigDesk$Whole" U ∧ va_Nw (.fieldLinkNest "BigDesk$Whole" 95 "BigDesk" "TENS" "[I" "BigDesk") U ∧ va_Nw (.fieldLinkNest "BigDesk$Whole" 98 "BigDesk" "FACTORS_OF_BASE" "[I" "BigDesk") U
theorem st_T.moved {n : String} {N : Nat} {g : Nat → Int} {A : Nat → Prop} {u U : State} (hh : u.heap = U.heap) (hvm : u.vm.Alike U.vm) (h : st_T n N g A u) : st_T n N g A U := by
  obtain ⟨t, h1, h2⟩ := h
  exact ⟨t, by rw [← hh]; exact h1.moved hvm, by rw [← hh]; exact h2.moved hvm⟩
theorem st_T.call {n : String} {N : Nat} {g : Nat → Int} {A A1 : Nat → Prop} {s U : State} {H : Heap} {locs : List Loc} (h : st_T n N g A s) (hS : va_S A s.heap H locs) (hAB : ∀ q, A1 q → A q) (hU : U.heap = H) (hvm : s.vm.Alike U.vm) : st_T n N g A1 U := by
  obtain ⟨t, h1, h2⟩ := h
  refine ⟨t, ?_, ?_⟩
  · rw [hU]; exact ((h1.kept (fun a h3 h4 => hS.2.1 a h3 h4)).narrow hAB).moved hvm
  · rw [hU]; exact ((h2.kept (fun a h3 h4 => hS.2.1 a h3 h4)).narrow hAB).moved hvm
theorem st_S.blind (A : Nat → Prop) (u U : State) (hh : u.heap = U.heap) (hvm : u.vm.Alike U.vm) (hv2 : u.vm = U.vm) (h : st_S A u) : st_S A U := by
  obtain ⟨h1, h2, h3, h4⟩ := h
  exact ⟨h1.moved hh hvm, h2.moved hh hvm, h3.moved hvm, h4.1.same rfl hv2, h4.2.same rfl hv2⟩
theorem st_S.call {D : va_G} {cl : List vw_C} {A : Nat → Prop} {s : State} {H : Heap} {locs : List Loc} {f : mw_M} (h : st_S A s) (hI : mw_I D cl A s H locs f) (hA : ∀ q, s.heap.size ≤ q → A q) : ∀ U : State, U.heap = H → s.WarmedH U.vm → st_S (mw_A f H.size) U := by
  obtain ⟨h1, h2, h3, h4⟩ := h
  intro U hU hW
  exact ⟨h1.call hI.sub (hI.dom hA) hU hW.alike, h2.call hI.sub (hI.dom hA) hU hW.alike, h3.moved hW.alike, h4.1.warmF hW, h4.2.warmF hW⟩
end
section
/-! A METHOD'S START AND ITS END, over the map -/
section MS
variable {p : Program} {l : Launch} {e : Env} {R : Room} {s : State} {m : MethodId} {args : Array Value} {below : List Frame} {meth : Method} {c : Code} {H : Heap} {locs : List Loc} {cells slots : Nat} {Q : State → Prop}
variable {cc : ByteArray} {nL : Nat} {own : String} {Ts : List Cond} {pc : Nat} {ls : Array Slot} {rest : List Value} {D : va_G} {cl : List vw_C} {tys : List (ClassId × FieldType)} {A : Nat → Prop} {f : mw_M} {a : Nat}
theorem mw_I.B (hI : mw_I D cl A s H locs f) {t : State} (ht : t.heap = H) : mw_B D cl A f t := by
  obtain ⟨ws, hP, hD, hS, hR⟩ := hI
  exact ⟨ws, by rw [ht]; exact hP, hD, hR⟩
abbrev mw_Mi (l : Launch) (y : MethodName) (ws : List Cond) (rm : Room) (D : va_G) (cl : List vw_C) (tys : List (ClassId × FieldType)) (S : (Nat → Prop) → State → Prop) (av : List Value) (f : mw_M) (sz : Nat) (post : Int32 → mw_M → Prop) (mc ms : Nat) : Prop := Met l y ws rm (va_Pc av (mw_Pre D cl tys S f sz)) (va_Qi post (mw_B D cl (mw_A f sz)) (mw_A f sz)) mc ms (mw_A f sz)
theorem mw_ofi {y : MethodName} {ws Ts : List Cond} {rm : Room} {S : (Nat → Prop) → State → Prop} {av : List Value} {sz mc ms : Nat} {post : Int32 → mw_M → Prop} {maxL : Nat} {ret : Option FieldType} (hy : plainName y.cls = true) (hw : ws = Cond.code y cc maxL ret :: Ts) (hlen : (lg_sl av).length ≤ maxL)
    (body : ∀ (p : Program) (e : Env) (s : State) (m : MethodId) (below : List Frame) (meth : Method) (c : Code) (A : Nat → Prop) (ls : Array Slot) (Q : State → Prop), Q = MQ below (va_Qi post (mw_B D cl A) A) av.toArray s mc ms A → mw_C p s m av.toArray meth c cc maxL y.cls Ts D cl tys → meth.sig.returnType = ret → meth.name = y.name → (∀ q, s.heap.size ≤ q → A q) → mw_I D cl A s s.heap [] f → S A s → lv_has ls maxL (lv_args 0 av) →
      W p l e rm s m av.toArray below meth c s.heap [] 0 0 Q (F0 m 0 ls [])) : mw_Mi l y ws rm D cl tys S av f sz post mc ms := by
  refine Met.ofW (cc := cc) (maxL := maxL) (ret := ret) hy hw ?_
  intro p e s m args below meth c s₁ B hml hv
  obtain ⟨rfl, hsz, ⟨ws1, hP, hD0, hR⟩, hK, hS⟩ := hv
  have hts := atoms_spec (ws := ws) B.pre
  subst hsz
  have hDA : va_D (mw_A f s.heap.size) ws1 := ⟨hD0.1, fun k q hk => Or.inl ⟨q.2, (hR q.1 q.2).mpr ⟨k, hk⟩⟩⟩
  have hl := lv_entry av (n := maxL) hlen
  rw [lg_entry_eq]
  exact body p e s m below meth c (mw_A f s.heap.size) _ _ rfl ⟨B.exec, B.bytes, hml, findClass_of_methodNamed B.named, fun w h => hts w (by rw [hw]; exact List.mem_cons_of_mem _ h), B.notSynchronized, hK⟩ B.returns (name_of_methodNamed B.named B.method).1 (fun q h => Or.inr h) ⟨ws1, hP, hDA, va_S.rf, hR⟩ hS hl
abbrev mw_Ml (l : Launch) (y : MethodName) (ws : List Cond) (rm : Room) (D : va_G) (cl : List vw_C) (tys : List (ClassId × FieldType)) (S : (Nat → Prop) → State → Prop) (av : List Value) (f : mw_M) (sz : Nat) (post : Int64 → mw_M → Prop) (mc ms : Nat) : Prop := Met l y ws rm (va_Pc av (mw_Pre D cl tys S f sz)) (va_Ql post (mw_B D cl (mw_A f sz)) (mw_A f sz)) mc ms (mw_A f sz)
theorem mw_ofl {y : MethodName} {ws Ts : List Cond} {rm : Room} {S : (Nat → Prop) → State → Prop} {av : List Value} {sz mc ms : Nat} {post : Int64 → mw_M → Prop} {maxL : Nat} {ret : Option FieldType} (hy : plainName y.cls = true) (hw : ws = Cond.code y cc maxL ret :: Ts) (hlen : (lg_sl av).length ≤ maxL)
    (body : ∀ (p : Program) (e : Env) (s : State) (m : MethodId) (below : List Frame) (meth : Method) (c : Code) (A : Nat → Prop) (ls : Array Slot) (Q : State → Prop), Q = MQ below (va_Ql post (mw_B D cl A) A) av.toArray s mc ms A → mw_C p s m av.toArray meth c cc maxL y.cls Ts D cl tys → meth.sig.returnType = ret → meth.name = y.name → (∀ q, s.heap.size ≤ q → A q) → mw_I D cl A s s.heap [] f → S A s → lv_has ls maxL (lv_args 0 av) →
      W p l e rm s m av.toArray below meth c s.heap [] 0 0 Q (F0 m 0 ls [])) : mw_Ml l y ws rm D cl tys S av f sz post mc ms := by
  refine Met.ofW (cc := cc) (maxL := maxL) (ret := ret) hy hw ?_
  intro p e s m args below meth c s₁ B hml hv
  obtain ⟨rfl, hsz, ⟨ws1, hP, hD0, hR⟩, hK, hS⟩ := hv
  have hts := atoms_spec (ws := ws) B.pre
  subst hsz
  have hDA : va_D (mw_A f s.heap.size) ws1 := ⟨hD0.1, fun k q hk => Or.inl ⟨q.2, (hR q.1 q.2).mpr ⟨k, hk⟩⟩⟩
  have hl := lv_entry av (n := maxL) hlen
  rw [lg_entry_eq]
  exact body p e s m below meth c (mw_A f s.heap.size) _ _ rfl ⟨B.exec, B.bytes, hml, findClass_of_methodNamed B.named, fun w h => hts w (by rw [hw]; exact List.mem_cons_of_mem _ h), B.notSynchronized, hK⟩ B.returns (name_of_methodNamed B.named B.method).1 (fun q h => Or.inr h) ⟨ws1, hP, hDA, va_S.rf, hR⟩ hS hl
abbrev mw_Mv (l : Launch) (y : MethodName) (ws : List Cond) (rm : Room) (D : va_G) (cl : List vw_C) (tys : List (ClassId × FieldType)) (S : (Nat → Prop) → State → Prop) (av : List Value) (f : mw_M) (sz : Nat) (post : mw_M → Prop) (mc ms : Nat) : Prop := Met l y ws rm (va_Pc av (mw_Pre D cl tys S f sz)) (va_Qv post (mw_B D cl (mw_A f sz)) (mw_A f sz)) mc ms (mw_A f sz)
theorem mw_ofv {y : MethodName} {ws Ts : List Cond} {rm : Room} {S : (Nat → Prop) → State → Prop} {av : List Value} {sz mc ms : Nat} {post : mw_M → Prop} {maxL : Nat} {ret : Option FieldType} (hy : plainName y.cls = true) (hw : ws = Cond.code y cc maxL ret :: Ts) (hlen : (lg_sl av).length ≤ maxL)
    (body : ∀ (p : Program) (e : Env) (s : State) (m : MethodId) (below : List Frame) (meth : Method) (c : Code) (A : Nat → Prop) (ls : Array Slot) (Q : State → Prop), Q = MQ below (va_Qv post (mw_B D cl A) A) av.toArray s mc ms A → mw_C p s m av.toArray meth c cc maxL y.cls Ts D cl tys → meth.sig.returnType = ret → meth.name = y.name → (∀ q, s.heap.size ≤ q → A q) → mw_I D cl A s s.heap [] f → S A s → lv_has ls maxL (lv_args 0 av) →
      W p l e rm s m av.toArray below meth c s.heap [] 0 0 Q (F0 m 0 ls [])) : mw_Mv l y ws rm D cl tys S av f sz post mc ms := by
  refine Met.ofW (cc := cc) (maxL := maxL) (ret := ret) hy hw ?_
  intro p e s m args below meth c s₁ B hml hv
  obtain ⟨rfl, hsz, ⟨ws1, hP, hD0, hR⟩, hK, hS⟩ := hv
  have hts := atoms_spec (ws := ws) B.pre
  subst hsz
  have hDA : va_D (mw_A f s.heap.size) ws1 := ⟨hD0.1, fun k q hk => Or.inl ⟨q.2, (hR q.1 q.2).mpr ⟨k, hk⟩⟩⟩
  have hl := lv_entry av (n := maxL) hlen
  rw [lg_entry_eq]
  exact body p e s m below meth c (mw_A f s.heap.size) _ _ rfl ⟨B.exec, B.bytes, hml, findClass_of_methodNamed B.named, fun w h => hts w (by rw [hw]; exact List.mem_cons_of_mem _ h), B.notSynchronized, hK⟩ B.returns (name_of_methodNamed B.named B.method).1 (fun q h => Or.inr h) ⟨ws1, hP, hDA, va_S.rf, hR⟩ hS hl
abbrev mw_Mr (l : Launch) (y : MethodName) (ws : List Cond) (rm : Room) (D : va_G) (cl : List vw_C) (tys : List (ClassId × FieldType)) (S : (Nat → Prop) → State → Prop) (av : List Value) (f : mw_M) (sz : Nat) (post : Nat × mw_M → Prop) (mc ms : Nat) : Prop := Met l y ws rm (va_Pc av (mw_Pre D cl tys S f sz)) (va_Qr post (fun u a t => a = u.1 ∧ mw_B D cl (mw_A f sz) u.2 t) (mw_A f sz)) mc ms (mw_A f sz)
theorem mw_ofr {y : MethodName} {ws Ts : List Cond} {rm : Room} {S : (Nat → Prop) → State → Prop} {av : List Value} {sz mc ms : Nat} {post : Nat × mw_M → Prop} {maxL : Nat} {ret : Option FieldType} (hy : plainName y.cls = true) (hw : ws = Cond.code y cc maxL ret :: Ts) (hlen : (lg_sl av).length ≤ maxL)
    (body : ∀ (p : Program) (e : Env) (s : State) (m : MethodId) (below : List Frame) (meth : Method) (c : Code) (A : Nat → Prop) (ls : Array Slot) (Q : State → Prop), Q = MQ below (va_Qr post (fun u a t => a = u.1 ∧ mw_B D cl A u.2 t) A) av.toArray s mc ms A → mw_C p s m av.toArray meth c cc maxL y.cls Ts D cl tys → meth.sig.returnType = ret → meth.name = y.name → (∀ q, s.heap.size ≤ q → A q) → mw_I D cl A s s.heap [] f → S A s → lv_has ls maxL (lv_args 0 av) →
      W p l e rm s m av.toArray below meth c s.heap [] 0 0 Q (F0 m 0 ls [])) : mw_Mr l y ws rm D cl tys S av f sz post mc ms := by
  refine Met.ofW (cc := cc) (maxL := maxL) (ret := ret) hy hw ?_
  intro p e s m args below meth c s₁ B hml hv
  obtain ⟨rfl, hsz, ⟨ws1, hP, hD0, hR⟩, hK, hS⟩ := hv
  have hts := atoms_spec (ws := ws) B.pre
  subst hsz
  have hDA : va_D (mw_A f s.heap.size) ws1 := ⟨hD0.1, fun k q hk => Or.inl ⟨q.2, (hR q.1 q.2).mpr ⟨k, hk⟩⟩⟩
  have hl := lv_entry av (n := maxL) hlen
  rw [lg_entry_eq]
  exact body p e s m below meth c (mw_A f s.heap.size) _ _ rfl ⟨B.exec, B.bytes, hml, findClass_of_methodNamed B.named, fun w h => hts w (by rw [hw]; exact List.mem_cons_of_mem _ h), B.notSynchronized, hK⟩ B.returns (name_of_methodNamed B.named B.method).1 (fun q h => Or.inr h) ⟨ws1, hP, hDA, va_S.rf, hR⟩ hS hl
theorem mw_iret {post : Int32 → mw_M → Prop} {v : Int32} (B : mw_C p s m args meth c cc nL own Ts D cl tys) (hQ : Q = MQ below (va_Qi post (mw_B D cl A) A) args s cells slots A) (hr : meth.sig.returnType = some .int) (hI : mw_I D cl A s H locs f) (hp : post v f) (hdg : decode cc pc = .ok (.ireturn, 1)) : W p l e R s m args below meth c H locs cells slots Q (F0 m pc ls [.int v]) :=
  hQ ▸ W.iret (hlocks := B.2.2.2.2.2.1) B.1 B.2.1 hr (fun t ht hW => ⟨⟨v, f, rfl, hp, hI.B ht⟩, hI.sub.F ht⟩) hI.sub.2.2 hdg
theorem mw_zret {post : Int32 → mw_M → Prop} {v : Int32} (B : mw_C p s m args meth c cc nL own Ts D cl tys) (hQ : Q = MQ below (va_Qi post (mw_B D cl A) A) args s cells slots A) (hr : meth.sig.returnType = some .boolean) (hn : narrow .boolean (.int v) = .int v) (hI : mw_I D cl A s H locs f) (hp : post v f) (hdg : decode cc pc = .ok (.ireturn, 1)) : W p l e R s m args below meth c H locs cells slots Q (F0 m pc ls [.int v]) :=
  hQ ▸ W.zret (hlocks := B.2.2.2.2.2.1) B.1 B.2.1 hr hn (fun t ht hW => ⟨⟨v, f, rfl, hp, hI.B ht⟩, hI.sub.F ht⟩) hI.sub.2.2 hdg
theorem mw_lret {post : Int64 → mw_M → Prop} {v : Int64} (B : mw_C p s m args meth c cc nL own Ts D cl tys) (hQ : Q = MQ below (va_Ql post (mw_B D cl A) A) args s cells slots A) (hr : meth.sig.returnType = some .long) (hI : mw_I D cl A s H locs f) (hp : post v f) (hdg : decode cc pc = .ok (.lreturn, 1)) : W p l e R s m args below meth c H locs cells slots Q (F0 m pc ls [.long v]) :=
  hQ ▸ W.lret (hlocks := B.2.2.2.2.2.1) B.1 B.2.1 hr (fun t ht hW => ⟨⟨v, f, rfl, hp, hI.B ht⟩, hI.sub.F ht⟩) hI.sub.2.2 hdg
theorem mw_vret {post : mw_M → Prop} (B : mw_C p s m args meth c cc nL own Ts D cl tys) (hQ : Q = MQ below (va_Qv post (mw_B D cl A) A) args s cells slots A) (hr : meth.sig.returnType = none) (hI : mw_I D cl A s H locs f) (hp : post f) (hdg : decode cc pc = .ok (.return_, 1)) : W p l e R s m args below meth c H locs cells slots Q (F0 m pc ls []) :=
  hQ ▸ W.vret (hlocks := B.2.2.2.2.2.1) B.1 B.2.1 hr (fun t ht hW => ⟨⟨f, rfl, hp, hI.B ht⟩, hI.sub.F ht⟩) hI.sub.2.2 hdg
theorem mw_aret {post : Nat × mw_M → Prop} {v : Nat} {rt : String} (B : mw_C p s m args meth c cc nL own Ts D cl tys) (hQ : Q = MQ below (va_Qr post (fun u a t => a = u.1 ∧ mw_B D cl A u.2 t) A) args s cells slots A) (hr : meth.sig.returnType = some (.object rt)) (hI : mw_I D cl A s H locs f) (hp : post (v, f)) (hdg : decode cc pc = .ok (.areturn, 1)) : W p l e R s m args below meth c H locs cells slots Q (F0 m pc ls [.ref v]) :=
  hQ ▸ W.aret (hlocks := B.2.2.2.2.2.1) B.1 B.2.1 hr (Or.inl ⟨_, rfl⟩) (Or.inr ⟨_, rfl⟩) (fun t ht hW => ⟨⟨(v, f), v, rfl, hp, rfl, hI.B ht⟩, hI.sub.F ht⟩) hI.sub.2.2 hdg
end MS
end
section
/-! POSITIONS: the value of a row of parts, base a million -/
def dv (g : Nat → Int) : Nat → Int
  | 0 => 0
  | n + 1 => dv g n + g n * 1000000 ^ n
theorem dv_0 (g : Nat → Int) : dv g 0 = 0 := rfl
theorem dv_s (g : Nat → Int) (n : Nat) : dv g (n + 1) = dv g n + g n * 1000000 ^ n := rfl
theorem bp_s (n : Nat) : (1000000 : Int) ^ (n + 1) = 1000000 ^ n * 1000000 := Int.pow_succ _ _
theorem bp_pos (n : Nat) : (0 : Int) < 1000000 ^ n := Int.pow_pos (by decide)
theorem bp_le {a b : Nat} (h : a ≤ b) : (1000000 : Int) ^ a ≤ 1000000 ^ b := by
  induction h with
  | refl => exact Int.le_refl _
  | step h ih =>
    rename_i k
    have e := bp_s k
    have h2 := bp_pos k
    show (1000000 : Int) ^ a ≤ 1000000 ^ (k + 1)
    omega
theorem bp_add (a b : Nat) : (1000000 : Int) ^ (a + b) = 1000000 ^ a * 1000000 ^ b := Int.pow_add _ _ _
theorem dv_congr {g h : Nat → Int} {n : Nat} (e : ∀ i, i < n → g i = h i) : dv g n = dv h n := by
  induction n with
  | zero => rfl
  | succ n ih => rw [dv_s, dv_s, ih (fun i hi => e i (by omega)), e n (by omega)]
/-- its parts are parts -/
def dg (g : Nat → Int) (n : Nat) : Prop := ∀ i, i < n → 0 ≤ g i ∧ g i < 1000000
theorem dg.sub {g : Nat → Int} {n k : Nat} (h : dg g n) (hk : k ≤ n) : dg g k := fun i hi => h i (by omega)
theorem dg.up {g : Nat → Int} {n k : Nat} {x : Int} (h : dg g n) (hx : 0 ≤ x ∧ x < 1000000) : dg (upI g k x) n := fun i hi => by
  by_cases q : i = k
  · subst q; rw [upI_self]; exact hx
  · rw [upI_ne _ _ q]; exact h i hi
theorem dg.up_s {g : Nat → Int} {n : Nat} {x : Int} (h : dg g n) (hx : 0 ≤ x ∧ x < 1000000) : dg (upI g n x) (n + 1) := fun i hi => by
  by_cases q : i = n
  · subst q; rw [upI_self]; exact hx
  · rw [upI_ne _ _ q]; exact h i (by omega)
theorem dv_up_ge {g : Nat → Int} {n k : Nat} {x : Int} (h : n ≤ k) : dv (upI g k x) n = dv g n := dv_congr fun i hi => upI_ne _ _ (by omega)
theorem dv_up_s {g : Nat → Int} {n : Nat} {x : Int} : dv (upI g n x) (n + 1) = dv g n + x * 1000000 ^ n := by
  rw [dv_s, dv_up_ge (Nat.le_refl n), upI_self]
theorem dv_up {g : Nat → Int} {n k : Nat} {x : Int} (h : k < n) : dv (upI g k x) n = dv g n + (x - g k) * 1000000 ^ k := by
  induction n with
  | zero => omega
  | succ n ih =>
    rcases Nat.lt_or_ge k n with q | q
    · rw [dv_s, dv_s, ih q, upI_ne _ _ (by omega)]
      omega
    · obtain rfl : k = n := by omega
      rw [dv_up_s, dv_s, Int.sub_mul]
      omega
theorem dv_nn {g : Nat → Int} {n : Nat} (h : dg g n) : 0 ≤ dv g n := by
  induction n with
  | zero => exact Int.le_refl _
  | succ n ih =>
    have h1 := ih (h.sub (by omega))
    have h2 := Int.mul_nonneg (h n (by omega)).1 (Int.le_of_lt (bp_pos n))
    rw [dv_s]
    omega
theorem dv_lt {g : Nat → Int} {n : Nat} (h : dg g n) : dv g n < 1000000 ^ n := by
  induction n with
  | zero => show (0 : Int) < 1; decide
  | succ n ih =>
    have h1 := ih (h.sub (by omega))
    have h2 : g n * 1000000 ^ n ≤ 999999 * 1000000 ^ n := Int.mul_le_mul_of_nonneg_right (by have := (h n (by omega)).2; omega) (Int.le_of_lt (bp_pos n))
    have e := bp_s n
    rw [dv_s]
    omega
theorem dv_ge {g : Nat → Int} {n : Nat} (h : dg g (n + 1)) (ht : g n ≠ 0) : 1000000 ^ n ≤ dv g (n + 1) := by
  have h1 := dv_nn (h.sub (Nat.le_succ n))
  have h0 := (h n (by omega)).1
  have h2 : 1 * 1000000 ^ n ≤ g n * 1000000 ^ n := Int.mul_le_mul_of_nonneg_right (by omega) (Int.le_of_lt (bp_pos n))
  rw [dv_s]
  omega
theorem dv_trim {g : Nat → Int} {n k : Nat} (hk : n ≤ k) (h : ∀ i, n ≤ i → i < k → g i = 0) : dv g k = dv g n := by
  induction hk with
  | refl => rfl
  | step hk ih =>
    rename_i k
    rw [show dv g k.succ = dv g k + g k * 1000000 ^ k from rfl, h k hk (by omega), Int.zero_mul, Int.add_zero]
    exact ih (fun i h1 h2 => h i h1 (by omega))
theorem dv_split (g : Nat → Int) (n m : Nat) : dv g (n + m) = dv g n + 1000000 ^ n * dv (fun i => g (n + i)) m := by
  induction m with
  | zero => rw [Nat.add_zero, dv_0, Int.mul_zero, Int.add_zero]
  | succ m ih =>
    rw [← Nat.add_assoc, dv_s, ih, dv_s, bp_add, Int.mul_add]
    have : g (n + m) * (1000000 ^ n * 1000000 ^ m) = 1000000 ^ n * (g (n + m) * 1000000 ^ m) := by
      rw [← Int.mul_assoc, Int.mul_comm (g (n + m)), Int.mul_assoc]
    omega
/-- the parts below a size, nothing above it -/
def pz (g : Nat → Int) (n : Nat) : Nat → Int := fun i => if i < n then g i else 0
theorem pz_lt {g : Nat → Int} {n i : Nat} (h : i < n) : pz g n i = g i := by simp [pz, h]
theorem pz_ge {g : Nat → Int} {n i : Nat} (h : n ≤ i) : pz g n i = 0 := by simp [pz, Nat.not_lt.mpr h]
theorem pz_dg {g : Nat → Int} {n : Nat} (h : dg g n) (k : Nat) : dg (pz g n) k := fun i _ => by
  by_cases q : i < n
  · rw [pz_lt q]; exact h i q
  · rw [pz_ge (by omega)]; decide
theorem dv_pz {g : Nat → Int} {n k : Nat} (h : n ≤ k) : dv (pz g n) k = dv g n := by
  rw [dv_trim h (fun i h1 _ => pz_ge h1)]
  exact dv_congr fun i hi => pz_lt hi
/-- a row of parts, its size and its sign hold the number z -/
def rp (g : Nat → Int) (n : Nat) (b : Int) (z : Int) : Prop := n ≤ 104 ∧ dg g n ∧ (0 < n → g (n - 1) ≠ 0) ∧ ((b = 0 ∧ z = dv g n) ∨ (b = 1 ∧ 0 < n ∧ z = - dv g n))
theorem rp.pos {g : Nat → Int} {n : Nat} {b z : Int} (h : rp g n b z) (hn : 0 < n) : 1000000 ^ (n - 1) ≤ dv g n := by
  obtain ⟨h1, h2, h3, h4⟩ := h
  obtain ⟨k, rfl⟩ : ∃ k, n = k + 1 := ⟨n - 1, by omega⟩
  exact dv_ge h2 (h3 hn)
theorem rp.nat {g : Nat → Int} {n : Nat} {b z : Int} (h : rp g n b z) : (z.natAbs : Int) = dv g n := by
  have h5 := dv_nn h.2.1
  rcases h.2.2.2 with ⟨_, e⟩ | ⟨_, _, e⟩ <;> omega
theorem rp.zero {g : Nat → Int} {n : Nat} {b z : Int} (h : rp g n b z) : z = 0 ↔ n = 0 := by
  constructor
  · intro e
    rcases Nat.eq_zero_or_pos n with q | q
    · exact q
    · have h1 := h.pos q
      have h2 := bp_pos (n - 1)
      have h3 := h.nat
      omega
  · intro e
    subst e
    have h3 := h.nat
    rw [dv_0] at h3
    omega
theorem rp.b0 {g : Nat → Int} {n : Nat} {b z : Int} (h : rp g n b z) : (b = 0 ↔ 0 ≤ z) ∧ (b = 1 ↔ z < 0) ∧ (b = 0 ∨ b = 1) := by
  have h5 := dv_nn h.2.1
  rcases h.2.2.2 with ⟨e1, e⟩ | ⟨e1, h6, e⟩
  · omega
  · have h1 := h.pos h6
    have h2 := bp_pos (n - 1)
    omega
theorem rp.size {g : Nat → Int} {n : Nat} {b z : Int} (h : rp g n b z) (k : Nat) : n ≤ k ↔ (z.natAbs : Int) < 1000000 ^ k := by
  rw [h.nat]
  constructor
  · intro hk
    have h1 := dv_lt h.2.1
    have h2 := bp_le hk
    omega
  · intro hk
    rcases Nat.lt_or_ge k n with q | q
    · have h1 := h.pos (by omega)
      have h2 := bp_le (show k ≤ n - 1 by omega)
      omega
    · exact q
theorem rp.congr {g g' : Nat → Int} {n : Nat} {b z : Int} (h : rp g n b z) (e : ∀ i, i < n → g' i = g i) : rp g' n b z := by
  obtain ⟨h1, h2, h3, h4⟩ := h
  refine ⟨h1, fun i hi => by rw [e i hi]; exact h2 i hi, fun hn => by rw [e _ (by omega)]; exact h3 hn, ?_⟩
  rw [dv_congr e]
  exact h4
/-- two rows of the same number are the same -/
theorem dv_inj {g h : Nat → Int} {n : Nat} (hg : dg g n) (hh : dg h n) (e : dv g n = dv h n) : ∀ i, i < n → g i = h i := by
  induction n with
  | zero => intro i hi; omega
  | succ n ih =>
    rw [dv_s, dv_s] at e
    have a1 := dv_nn (hg.sub (Nat.le_succ n))
    have a2 := dv_lt (hg.sub (Nat.le_succ n))
    have b1 := dv_nn (hh.sub (Nat.le_succ n))
    have b2 := dv_lt (hh.sub (Nat.le_succ n))
    have ht : g n = h n := by
      rcases Int.lt_trichotomy (g n) (h n) with q | q | q
      · have := Int.mul_le_mul_of_nonneg_right (show g n + 1 ≤ h n by omega) (Int.le_of_lt (bp_pos n))
        rw [Int.add_mul, Int.one_mul] at this
        omega
      · exact q
      · have := Int.mul_le_mul_of_nonneg_right (show h n + 1 ≤ g n by omega) (Int.le_of_lt (bp_pos n))
        rw [Int.add_mul, Int.one_mul] at this
        omega
    rw [ht] at e
    intro i hi
    rcases Nat.lt_or_ge i n with q | q
    · exact ih (hg.sub (Nat.le_succ n)) (hh.sub (Nat.le_succ n)) (by omega) i q
    · rw [show i = n by omega]; exact ht
/-- the first part from above that differs tells which is more -/
theorem dv_cmp {g h : Nat → Int} {n k : Nat} (hg : dg g n) (hh : dg h n) (hk : k < n) (he : ∀ i, k < i → i < n → g i = h i) (hlt : g k < h k) : dv g n < dv h n := by
  induction n with
  | zero => omega
  | succ n ih =>
    rw [dv_s, dv_s]
    rcases Nat.lt_or_ge k n with q | q
    · have := ih (hg.sub (Nat.le_succ n)) (hh.sub (Nat.le_succ n)) q (fun i h1 h2 => he i h1 (by omega))
      rw [he n q (by omega)]
      omega
    · have hkn : k = n := by omega
      subst hkn
      have a2 := dv_lt (hg.sub (Nat.le_succ k))
      have b1 := dv_nn (hh.sub (Nat.le_succ k))
      have := Int.mul_le_mul_of_nonneg_right (show g k + 1 ≤ h k by omega) (Int.le_of_lt (bp_pos k))
      rw [Int.add_mul, Int.one_mul] at this
      omega
/-! PRODUCTS, column by column -/
/-- the sum of the first i products of column k -/
def co (x y : Nat → Int) (k : Nat) : Nat → Int
  | 0 => 0
  | i + 1 => co x y k i + (if i ≤ k then x i * y (k - i) else 0)
/-- the sum of the first n rows, each cut off at place k -/
def rs (x y : Nat → Int) (k : Nat) : Nat → Int
  | 0 => 0
  | n + 1 => rs x y k n + x n * (1000000 ^ n * dv y (k - n))
theorem rs_s (x y : Nat → Int) (k n : Nat) : rs x y (k + 1) n = rs x y k n + 1000000 ^ k * co x y k n := by
  induction n with
  | zero => simp [rs, co]
  | succ n ih =>
    show rs x y (k + 1) n + x n * (1000000 ^ n * dv y (k + 1 - n)) = rs x y k n + x n * (1000000 ^ n * dv y (k - n)) + 1000000 ^ k * (co x y k n + if n ≤ k then x n * y (k - n) else 0)
    rw [ih]
    by_cases h : n ≤ k
    · rw [if_pos h, show k + 1 - n = (k - n) + 1 by omega, dv_s]
      have e : (1000000 : Int) ^ k = 1000000 ^ n * 1000000 ^ (k - n) := by rw [← bp_add]; congr 1; omega
      rw [e]
      grind
    · rw [if_neg h, show k + 1 - n = 0 by omega, show k - n = 0 by omega]
      grind
theorem rs_0 (x y : Nat → Int) (n : Nat) : rs x y 0 n = 0 := by
  induction n with
  | zero => rfl
  | succ n ih =>
    show rs x y 0 n + x n * (1000000 ^ n * dv y (0 - n)) = 0
    rw [ih, Nat.zero_sub, dv_0]
    simp
theorem rs_all {x y : Nat → Int} {k n m : Nat} (h : n + m ≤ k) : rs x (pz y m) k n = dv x n * dv y m := by
  induction n with
  | zero => show (0 : Int) = 0 * _; rw [Int.zero_mul]
  | succ n ih =>
    show rs x (pz y m) k n + x n * (1000000 ^ n * dv (pz y m) (k - n)) = _
    rw [ih (by omega), dv_pz (by omega), dv_s]
    grind
theorem co_lo {x y : Nat → Int} {m k i : Nat} (h : i + m ≤ k + 1) : co x (pz y m) k i = 0 := by
  induction i with
  | zero => rfl
  | succ i ih =>
    show co x (pz y m) k i + (if i ≤ k then x i * pz y m (k - i) else 0) = 0
    rw [ih (by omega), pz_ge (by omega)]
    simp
theorem co_hi {x y : Nat → Int} {k i n : Nat} (h : k < i) (hn : i ≤ n) : co x y k n = co x y k i := by
  induction hn with
  | refl => rfl
  | step hn ih =>
    rename_i n
    have h9 : i ≤ n := hn
    show co x y k n + (if n ≤ k then x n * y (k - n) else 0) = _
    rw [ih, if_neg (by omega), Int.add_zero]
theorem co_in {x y : Nat → Int} {m k i : Nat} (h : i ≤ k) (hm : k < i + m) : co x (pz y m) k (i + 1) = co x (pz y m) k i + x i * y (k - i) := by
  show co x (pz y m) k i + (if i ≤ k then x i * pz y m (k - i) else 0) = _
  rw [if_pos h, pz_lt (by omega)]
theorem co_bound {x y : Nat → Int} {n m k i : Nat} (hx : dg x n) (hy : dg y m) (hi : i ≤ n) : 0 ≤ co x (pz y m) k i ∧ co x (pz y m) k i ≤ (i : Int) * 999998000001 := by
  induction i with
  | zero => exact ⟨Int.le_refl _, by simp [co]⟩
  | succ i ih =>
    have h1 := ih (by omega)
    have h2 := hx i (by omega)
    have h3 := pz_dg hy (k - i + 1) (k - i) (by omega)
    show 0 ≤ co x (pz y m) k i + (if i ≤ k then x i * pz y m (k - i) else 0) ∧ co x (pz y m) k i + (if i ≤ k then x i * pz y m (k - i) else 0) ≤ _
    by_cases h : i ≤ k
    · rw [if_pos h]
      have h4 := Int.mul_nonneg h2.1 h3.1
      have h5 := Int.mul_le_mul (show x i ≤ 999999 by omega) (show pz y m (k - i) ≤ 999999 by omega) h3.1 (by decide)
      omega
    · rw [if_neg h]
      omega
end
section
/-! A WHOLE: its cell, its row; the rows of its fields -/
abbrev ciW : Nat := 1
abbrev wh (r : Nat) (n b : Int) : va_E := .inr (ciW, [.ref r, .int (iI n), .int (iI b)])
abbrev ww_in (Ts : List Cond) : Prop := ∀ w ∈ u_ws RX1 TX1 3, w ∈ Ts
/-- h is a Whole with the row g at r; all but its two cells is as in f0 -/
def wSt (cI : ClassId) (f0 : mw_M) (h r : Nat) (f : mw_M) (g : Nat → Int) (n b : Int) : Prop := f h = some (wh r n b) ∧ f r = some (mw_ar cI 104 g) ∧ ∀ q, q ≠ h → q ≠ r → f q = f0 q
theorem wSt.self {cI : ClassId} {f0 : mw_M} {h r : Nat} {g : Nat → Int} {n b : Int} (h1 : f0 h = some (wh r n b)) (h2 : f0 r = some (mw_ar cI 104 g)) : wSt cI f0 h r f0 g n b := ⟨h1, h2, fun _ _ _ => rfl⟩
theorem wh_ne {f : mw_M} {h q r r2 : Nat} {n b : Int} {cI : ClassId} {g : Nat → Int} (h1 : f h = some (wh r n b)) (h2 : f q = some (mw_ar cI r2 g)) : h ≠ q := fun e => by
  rw [e, h2] at h1
  cases h1
theorem wSt.ne {cI : ClassId} {f0 : mw_M} {h r : Nat} {f : mw_M} {g : Nat → Int} {n b : Int} (hT : wSt cI f0 h r f g n b) : h ≠ r := wh_ne hT.1 hT.2.1
theorem wSt.get {cI : ClassId} {f0 : mw_M} {h r : Nat} {f : mw_M} {g : Nat → Int} {n b : Int} (hT : wSt cI f0 h r f g n b) {q : Nat} {e : va_E} (h1 : f0 q = some e) (h2 : q ≠ h) (h3 : q ≠ r) : f q = some e := by rw [hT.2.2 q h2 h3]; exact h1
theorem wSt.trans {cI : ClassId} {f0 f1 : mw_M} {h r : Nat} {f : mw_M} {g g1 : Nat → Int} {n b n1 b1 : Int} (hT : wSt cI f0 h r f1 g1 n1 b1) (h2 : wSt cI f1 h r f g n b) : wSt cI f0 h r f g n b := ⟨h2.1, h2.2.1, fun q a1 a2 => (h2.2.2 q a1 a2).trans (hT.2.2 q a1 a2)⟩
theorem wSt.put {cI : ClassId} {f0 : mw_M} {h r : Nat} {f : mw_M} {g : Nat → Int} {n b : Int} (hT : wSt cI f0 h r f g n b) (n' b' : Int) : wSt cI f0 h r (mw_set f h (wh r n' b')) g n' b' := by
  refine ⟨mw_set_self _ _ _, ?_, fun q a1 a2 => ?_⟩
  · rw [mw_set_ne _ _ (Ne.symm hT.ne)]; exact hT.2.1
  · rw [mw_set_ne _ _ a1]; exact hT.2.2 q a1 a2
theorem wSt.ast {cI : ClassId} {f0 : mw_M} {h r : Nat} {f : mw_M} {g : Nat → Int} {n b : Int} (hT : wSt cI f0 h r f g n b) (g' : Nat → Int) : wSt cI f0 h r (mw_set f r (mw_ar cI 104 g')) g' n b := by
  refine ⟨?_, mw_set_self _ _ _, fun q a1 a2 => ?_⟩
  · rw [mw_set_ne _ _ hT.ne]; exact hT.1
  · rw [mw_set_ne _ _ a2]; exact hT.2.2 q a1 a2
section WWR
variable {p : Program} {l : Launch} {e : Env} {R : Room} {s : State} {m : MethodId} {args : Array Value} {below : List Frame} {meth : Method} {c : Code} {H : Heap} {locs : List Loc} {cells slots : Nat} {Q : State → Prop}
variable {cc : ByteArray} {nL : Nat} {own : String} {Ts : List Cond} {pc : Nat} {ls : Array Slot} {rest : List Value} {D : va_G} {tys : List (ClassId × FieldType)} {A : Nat → Prop} {f : mw_M} {a : Nat} {f0 : mw_M} {h r : Nat} {g : Nat → Int} {n b : Int} {cI : ClassId} {index : Nat}
theorem ww_parts (B : mw_C p s m args meth c cc nL own Ts D vwCl tys) (hI : mw_I D vwCl A s H locs f) (ha : f a = some (wh r n b)) (hw : ww_in Ts) (hl : Cond.fieldLink own index "BigDesk$Whole" "parts" "[I" ∈ Ts) (hdg : decode cc pc = .ok (.getfield index, 3)) (kk : W p l e R s m args below meth c H locs cells slots Q (F0 m (pc + 3) ls (.ref r :: rest))) : W p l e R s m args below meth c H locs cells slots Q (F0 m pc ls (.ref a :: rest)) :=
  mw_get (C := RX1) (T := TX1) (N := 3) B hI ha hw rfl 0 (by decide) hl rfl hdg kk
theorem ww_size (B : mw_C p s m args meth c cc nL own Ts D vwCl tys) (hI : mw_I D vwCl A s H locs f) (ha : f a = some (wh r n b)) (hw : ww_in Ts) (hl : Cond.fieldLink own index "BigDesk$Whole" "size" "I" ∈ Ts) (hdg : decode cc pc = .ok (.getfield index, 3)) (kk : W p l e R s m args below meth c H locs cells slots Q (F0 m (pc + 3) ls (.int (iI n) :: rest))) : W p l e R s m args below meth c H locs cells slots Q (F0 m pc ls (.ref a :: rest)) :=
  mw_get (C := RX1) (T := TX1) (N := 3) B hI ha hw rfl 1 (by decide) hl rfl hdg kk
theorem ww_below (B : mw_C p s m args meth c cc nL own Ts D vwCl tys) (hI : mw_I D vwCl A s H locs f) (ha : f a = some (wh r n b)) (hw : ww_in Ts) (hl : Cond.fieldLink own index "BigDesk$Whole" "below" "Z" ∈ Ts) (hdg : decode cc pc = .ok (.getfield index, 3)) (kk : W p l e R s m args below meth c H locs cells slots Q (F0 m (pc + 3) ls (.int (iI b) :: rest))) : W p l e R s m args below meth c H locs cells slots Q (F0 m pc ls (.ref a :: rest)) :=
  mw_get (C := RX1) (T := TX1) (N := 3) B hI ha hw rfl 2 (by decide) hl rfl hdg kk
theorem ww_puts {n' : Int} (B : mw_C p s m args meth c cc nL own Ts D vwCl tys) (hI : mw_I D vwCl A s H locs f) (hT : wSt cI f0 h r f g n b) (hw : ww_in Ts) (hl : Cond.fieldLink own index "BigDesk$Whole" "size" "I" ∈ Ts) (hdg : decode cc pc = .ok (.putfield index, 3)) (kk : ∀ (f1 : mw_M) (H1 : Heap) (locs1 : List Loc), wSt cI f0 h r f1 g n' b → mw_I D vwCl A s H1 locs1 f1 → W p l e R s m args below meth c H1 locs1 cells slots Q (F0 m (pc + 3) ls rest)) : W p l e R s m args below meth c H locs cells slots Q (F0 m pc ls (.int (iI n') :: .ref h :: rest)) :=
  mw_put (C := RX1) (T := TX1) (N := 3) B hI hT.1 hw tyX1 tyX1_ok nmX1 rfl 1 (by decide) hl rfl rfl rfl (Nat.le_of_ble_eq_true rfl) hdg (fun H1 locs1 h1 => kk _ H1 locs1 (hT.put n' b) h1)
theorem bool_nar {b : Int} (hb : b = 0 ∨ b = 1) : narrow .boolean (.int (iI b)) = .int (iI b) ∧ fits .boolean (.int (iI b)) = true := by
  rcases hb with rfl | rfl <;> exact ⟨by decide, by decide⟩
theorem ww_putb {b' : Int} (B : mw_C p s m args meth c cc nL own Ts D vwCl tys) (hI : mw_I D vwCl A s H locs f) (hT : wSt cI f0 h r f g n b) (hb : b' = 0 ∨ b' = 1) (hw : ww_in Ts) (hl : Cond.fieldLink own index "BigDesk$Whole" "below" "Z" ∈ Ts) (hdg : decode cc pc = .ok (.putfield index, 3)) (kk : ∀ (f1 : mw_M) (H1 : Heap) (locs1 : List Loc), wSt cI f0 h r f1 g n b' → mw_I D vwCl A s H1 locs1 f1 → W p l e R s m args below meth c H1 locs1 cells slots Q (F0 m (pc + 3) ls rest)) : W p l e R s m args below meth c H locs cells slots Q (F0 m pc ls (.int (iI b') :: .ref h :: rest)) :=
  mw_put (C := RX1) (T := TX1) (N := 3) B hI hT.1 hw tyX1 tyX1_ok nmX1 rfl 2 (by decide) hl rfl (bool_nar hb).1 (bool_nar hb).2 (Nat.le_of_ble_eq_true rfl) hdg (fun H1 locs1 h1 => kk _ H1 locs1 (hT.put n b') h1)
theorem ww_iast {kA : Nat → ClassId} (B : mw_C p s m args meth c cc nL own Ts D vwCl (tyL kA)) (hI : mw_I D vwCl A s H locs f) (hT : wSt (kA 0) f0 h r f g n b) {x v : Int} (i : Nat) (hi : x = (i : Int)) (hin : i < 104) (hdg : decode cc pc = .ok (.iastore, 1)) (kk : ∀ (f1 : mw_M) (H1 : Heap) (locs1 : List Loc), wSt (kA 0) f0 h r f1 (upI g i v) n b → mw_I D vwCl A s H1 locs1 f1 → W p l e R s m args below meth c H1 locs1 cells slots Q (F0 m (pc + 1) ls rest)) : W p l e R s m args below meth c H locs cells slots Q (F0 m pc ls (.int (iI v) :: .int (iI x) :: .ref r :: rest)) :=
  mw_iast B hI 0 hT.2.1 rfl i hi hin (by decide) hdg (fun H1 locs1 h1 => kk _ H1 locs1 (hT.ast _) h1)
end WWR
/-! what a Whole holds -/
/-- sizes and parts as they must be, no 0 on top -/
def cn (g : Nat → Int) (n : Nat) : Prop := n ≤ 104 ∧ dg g n ∧ (0 < n → g (n - 1) ≠ 0)
theorem rp.toCn {g : Nat → Int} {n : Nat} {b z : Int} (h : rp g n b z) : cn g n := ⟨h.1, h.2.1, h.2.2.1⟩
theorem cn.pos {g : Nat → Int} {n : Nat} (h : cn g n) (hn : 0 < n) : 1000000 ^ (n - 1) ≤ dv g n := by
  obtain ⟨k, rfl⟩ : ∃ k, n = k + 1 := ⟨n - 1, by omega⟩
  exact dv_ge h.2.1 (h.2.2 hn)
/-- -1, 0 or 1 -/
def c3 (a b : Int) : Int := if a < b then -1 else if a = b then 0 else 1
theorem c3_lt {a b : Int} (h : a < b) : c3 a b = -1 := by simp [c3, h]
theorem c3_eq {a b : Int} (h : a = b) : c3 a b = 0 := by subst h; simp [c3]
theorem c3_gt {a b : Int} (h : b < a) : c3 a b = 1 := by
  unfold c3
  rw [if_neg (by omega), if_neg (by omega)]
theorem c3_in (a b : Int) : -1 ≤ c3 a b ∧ c3 a b ≤ 1 ∧ (c3 a b < 0 ↔ a < b) ∧ (c3 a b = 0 ↔ a = b) ∧ (0 < c3 a b ↔ b < a) := by
  rcases Int.lt_trichotomy a b with q | q | q
  · rw [c3_lt q]; omega
  · rw [c3_eq q]; omega
  · rw [c3_gt q]; omega
theorem cn.lt {g h : Nat → Int} {n k : Nat} (hg : cn g n) (hh : cn h k) (hn : n < k) : dv g n < dv h k := by
  have h1 := dv_lt hg.2.1
  have h2 := hh.pos (by omega)
  have h3 := bp_le (show n ≤ k - 1 by omega)
  omega
def Rp (cI : ClassId) (f : mw_M) (h r : Nat) (z : Int) : Prop := ∃ (g : Nat → Int) (n : Nat) (b : Int), f h = some (wh r (n : Int) b) ∧ f r = some (mw_ar cI 104 g) ∧ rp g n b z
def Rw (cI : ClassId) (f : mw_M) (h r : Nat) : Prop := ∃ (g : Nat → Int) (n b : Int), f h = some (wh r n b) ∧ f r = some (mw_ar cI 104 g)
def fo (f0 f : mw_M) (h r : Nat) : Prop := ∀ q, q ≠ h → q ≠ r → f q = f0 q
theorem Rp.w {cI : ClassId} {f : mw_M} {h r : Nat} {z : Int} (q : Rp cI f h r z) : Rw cI f h r := by
  obtain ⟨g, n, b, h1, h2, -⟩ := q
  exact ⟨g, _, b, h1, h2⟩
theorem Rp.keep {cI : ClassId} {f0 f : mw_M} {h r x rx : Nat} {z : Int} (hq : Rp cI f0 x rx z) (hf : fo f0 f h r) (hw : Rw cI f0 h r) (h1 : x ≠ h) (h2 : rx ≠ r) : Rp cI f x rx z := by
  obtain ⟨g, n, b, a1, a2, a3⟩ := hq
  obtain ⟨g', n', b', b1, b2⟩ := hw
  exact ⟨g, n, b, by rw [hf x h1 (wh_ne a1 b2)]; exact a1, by rw [hf rx (Ne.symm (wh_ne b1 a2)) h2]; exact a2, a3⟩
theorem Rw.keep {cI : ClassId} {f0 f : mw_M} {h r x rx : Nat} (hq : Rw cI f0 x rx) (hf : fo f0 f h r) (hw : Rw cI f0 h r) (h1 : x ≠ h) (h2 : rx ≠ r) : Rw cI f x rx := by
  obtain ⟨g, n, b, a1, a2⟩ := hq
  obtain ⟨g', n', b', b1, b2⟩ := hw
  exact ⟨g, n, b, by rw [hf x h1 (wh_ne a1 b2)]; exact a1, by rw [hf rx (Ne.symm (wh_ne b1 a2)) h2]; exact a2⟩
theorem wSt.toRp {cI : ClassId} {f0 f : mw_M} {h r : Nat} {g : Nat → Int} {n : Nat} {b z : Int} (hT : wSt cI f0 h r f g (n : Int) b) (hz : rp g n b z) : Rp cI f h r z ∧ fo f0 f h r := ⟨⟨g, n, b, hT.1, hT.2.1, hz⟩, hT.2.2⟩
theorem rp_of {g' : Nat → Int} {n' : Nat} {nb M z : Int} (hc : cn g' n') (hv : dv g' n' = M) (hz : (nb = 0 ∧ z = M) ∨ (nb = 1 ∧ z = -M)) : rp g' n' (if n' = 0 then 0 else nb) z := by
  refine ⟨hc.1, hc.2.1, hc.2.2, ?_⟩
  by_cases q : n' = 0
  · rw [if_pos q]
    subst q
    rw [dv_0] at hv ⊢
    omega
  · rw [if_neg q]
    omega
theorem bp_le_of {a b : Nat} (h : (1000000 : Int) ^ a ≤ 1000000 ^ b) : a ≤ b := by
  rcases Nat.lt_or_ge b a with q | q
  · have h1 := bp_le (show b + 1 ≤ a from q)
    have h2 := bp_s b
    have h3 := bp_pos b
    omega
  · exact q
/-- two Wholes, h and t, and all else as in f0 -/
def d2 (cI : ClassId) (f0 : mw_M) (h r t rt : Nat) (f : mw_M) (g : Nat → Int) (n b : Int) (gt : Nat → Int) (nt bt : Int) : Prop := f h = some (wh r n b) ∧ f r = some (mw_ar cI 104 g) ∧ f t = some (wh rt nt bt) ∧ f rt = some (mw_ar cI 104 gt) ∧ ∀ q, q ≠ h → q ≠ r → q ≠ t → q ≠ rt → f q = f0 q
theorem d2.self {cI : ClassId} {f0 : mw_M} {h r t rt : Nat} {g gt : Nat → Int} {n b nt bt : Int} (h1 : f0 h = some (wh r n b)) (h2 : f0 r = some (mw_ar cI 104 g)) (h3 : f0 t = some (wh rt nt bt)) (h4 : f0 rt = some (mw_ar cI 104 gt)) : d2 cI f0 h r t rt f0 g n b gt nt bt := ⟨h1, h2, h3, h4, fun _ _ _ _ _ => rfl⟩
theorem d2.swap {cI : ClassId} {f0 f : mw_M} {h r t rt : Nat} {g gt : Nat → Int} {n b nt bt : Int} (hT : d2 cI f0 h r t rt f g n b gt nt bt) : d2 cI f0 t rt h r f gt nt bt g n b := ⟨hT.2.2.1, hT.2.2.2.1, hT.1, hT.2.1, fun q a1 a2 a3 a4 => hT.2.2.2.2 q a3 a4 a1 a2⟩
theorem d2.h {cI : ClassId} {f0 f f1 : mw_M} {h r t rt : Nat} {g gt g1 : Nat → Int} {n b nt bt n1 b1 : Int} (hT : d2 cI f0 h r t rt f g n b gt nt bt) (ht : t ≠ h) (hr : rt ≠ r) (h1 : wSt cI f h r f1 g1 n1 b1) : d2 cI f0 h r t rt f1 g1 n1 b1 gt nt bt :=
  ⟨h1.1, h1.2.1, h1.get hT.2.2.1 ht (wh_ne hT.2.2.1 hT.2.1), h1.get hT.2.2.2.1 (Ne.symm (wh_ne hT.1 hT.2.2.2.1)) hr, fun q a1 a2 a3 a4 => (h1.2.2 q a1 a2).trans (hT.2.2.2.2 q a1 a2 a3 a4)⟩
theorem d2.t {cI : ClassId} {f0 f f1 : mw_M} {h r t rt : Nat} {g gt g1 : Nat → Int} {n b nt bt n1 b1 : Int} (hT : d2 cI f0 h r t rt f g n b gt nt bt) (ht : t ≠ h) (hr : rt ≠ r) (h1 : wSt cI f t rt f1 g1 n1 b1) : d2 cI f0 h r t rt f1 g n b g1 n1 b1 := (hT.swap.h (Ne.symm ht) (Ne.symm hr) h1).swap
theorem d2.get {cI : ClassId} {f0 f : mw_M} {h r t rt : Nat} {g gt : Nat → Int} {n b nt bt : Int} (hT : d2 cI f0 h r t rt f g n b gt nt bt) {q : Nat} {e : va_E} (hq : f0 q = some e) (h1 : q ≠ h) (h2 : q ≠ r) (h3 : q ≠ t) (h4 : q ≠ rt) : f q = some e := by rw [hT.2.2.2.2 q h1 h2 h3 h4]; exact hq
def fo2 (f0 f : mw_M) (h r t rt : Nat) : Prop := ∀ q, q ≠ h → q ≠ r → q ≠ t → q ≠ rt → f q = f0 q
end
section
/-! THE LIBRARY'S MEMBERS, with integers -/
section LIB
variable {p : Program} {l : Launch} {e : Env} {R : Room} {s : State} {m : MethodId} {args : Array Value} {below : List Frame} {meth : Method} {c : Code} {H : Heap} {locs : List Loc} {cells slots : Nat} {Q : State → Prop}
variable {cc : ByteArray} {nL : Nat} {own : String} {Ts : List Cond} {pc : Nat} {ls : Array Slot} {rest : List Value} {D : va_G} {cl : List vw_C} {tys : List (ClassId × FieldType)} {A : Nat → Prop} {f : mw_M} {a : Nat} {index : Nat}
theorem mv_mmax {x y : Int} (B : mw_C p s m args meth c cc nL own Ts D cl tys) (hls : ls.size = nL) (h1 : Cond.methodLink own index Lib.Math.max.name ∈ Ts) (h2 : Cond.static Lib.Math.max.name ∈ Ts) (h3 : Cond.initialized "java/lang/Math" ∈ Ts) (h4 : Cond.code Lib.Math.max.name Lib.Math.max.code 2 (some .int) ∈ Ts) (hfr : 1 ≤ R.frames) (hlo : (rest.map fun v => v.category).sum + 13 ≤ R.locals) (hc : cells ≤ R.cells) (hs : slots ≤ R.slots) (h : (-2147483648 ≤ x ∧ x ≤ 2147483647) ∧ (-2147483648 ≤ y ∧ y ≤ 2147483647)) (hdg : decode cc pc = .ok (.invokestatic index, 3))
    (kk : W p l e R s m args below meth c H locs cells slots Q (F0 m (pc + 3) ls (.int (iI (max x y)) :: rest))) : W p l e R s m args below meth c H locs cells slots Q (F0 m pc ls (.int (iI y) :: .int (iI x) :: rest)) := by
  refine va_mmax B.1 B.2.1 (by rw [B.2.2.1, hls]) B.2.2.2.1 (B.2.2.2.2.1 _ h1) (B.2.2.2.2.1 _ h2) (B.2.2.2.2.1 _ h3) (B.2.2.2.2.1 _ h4) hfr hlo hc hs hdg ?_
  rw [show (if iI x < iI y then iI y else iI x) = iI (max x y) by
    by_cases q : x < y
    · rw [if_pos ((iI_lt h).mpr q), show max x y = y by omega]
    · rw [if_neg (fun q2 => q ((iI_lt h).mp q2)), show max x y = x by omega]]
  exact kk
theorem mv_mmin {x y : Int} (B : mw_C p s m args meth c cc nL own Ts D cl tys) (hls : ls.size = nL) (h1 : Cond.methodLink own index Lib.Math.min.name ∈ Ts) (h2 : Cond.static Lib.Math.min.name ∈ Ts) (h3 : Cond.initialized "java/lang/Math" ∈ Ts) (h4 : Cond.code Lib.Math.min.name Lib.Math.min.code 2 (some .int) ∈ Ts) (hfr : 1 ≤ R.frames) (hlo : (rest.map fun v => v.category).sum + 13 ≤ R.locals) (hc : cells ≤ R.cells) (hs : slots ≤ R.slots) (h : (-2147483648 ≤ x ∧ x ≤ 2147483647) ∧ (-2147483648 ≤ y ∧ y ≤ 2147483647)) (hdg : decode cc pc = .ok (.invokestatic index, 3))
    (kk : W p l e R s m args below meth c H locs cells slots Q (F0 m (pc + 3) ls (.int (iI (min x y)) :: rest))) : W p l e R s m args below meth c H locs cells slots Q (F0 m pc ls (.int (iI y) :: .int (iI x) :: rest)) := by
  refine va_mmin B.1 B.2.1 (by rw [B.2.2.1, hls]) B.2.2.2.1 (B.2.2.2.2.1 _ h1) (B.2.2.2.2.1 _ h2) (B.2.2.2.2.1 _ h3) (B.2.2.2.2.1 _ h4) hfr hlo hc hs hdg ?_
  have e1 : (if iI y < iI x then iI y else iI x) = iI (min x y) := by
    by_cases q : y < x
    · rw [if_pos ((iI_lt ⟨h.2, h.1⟩).mpr q), show min x y = y by omega]
    · rw [if_neg (fun q2 => q ((iI_lt ⟨h.2, h.1⟩).mp q2)), show min x y = x by omega]
  rw [e1]
  exact kk
theorem mv_labs {x : Int} (B : mw_C p s m args meth c cc nL own Ts D cl tys) (hls : ls.size = nL) (h1 : Cond.methodLink own index Lib.MathLoose.abs_long.x ∈ Ts) (h2 : Cond.static Lib.MathLoose.abs_long.x ∈ Ts) (h3 : Cond.initialized "java/lang/Math" ∈ Ts) (h4 : Cond.code Lib.MathLoose.abs_long.x Lib.MathLoose.abs_long.code 2 (some .long) ∈ Ts) (hfr : 1 ≤ R.frames) (hlo : (rest.map fun v => v.category).sum + 13 ≤ R.locals) (hc : cells ≤ R.cells) (hs : slots ≤ R.slots) (h : -9223372036854775807 ≤ x ∧ x ≤ 9223372036854775807) (hdg : decode cc pc = .ok (.invokestatic index, 3))
    (kk : W p l e R s m args below meth c H locs cells slots Q (F0 m (pc + 3) ls (.long (lI (x.natAbs : Int)) :: rest))) : W p l e R s m args below meth c H locs cells slots Q (F0 m pc ls (.long (lI x) :: rest)) := by
  refine va_mabs_long B.1 B.2.1 (by rw [B.2.2.1, hls]) B.2.2.2.1 (B.2.2.2.2.1 _ h1) (B.2.2.2.2.1 _ h2) (B.2.2.2.2.1 _ h3) (B.2.2.2.2.1 _ h4) hfr hlo hc hs hdg ?_
  have hz : (0 : Int64) < lI x ↔ 0 < x := lI_lt (a := 0) ⟨by decide, by omega⟩
  have e1 : (if 0 < lI x then lI x else -lI x) = lI (x.natAbs : Int) := by
    by_cases q : 0 < x
    · rw [if_pos (hz.mpr q)]; congr 1; omega
    · rw [if_neg (fun q2 => q (hz.mp q2)), lI_neg]; congr 1; omega
  rw [e1]
  exact kk
/-- arraycopy from the beginning of one row of ints to the beginning of another, or of the same -/
def cpI (g g' : Nat → Int) (n : Nat) : Nat → Int := fun j => if j < n then g j else g' j
theorem mw_copy {cI : ClassId} {n0 n1 k a0 : Nat} {g0 g1 : Nat → Int} (B : mw_C p s m args meth c cc nL own Ts D cl tys) (hI : mw_I D cl A s H locs f) (hls : ls.size = nL) (h1 : Cond.methodLink own index arraycopyName ∈ Ts) (h2 : Cond.native arraycopyName ∈ Ts) (h3 : Cond.static arraycopyName ∈ Ts) (h4 : Cond.initialized "java/lang/System" ∈ Ts) (t0 : Nat) (ht : tys[t0]? = some (cI, .int)) (ha0 : f a0 = some (mw_ar cI n0 g0)) (ha : f a = some (mw_ar cI n1 g1)) (hk0 : k ≤ n0) (hk1 : k ≤ n1) (hn : n0 ≤ 2147483647) (hfr : 1 ≤ R.frames) (hlo : (rest.map fun v => v.category).sum + (nativeFrameWords "java/lang/System" "arraycopy" 5 + 11) ≤ R.locals) (hdg : decode cc pc = .ok (.invokestatic index, 3))
    (kk : ∀ (H1 : Heap) (locs1 : List Loc), mw_I D cl A s H1 locs1 (mw_set f a (mw_ar cI n1 (cpI g0 g1 k))) → W p l e R s m args below meth c H1 locs1 cells slots Q (F0 m (pc + 3) ls rest)) : W p l e R s m args below meth c H locs cells slots Q (F0 m pc ls (.int (iI (k : Int)) :: .int (iI 0) :: .ref a :: .int (iI 0) :: .ref a0 :: rest)) := by
  obtain ⟨ws, hP, hD, hS, hR⟩ := hI
  obtain ⟨q0, he0⟩ := (hR a0 _).mp ha0
  obtain ⟨q1, he⟩ := (hR a _).mp ha
  have z0 : (iI 0).toNatClampNeg = 0 := rfl
  have zk : (iI (k : Int)).toNatClampNeg = k := iI_clamp (by omega)
  refine va_copyi B.1 B.2.1 (by rw [B.2.2.1, hls]) B.2.2.2.1 (B.2.2.2.2.1 _ h1) (B.2.2.2.2.1 _ h2) (B.2.2.2.2.1 _ h3) (B.2.2.2.2.1 _ h4) B.2.2.2.2.2.2 hP hD hS q0 q1 t0 t0 he0 he ht ht rfl (by decide) (by decide) (iI_pos (by omega)) (by rw [z0, zk]; omega) (by rw [z0, zk]; omega) (fun _ _ => rfl) hfr hlo hdg (fun H1 locs1 hP1 hD1 hS1 => ?_)
  rw [z0, zk] at hP1 hD1
  have e1 : va_cpy (fun j => iI (g0 j)) (fun j => iI (g1 j)) 0 0 k = fun j => iI (cpI g0 g1 k j) := by
    funext j
    by_cases q : j < k
    · simp [va_cpy, cpI, q]
    · simp [va_cpy, cpI, q]
  rw [e1] at hP1 hD1
  exact kk H1 locs1 ⟨_, hP1, hD1, hS1, hR.set _ hD he⟩
end LIB
section TAB
variable {p : Program} {l : Launch} {e : Env} {R : Room} {s : State} {m : MethodId} {args : Array Value} {below : List Frame} {meth : Method} {c : Code} {H : Heap} {locs : List Loc} {cells slots : Nat} {Q : State → Prop}
variable {cc : ByteArray} {nL : Nat} {own : String} {Ts : List Cond} {pc : Nat} {ls : Array Slot} {rest : List Value} {D : va_G} {cl : List vw_C} {tys : List (ClassId × FieldType)} {A : Nat → Prop} {f : mw_M} {a : Nat} {index : Nat}
theorem mv_gets {C n d host : String} {v : Value} (B : mw_C p s m args meth c cc nL own Ts D cl tys) (hI : mw_I D cl A s H locs f) (hZ : va_Z C n d v A s s.heap) (hN : va_Nw (.fieldLinkNest own index C n d host) s) (hdg : decode cc pc = .ok (.getstatic index, 3)) (kk : W p l e R s m args below meth c H locs cells slots Q (F0 m (pc + 3) ls (v :: rest))) : W p l e R s m args below meth c H locs cells slots Q (F0 m pc ls rest) :=
  va_getsN B.1 B.2.1 hZ hI.sub B.2.2.2.1 (va_Nw.use rfl hN) (fun _ h => h) hdg kk
theorem mv_tab {t N : Nat} {g : Nat → Int} {x : Int} (B : mw_C p s m args meth c cc nL own Ts D cl tys) (hI : mw_I D cl A s H locs f) (hT : va_T .int t N (fun j => .int (iI (g j))) A s s.heap) (i : Nat) (hi : x = (i : Int)) (hin : i < N) (hN : N ≤ 2147483647) (hdg : decode cc pc = .ok (.iaload, 1)) (kk : W p l e R s m args below meth c H locs cells slots Q (F0 m (pc + 1) ls (.int (iI (g i)) :: rest))) : W p l e R s m args below meth c H locs cells slots Q (F0 m pc ls (.int (iI x) :: .ref t :: rest)) := by
  subst hi
  exact va_ti B.1 B.2.1 hT hI.sub (iI_in hin hN) (by rw [iI_clamp (by omega)]) hdg kk
theorem mv_tlen {t N : Nat} {g : Nat → Value} (B : mw_C p s m args meth c cc nL own Ts D cl tys) (hI : mw_I D cl A s H locs f) (hT : va_T .int t N g A s s.heap) (hdg : decode cc pc = .ok (.arraylength, 1)) (kk : W p l e R s m args below meth c H locs cells slots Q (F0 m (pc + 1) ls (.int (iI (N : Int)) :: rest))) : W p l e R s m args below meth c H locs cells slots Q (F0 m pc ls (.ref t :: rest)) :=
  va_tlen B.1 B.2.1 hT hI.sub (Int32.ofInt_eq_ofNat.symm) hdg kk
end TAB
end
section
/-! pure rows that the walks of Whole use -/
theorem bp_size {gx gy : Nat → Int} {nx ny : Nat} {bx b2 zx zy : Int} (hx : rp gx nx bx zx) (hy : rp gy ny b2 zy) (h : dv gy ny ≤ dv gx nx) : ny ≤ nx := by
  rcases Nat.lt_or_ge nx ny with q | q
  · have h1 := hy.pos (by omega)
    have h2 := dv_lt hx.2.1
    have h3 := bp_le (show nx ≤ ny - 1 by omega)
    omega
  · exact q
theorem mul_lt_lt {a b P Q : Int} (ha : 0 ≤ a) (hP : a < P) (hb : 0 ≤ b) (hQ : b < Q) : a * b < P * Q := by
  have h1 : a * b ≤ a * Q := Int.mul_le_mul_of_nonneg_left (by omega) ha
  have h2 : a * Q < P * Q := Int.mul_lt_mul_of_pos_right hP (by omega)
  omega
theorem cy_zero {cy P : Int} (h0 : 0 ≤ cy) (hP : 0 < P) (h : cy * P < P) : cy = 0 := by
  rcases Int.lt_or_le 0 cy with q | q
  · have h1 : 1 * P ≤ cy * P := Int.mul_le_mul_of_nonneg_right (by omega) (by omega)
    omega
  · omega
theorem mul_sgn {gx gy : Nat → Int} {nx ny : Nat} {bx b2 zx zy nb : Int} (hx : rp gx nx bx zx) (hy : rp gy ny b2 zy) (hb : nb = if bx = b2 then 0 else 1) : (nb = 0 ∧ zx * zy = dv gx nx * dv gy ny) ∨ (nb = 1 ∧ zx * zy = -(dv gx nx * dv gy ny)) := by
  rcases hx.2.2.2 with ⟨e1, z1⟩ | ⟨e1, -, z1⟩ <;> rcases hy.2.2.2 with ⟨e2, z2⟩ | ⟨e2, -, z2⟩ <;> subst e1 <;> subst e2 <;> simp at hb <;> subst hb <;> rw [z1, z2]
  · exact Or.inl ⟨rfl, rfl⟩
  · exact Or.inr ⟨rfl, by rw [Int.mul_neg]⟩
  · exact Or.inr ⟨rfl, by rw [Int.neg_mul]⟩
  · exact Or.inl ⟨rfl, by rw [Int.neg_mul_neg]⟩
theorem col_step {d P t cy co : Int} (e2 : 1000000 * (t / 1000000) + t % 1000000 = t) (ht : t = cy + co) : d + t % 1000000 * P + t / 1000000 * (P * 1000000) = d + cy * P + P * co := by
  generalize t / 1000000 = q at e2 ⊢
  generalize t % 1000000 = a at e2 ⊢
  obtain rfl : a = cy + co - 1000000 * q := by omega
  grind
theorem load_step {d P y : Int} (t1 : (y.tmod 1000000).natAbs = y.natAbs % (1000000 : Int).natAbs) (t2 : (y.tdiv 1000000).natAbs = y.natAbs / (1000000 : Int).natAbs) (e2 : 1000000 * (y.natAbs / 1000000) + y.natAbs % 1000000 = y.natAbs) : d + ((y.tmod 1000000).natAbs : Int) * P + ((y.tdiv 1000000).natAbs : Int) * (P * 1000000) = d + (y.natAbs : Int) * P := by
  have e3 : (1000000 : Int).natAbs = 1000000 := rfl
  rw [e3] at t1 t2
  rw [t1, t2]
  have e4 : (1000000 : Int) * ((y.natAbs / 1000000 : Nat) : Int) + ((y.natAbs % 1000000 : Nat) : Int) = (y.natAbs : Int) := by omega
  generalize ((y.natAbs / 1000000 : Nat) : Int) = q at e4 ⊢
  generalize ((y.natAbs % 1000000 : Nat) : Int) = a at e4 ⊢
  rw [← e4]
  grind
theorem co_end {x y : Nat → Int} {k n m E : Nat} {i : Int} (hE : (E : Int) = min (i + 1) (n : Int)) (hi : i = (k : Int)) : co x (pz y m) k E = co x (pz y m) k n := by
  rcases Nat.lt_or_ge k E with q | q
  · exact (co_hi q (by omega)).symm
  · rw [show E = n by omega]
theorem sameC {f f0 : mw_M} {x rx : Nat} {k n b bx : Int} (h1 : f x = some (wh rx k b)) (h2 : f0 x = some (wh rx n b)) (h3 : f0 x = some (wh rx k bx)) : f x = some (wh rx k bx) := by
  rw [h2] at h3
  simp [wh] at h3
  rw [h1]
  simp [wh, h3.2]
/-- the value of k parts from place p on -/
def wv (g : Nat → Int) (p k : Nat) : Int := dv (fun i => g (p + i)) k
theorem wv_s (g : Nat → Int) (p k : Nat) : wv g p (k + 1) = wv g p k + g (p + k) * 1000000 ^ k := rfl
theorem wv_0 (g : Nat → Int) (p : Nat) : wv g p 0 = 0 := rfl
theorem wv_congr {g h : Nat → Int} {p k : Nat} (e : ∀ i, p ≤ i → i < p + k → g i = h i) : wv g p k = wv h p k := dv_congr fun i hi => e (p + i) (by omega) (by omega)
theorem wv_up_s {g : Nat → Int} {p k : Nat} {x : Int} : wv (upI g (p + k) x) p (k + 1) = wv g p k + x * 1000000 ^ k := by
  rw [wv_s, upI_self, wv_congr (h := g) fun i h1 h2 => upI_ne _ _ (by omega)]
def dw (g : Nat → Int) (p k : Nat) : Prop := ∀ i, p ≤ i → i < p + k → 0 ≤ g i ∧ g i < 1000000
theorem dw.d {g : Nat → Int} {p k : Nat} (h : dw g p k) : dg (fun i => g (p + i)) k := fun i hi => h (p + i) (by omega) (by omega)
theorem wv_nn {g : Nat → Int} {p k : Nat} (h : dw g p k) : 0 ≤ wv g p k := dv_nn h.d
theorem wv_lt {g : Nat → Int} {p k : Nat} (h : dw g p k) : wv g p k < 1000000 ^ k := dv_lt h.d
theorem dv_wv (g : Nat → Int) (p k : Nat) : dv g (p + k) = dv g p + 1000000 ^ p * wv g p k := dv_split g p k
/-- one part of a row less q times a row: pt the new part, c2 the new carry -/
theorem st_step {w w0 v P gi y q cy pt c2 : Int} (hv : w - cy * P = w0 - q * v) (h : pt - c2 * 1000000 = gi - (q * y + cy)) : w + pt * P - c2 * (P * 1000000) = w0 + gi * P - q * (v + y * P) := by
  have e : pt = gi - (q * y + cy) + c2 * 1000000 := by omega
  subst e
  grind
theorem ab_step {w w0 v P gi y cy pt c2 : Int} (hv : w + cy * P = w0 + v) (h : pt + c2 * 1000000 = gi + y + cy) : w + pt * P + c2 * (P * 1000000) = w0 + gi * P + (v + y * P) := by
  have e : pt = gi + y + cy - c2 * 1000000 := by omega
  subst e
  grind
end
section
/-! LONG DIVISION: the guess from three leading parts over two -/
theorem qh_low {P V U lead head vl ul : Int} (hP : 0 < P) (hv : 0 ≤ vl) (hu : ul < P) (hl : 0 < lead) (eV : V = vl + lead * P) (eU : U = ul + head * P) (hU0 : 0 ≤ U) (hV : 0 < V) : U / V ≤ head / lead := by
  rw [Int.le_ediv_iff_mul_le hl]
  have hq0 : 0 ≤ U / V := Int.ediv_nonneg hU0 (by omega)
  have hq : U / V * V ≤ U := Int.ediv_mul_le U (by omega)
  generalize U / V = q at hq hq0 ⊢
  rcases Int.lt_or_le head (q * lead) with h | h
  · have h1 : (head + 1) * P ≤ q * lead * P := Int.mul_le_mul_of_nonneg_right (by omega) (by omega)
    have h2 : 0 ≤ q * vl := Int.mul_nonneg hq0 hv
    have h3 : q * V = q * vl + q * lead * P := by rw [eV]; grind
    have h4 : (head + 1) * P = head * P + P := by grind
    omega
  · exact h
theorem qh_hi {P V U lead head vl ul : Int} (hP : 0 < P) (hv : 0 ≤ vl) (hvP : vl < P) (hu0 : 0 ≤ ul) (hl : 1000000 ≤ lead) (hh0 : 0 ≤ head) (eV : V = vl + lead * P) (eU : U = ul + head * P) (hU : U < V * 1000000) (hV : 0 < V) : head / lead ≤ 1000000 ∧ head / lead ≤ U / V + 1 := by
  have h1 : head * P < ((lead + 1) * 1000000) * P := by
    have e1 : ((lead + 1) * 1000000) * P = (lead * P) * 1000000 + P * 1000000 := by grind
    have e2 : V * 1000000 = vl * 1000000 + (lead * P) * 1000000 := by rw [eV]; grind
    omega
  have h2 : head < (lead + 1) * 1000000 := Int.lt_of_mul_lt_mul_right h1 (by omega)
  have h3 : head / lead < 1000001 := Int.ediv_lt_of_lt_mul (by omega) (by omega)
  have h4 : 0 ≤ head / lead := Int.ediv_nonneg hh0 (by omega)
  have h5 : head / lead * lead ≤ head := Int.ediv_mul_le head (by omega)
  refine ⟨by omega, ?_⟩
  have h6 : head / lead - 1 ≤ U / V := by
    rw [Int.le_ediv_iff_mul_le hV]
    generalize head / lead = q at h3 h4 h5 ⊢
    have a1 : q * vl ≤ q * P := Int.mul_le_mul_of_nonneg_left (by omega) h4
    have a2 : q * P ≤ lead * P := Int.mul_le_mul_of_nonneg_right (by omega) (by omega)
    have a3 : q * lead * P ≤ head * P := Int.mul_le_mul_of_nonneg_right h5 (by omega)
    have a4 : (q - 1) * V = q * vl + q * lead * P - (vl + lead * P) := by rw [eV]; grind
    omega
  omega
/-- the two leading parts -/
def ld2 (g : Nat → Int) (n : Nat) : Int := if n = 0 then 0 else g (n - 1) * 1000000 + (if 2 ≤ n then g (n - 2) else 0)
theorem ld2_in {g : Nat → Int} {n : Nat} (h : cn g n) : 0 ≤ ld2 g n ∧ ld2 g n < 1000000000000 ∧ (ld2 g n = 0 ↔ n = 0) := by
  unfold ld2
  by_cases q : n = 0
  · rw [if_pos q]; omega
  · rw [if_neg q]
    have h1 := h.2.1 (n - 1) (by omega)
    have h2 := h.2.2 (by omega)
    by_cases q2 : 2 ≤ n
    · rw [if_pos q2]
      have h3 := h.2.1 (n - 2) (by omega)
      omega
    · rw [if_neg q2]
      omega
theorem qh {g gx : Nat → Int} {pl nx : Nat} {head : Int} (hn : 1 ≤ nx) (hx : cn gx nx) (hg : dg g (pl + nx + 1)) (hU : wv g pl (nx + 1) < dv gx nx * 1000000) (hh : head = (g (pl + nx) * 1000000 + g (pl + nx - 1)) * 1000000 + (if 2 ≤ pl + nx then g (pl + nx - 2) else 0)) : 0 ≤ head ∧ head < 1000000000000000000 ∧ wv g pl (nx + 1) / dv gx nx ≤ head / ld2 gx nx ∧ head / ld2 gx nx ≤ wv g pl (nx + 1) / dv gx nx + 1 ∧ head / ld2 gx nx ≤ 1000000 := by
  have hx0 := hx.2.2 (by omega)
  have hV : 0 < dv gx nx := by have := hx.pos (by omega); have := bp_pos (nx - 1); omega
  have d1 := hg (pl + nx) (by omega)
  have d2 := hg (pl + nx - 1) (by omega)
  have dU : dw g pl (nx + 1) := fun i h1 h2 => hg i (by omega)
  have hU0 := wv_nn dU
  have d3 : 0 ≤ (if 2 ≤ pl + nx then g (pl + nx - 2) else 0) ∧ (if 2 ≤ pl + nx then g (pl + nx - 2) else 0) < 1000000 := by
    by_cases q : 2 ≤ pl + nx
    · rw [if_pos q]; exact hg _ (by omega)
    · rw [if_neg q]; decide
  have hh0 : 0 ≤ head ∧ head < 1000000000000000000 := by omega
  refine ⟨hh0.1, hh0.2, ?_⟩
  rcases Nat.lt_or_ge nx 2 with q | q
  · obtain rfl : nx = 1 := by omega
    have x0 := hx.2.1 0 (by omega)
    have eV : dv gx 1 = gx 0 := by rw [dv_s, dv_0]; simp
    have eL : ld2 gx 1 = gx 0 * 1000000 := by simp [ld2]
    have eU : wv g pl (1 + 1) = g pl + g (pl + 1) * 1000000 := by rw [wv_s, wv_s, wv_0]; simp
    rw [eV] at hU hV ⊢
    rw [eL]
    generalize (if 2 ≤ pl + 1 then g (pl + 1 - 2) else 0) = un at hh d3
    rw [Nat.add_sub_cancel] at hh
    have eh : head = wv g pl (1 + 1) * 1000000 + un := by rw [eU]; omega
    generalize wv g pl (1 + 1) = U at hU hU0 eh ⊢
    generalize gx 0 = v at hU hV x0 ⊢
    have e1 : head / (v * 1000000) = U / v := by
      rw [Int.mul_comm v, ← Int.ediv_ediv_of_nonneg (by decide)]
      congr 1
      rw [eh]
      omega
    rw [e1]
    have e2 : U / v < 1000000 := Int.ediv_lt_of_lt_mul hV (by omega)
    omega
  · obtain ⟨k, rfl⟩ : ∃ k, nx = k + 2 := ⟨nx - 2, by omega⟩
    rw [if_pos (by omega)] at hh d3
    rw [show pl + (k + 2) - 1 = pl + (k + 1) by omega, show pl + (k + 2) - 2 = pl + k by omega] at hh
    have hv0 := dv_nn (hx.2.1.sub (show k ≤ k + 2 by omega))
    have hv1 := dv_lt (hx.2.1.sub (show k ≤ k + 2 by omega))
    have dW : dw g pl k := fun i h1 h2 => hg i (by omega)
    have hu0 := wv_nn dW
    have hu1 := wv_lt dW
    have eL : ld2 gx (k + 2) = gx (k + 1) * 1000000 + gx k := by simp [ld2]
    have x1 := hx.2.1 (k + 1) (by omega)
    have x2 := hx.2.1 k (by omega)
    have x3 : gx (k + 1) ≠ 0 := hx0
    have eV : dv gx (k + 2) = dv gx k + ld2 gx (k + 2) * 1000000 ^ k := by rw [eL, dv_s, dv_s, bp_s]; grind
    have eU : wv g pl (k + 2 + 1) = wv g pl k + head * 1000000 ^ k := by rw [hh, wv_s, wv_s, wv_s, bp_s, bp_s]; grind
    have hl : 1000000 ≤ ld2 gx (k + 2) := by rw [eL]; omega
    have r1 := qh_low (bp_pos k) hv0 hu1 (by omega) eV eU hU0 hV
    have r2 := qh_hi (bp_pos k) hv0 hv1 hu0 hl hh0.1 eV eU hU hV
    exact ⟨r1, r2.2, r2.1⟩
theorem t_zero {t P : Int} (hP : 0 < P) (h1 : -P < t * P) (h2 : t * P < P) : t = 0 := by
  rcases Int.lt_trichotomy t 0 with q | q | q
  · have : t * P ≤ (-1) * P := Int.mul_le_mul_of_nonneg_right (by omega) (by omega)
    omega
  · exact q
  · have : 1 * P ≤ t * P := Int.mul_le_mul_of_nonneg_right (by omega) (by omega)
    omega
theorem t_neg {t P : Int} (hP : 0 < P) (h2 : t * P < 0) : t < 0 := by
  rcases Int.lt_or_le t 0 with q | q
  · exact q
  · have := Int.mul_nonneg q (Int.le_of_lt hP)
    omega
theorem t_low {t P : Int} (hP : 0 < P) (h2 : -(2 * P) < t * P) : -1 ≤ t := by
  rcases Int.lt_or_le t (-1) with q | q
  · have : t * P ≤ (-2) * P := Int.mul_le_mul_of_nonneg_right (by omega) (by omega)
    omega
  · exact q
/-- behind the taking away of the guess -/
theorem tk_fit {U V q' W t P : Int} (hP : 0 < P) (hV : 0 < V) (hVP : V < P) (hW0 : 0 ≤ W) (hW : W < P) (e : W + t * P = U - q' * V) (h1 : U / V ≤ q') (h2 : q' ≤ U / V + 1) : (t = 0 ∧ q' = U / V ∧ W = U % V) ∨ (t = -1 ∧ q' = U / V + 1 ∧ W - P + V = U % V) := by
  have e1 := Int.mul_ediv_add_emod U V
  have e2 := Int.emod_nonneg U (show V ≠ 0 by omega)
  have e3 := Int.emod_lt_of_pos U hV
  rcases Int.lt_or_le (U / V) q' with q | q
  · right
    obtain rfl : q' = U / V + 1 := by omega
    have e4 : (U / V + 1) * V = V * (U / V) + V := by grind
    have t1 : t < 0 := t_neg hP (by omega)
    have t2 : -1 ≤ t := t_low hP (by omega)
    obtain rfl : t = -1 := by omega
    omega
  · left
    obtain rfl : q' = U / V := by omega
    have e4 : U / V * V = V * (U / V) := Int.mul_comm _ _
    have t1 : t = 0 := t_zero hP (by omega) (by omega)
    subst t1
    omega
/-- signs of a quotient and of what is left -/
theorem td_sgn {ga gb : Nat → Int} {na nb : Nat} {ba bb za zb q w : Int} (ha : rp ga na ba za) (hb : rp gb nb bb zb) (hq : dv ga na / dv gb nb = q) (hw : dv ga na % dv gb nb = w) : ((ba = bb → za.tdiv zb = q) ∧ (ba ≠ bb → za.tdiv zb = -q)) ∧ ((ba = 0 ∧ za.tmod zb = w) ∨ (ba = 1 ∧ za.tmod zb = -w)) := by
  have n1 := dv_nn ha.2.1
  subst hq
  subst hw
  have e1 : (dv ga na).tdiv (dv gb nb) = dv ga na / dv gb nb := Int.tdiv_eq_ediv_of_nonneg n1
  have e2 : (dv ga na).tmod (dv gb nb) = dv ga na % dv gb nb := Int.tmod_eq_emod_of_nonneg n1
  rcases ha.2.2.2 with ⟨c1, z1⟩ | ⟨c1, -, z1⟩ <;> rcases hb.2.2.2 with ⟨c2, z2⟩ | ⟨c2, -, z2⟩ <;> subst c1 <;> subst c2 <;> rw [z1, z2] <;> simp [Int.neg_tdiv, Int.tdiv_neg, Int.neg_tmod, Int.tmod_neg, e1, e2]
/-- the window that is next, and what stands below it -/
theorem dd_win {g : Nat → Int} {k nx na : Nat} {V : Int} (hg : dg g (na + 1)) (hk : k + nx ≤ na) (hz : ∀ i, k + 1 + nx ≤ i → i ≤ na → g i = 0) (hlt : dv g (na + 1) < V * 1000000 ^ (k + 1)) : wv g k (nx + 1) < V * 1000000 ∧ dv g (na + 1) = dv g k + 1000000 ^ k * wv g k (nx + 1) := by
  have e1 : dv g (na + 1) = dv g (k + (nx + 1)) := dv_trim (by omega) (fun i h1 h2 => hz i (by omega) (by omega))
  have e2 := dv_wv g k (nx + 1)
  have h0 := dv_nn (hg.sub (show k ≤ na + 1 by omega))
  refine ⟨?_, by rw [e1, e2]⟩
  rw [e1, e2, bp_s] at hlt
  have h1 : wv g k (nx + 1) * 1000000 ^ k < (V * 1000000) * 1000000 ^ k := by
    have a1 : (V * 1000000) * 1000000 ^ k = V * (1000000 ^ k * 1000000) := by grind
    have a2 : wv g k (nx + 1) * 1000000 ^ k = 1000000 ^ k * wv g k (nx + 1) := Int.mul_comm _ _
    omega
  exact Int.lt_of_mul_lt_mul_right h1 (Int.le_of_lt (bp_pos k))
theorem dd_low {g g2 : Nat → Int} {k nx na : Nat} {V w : Int} (hk : k + nx ≤ na) (hg : dg g (na + 1)) (hlo : ∀ i, i < k → g2 i = g i) (hz : ∀ i, k + nx ≤ i → i ≤ na → g2 i = 0) (hw : wv g2 k nx = w) (hV : w < V) : dv g2 (na + 1) = dv g k + 1000000 ^ k * w ∧ dv g2 (na + 1) < V * 1000000 ^ k := by
  have e1 : dv g2 (na + 1) = dv g2 (k + nx) := dv_trim (by omega) (fun i h1 h2 => hz i h1 (by omega))
  have e2 := dv_wv g2 k nx
  have e3 : dv g2 k = dv g k := dv_congr hlo
  have h1 := dv_lt (hg.sub (show k ≤ na + 1 by omega))
  have e4 : dv g2 (na + 1) = dv g k + 1000000 ^ k * w := by rw [e1, e2, e3, hw]
  refine ⟨e4, ?_⟩
  have h2 : (w + 1) * 1000000 ^ k ≤ V * 1000000 ^ k := Int.mul_le_mul_of_nonneg_right (by omega) (Int.le_of_lt (bp_pos k))
  have e5 : (w + 1) * 1000000 ^ k = 1000000 ^ k * w + 1000000 ^ k := by grind
  omega
theorem dd_step {A X X' V q w U lo lo2 P a0 a1 x : Int} (e0 : A = (X - a1) * V + (lo + P * U)) (eU : V * q + w = U) (e2 : a1 = a0 + x * P) (hX : X' = X + (q - x) * P) : A = (X' - a0) * V + (lo + P * w) := by
  subst e0 eU e2 hX
  grind
theorem dd_init {gx : Nat → Int} {nx na P : Nat} {bx zb A : Int} (hx : rp gx nx bx zb) (hA : A < 1000000 ^ na) (hP : P + nx = na + 1 ∧ 1 ≤ nx) : A < dv gx nx * 1000000 ^ P := by
  have h1 := hx.pos hP.2
  have h2 : 1000000 ^ (nx - 1) * 1000000 ^ P ≤ dv gx nx * 1000000 ^ P := Int.mul_le_mul_of_nonneg_right h1 (Int.le_of_lt (bp_pos P))
  rw [← bp_add, show nx - 1 + P = na by omega] at h2
  omega
end
section
/-! LEHMER'S WAY: Euclid's steps on the leading parts alone -/
/-- X, Y: the leading parts; U, V: the numbers; a, b, c, d, x, y: as the steps have them -/
def lh (X Y U V a b c d x y : Int) : Prop :=
  (x = a * X + b * Y ∧ y = c * X + d * Y) ∧
  ((0 ≤ a ∧ b ≤ 0 ∧ c ≤ 0 ∧ 0 ≤ d ∧ a * d - b * c = 1) ∨ (a ≤ 0 ∧ 0 ≤ b ∧ 0 ≤ c ∧ d ≤ 0 ∧ a * d - b * c = -1)) ∧
  (0 ≤ y ∧ y ≤ x ∧ 0 ≤ y + c ∧ 0 ≤ y + d ∧ 0 ≤ x + a ∧ 0 ≤ x + b) ∧
  (-x ≤ c ∧ c ≤ x ∧ -x ≤ d ∧ d ≤ x) ∧
  (-1000000000 ≤ a ∧ a ≤ 1000000000 ∧ -1000000000 ≤ b ∧ b ≤ 1000000000 ∧ -1000000000 ≤ c ∧ c ≤ 1000000000 ∧ -1000000000 ≤ d ∧ d ≤ 1000000000) ∧
  (0 ≤ c * U + d * V ∧ c * U + d * V ≤ a * U + b * V) ∧
  Int.gcd (a * U + b * V) (c * U + d * V) = Int.gcd U V ∧
  ((a = 1 ∧ b = 0 ∧ c = 0 ∧ d = 1) ∨ 2 * ((a * U + b * V) * (c * U + d * V)) ≤ U * V)
theorem sq_le {k x X : Int} (hk : 0 ≤ k) (hkx : k ≤ x) (h : k * x ≤ X) (hX : X < 1000000000000000000) : k ≤ 1000000000 := by
  rcases Int.lt_or_le 1000000000 k with q | q
  · have h1 : k * k ≤ k * x := Int.mul_le_mul_of_nonneg_left hkx hk
    have h2 : 1000000000 * 1000000000 ≤ k * k := Int.mul_le_mul (by omega) (by omega) (by omega) (by omega)
    omega
  · exact q
theorem eu_gcd (u v q : Int) : Int.gcd v (u - q * v) = Int.gcd u v := by
  rw [Int.gcd_sub_mul_right_right, Int.gcd_comm]
theorem eu_half {u v w q : Int} (hv : 0 ≤ v) (huv : v ≤ u) (hw : w = u - q * v) (h0 : 0 ≤ w) (h1 : w < v) (hq : 0 ≤ q) : 2 * (v * w) ≤ u * v := by
  have q1 : 1 ≤ q := by
    rcases Int.lt_or_le 0 q with h | h
    · omega
    · obtain rfl : q = 0 := by omega
      omega
  have h2 : 1 * v ≤ q * v := Int.mul_le_mul_of_nonneg_right q1 hv
  have h3 : v * (2 * w) ≤ v * u := Int.mul_le_mul_of_nonneg_left (by omega) hv
  have h4 : v * (2 * w) = 2 * (v * w) := by grind
  have h5 : v * u = u * v := Int.mul_comm _ _
  omega
theorem lh_init {X Y U V : Int} (hY : 0 ≤ Y) (hXY : Y ≤ X) (hX : 1 ≤ X) (hV : 0 ≤ V) (hUV : V ≤ U) : lh X Y U V 1 0 0 1 X Y := by
  refine ⟨⟨by omega, by omega⟩, Or.inl ⟨by decide, by decide, by decide, by decide, by decide⟩, by omega, by omega, by decide, ?_, ?_, Or.inl ⟨rfl, rfl, rfl, rfl⟩⟩
  · rw [Int.one_mul, Int.zero_mul, Int.one_mul, Int.zero_mul]; omega
  · rw [Int.one_mul, Int.zero_mul, Int.one_mul, Int.zero_mul, Int.add_zero, Int.zero_add]
theorem k_nn {K z : Int} (hK : 0 < K) (h : 0 ≤ K * z) : 0 ≤ z := by
  rcases Int.lt_or_le z 0 with q | q
  · have := Int.mul_neg_of_pos_of_neg hK q
    omega
  · exact q
theorem k_lt {K z w : Int} (hK : 0 < K) (h : K * z < K * w) : z < w := Int.lt_of_mul_lt_mul_left h (Int.le_of_lt hK)
/-- a quotient that both ways to cut the numbers off agree on is the quotient -/
theorem lh_step {X Y U V K P u0 v0 a b c d x y q : Int} (hK : 0 < K) (hU : K * U = X * P + u0) (hV : K * V = Y * P + v0) (hP : 0 < P) (hu : 0 ≤ u0 ∧ u0 < P) (hv : 0 ≤ v0 ∧ v0 < P) (hX : X < 1000000000000000000) (hY : Y < 1000000000000000000) (h : lh X Y U V a b c d x y) (hc : 0 < y + c) (hd : 0 < y + d) (hq1 : q = (x + a) / (y + c)) (hq2 : q = (x + b) / (y + d)) : lh X Y U V c d (a - q * c) (b - q * d) y (x - q * y) := by
  obtain ⟨⟨ex, ey⟩, hs, ⟨y0, yx, yc, yd, xa, xb⟩, -, hb, ⟨v1, v2⟩, hg, hm⟩ := h
  have q0 : 0 ≤ q := by rw [hq1]; exact Int.ediv_nonneg xa (by omega)
  have a1 : q * (y + c) ≤ x + a := by rw [hq1]; exact Int.ediv_mul_le _ (by omega)
  have a2 : x + a < (q + 1) * (y + c) := by rw [hq1]; exact Int.lt_ediv_add_one_mul_self _ hc
  have b1 : q * (y + d) ≤ x + b := by rw [hq2]; exact Int.ediv_mul_le _ (by omega)
  have b2 : x + b < (q + 1) * (y + d) := by rw [hq2]; exact Int.lt_ediv_add_one_mul_self _ hd
  clear hq1 hq2
  rw [Int.mul_add] at a1 b1
  rw [Int.add_mul, Int.one_mul, Int.mul_add] at a2 b2
  obtain ⟨c', ec⟩ : ∃ c', c' = a - q * c := ⟨_, rfl⟩
  obtain ⟨d', ed⟩ : ∃ d', d' = b - q * d := ⟨_, rfl⟩
  obtain ⟨y', ey'⟩ : ∃ y', y' = x - q * y := ⟨_, rfl⟩
  have k1 : 0 ≤ y' + c' := by omega
  have k2 : 0 ≤ y' + d' := by omega
  have k3 : y' + c' < y + c := by omega
  have k4 : y' + d' < y + d := by omega
  rw [← ec, ← ed, ← ey']
  have ey2 : y' = c' * X + d' * Y := by rw [ey', ec, ed, ex, ey]; grind
  have edet : c * d' - d * c' = -(a * d - b * c) := by rw [ec, ed]; grind
  have w1 : c' * U + d' * V = (a * U + b * V) - q * (c * U + d * V) := by rw [ec, ed]; grind
  have w2 : K * (c' * U + d' * V) = y' * P + (c' * u0 + d' * v0) := by
    have e1 : K * (c' * U + d' * V) = c' * (K * U) + d' * (K * V) := by grind
    rw [e1, hU, hV, ey2]; grind
  have w3 : K * (c * U + d * V) = y * P + (c * u0 + d * v0) := by
    have e1 : K * (c * U + d * V) = c * (K * U) + d * (K * V) := by grind
    rw [e1, hU, hV, ey]; grind
  -- the sizes, by the two patterns of signs
  have core : (0 ≤ c' * U + d' * V) ∧ (c' * U + d' * V < c * U + d * V) ∧ 0 ≤ y' ∧ y' ≤ y ∧ (-y ≤ c' ∧ c' ≤ y ∧ -y ≤ d' ∧ d' ≤ y) ∧ ((0 ≤ c ∧ d ≤ 0 ∧ c' ≤ 0 ∧ 0 ≤ d' ∧ c * d' - d * c' = 1) ∨ (c ≤ 0 ∧ 0 ≤ d ∧ 0 ≤ c' ∧ d' ≤ 0 ∧ c * d' - d * c' = -1)) ∧ (-1000000000 ≤ c' ∧ c' ≤ 1000000000 ∧ -1000000000 ≤ d' ∧ d' ≤ 1000000000) := by
    rcases hs with ⟨s1, s2, s3, s4, s5⟩ | ⟨s1, s2, s3, s4, s5⟩
    · have qc : q * c ≤ 0 := Int.mul_nonpos_of_nonneg_of_nonpos q0 s3
      have qd : 0 ≤ q * d := Int.mul_nonneg q0 s4
      have c0 : 0 ≤ c' := by omega
      have d0 : d' ≤ 0 := by omega
      have f1 : d' * P ≤ d' * v0 := Int.mul_le_mul_of_nonpos_left d0 (by omega)
      have f2 : 0 ≤ c' * u0 := Int.mul_nonneg c0 hu.1
      have f3 : 0 ≤ (y' + d') * P := Int.mul_nonneg k2 (by omega)
      have f4 : (y' + d') * P = y' * P + d' * P := Int.add_mul _ _ _
      have g1 : (c - c') * P ≤ (c - c') * u0 := Int.mul_le_mul_of_nonpos_left (by omega) (by omega)
      have g2 : 0 ≤ (d - d') * v0 := Int.mul_nonneg (by omega) hv.1
      have g3 : 1 * P ≤ (y + c - (y' + c')) * P := Int.mul_le_mul_of_nonneg_right (by omega) (by omega)
      have g4 : (y + c - (y' + c')) * P = y * P - y' * P + (c - c') * P := by grind
      have g5 : (c - c') * u0 = c * u0 - c' * u0 := Int.sub_mul _ _ _
      have g6 : (d - d') * v0 = d * v0 - d' * v0 := Int.sub_mul _ _ _
      have n1 : Y = (c') * y + (-c) * y' := by rw [ey, ey2]; grind
      have n2 : X = (-d') * y + d * y' := by rw [ey, ey2]; grind
      have y'0 : 0 ≤ y' := by omega
      have m1 : 0 ≤ (-c) * y' := Int.mul_nonneg (by omega) y'0
      have m2 : 0 ≤ d * y' := Int.mul_nonneg s4 y'0
      have r1 := sq_le c0 (show c' ≤ y by omega) (show c' * y ≤ Y by omega) hY
      have r2 := sq_le (show 0 ≤ -d' by omega) (show -d' ≤ y by omega) (show -d' * y ≤ X by omega) hX
      refine ⟨k_nn hK (by omega), k_lt hK (by omega), y'0, by omega, by omega, Or.inr ⟨s3, s4, c0, d0, by omega⟩, by omega⟩
    · have qc : 0 ≤ q * c := Int.mul_nonneg q0 s3
      have qd : q * d ≤ 0 := Int.mul_nonpos_of_nonneg_of_nonpos q0 s4
      have c0 : c' ≤ 0 := by omega
      have d0 : 0 ≤ d' := by omega
      have f1 : c' * P ≤ c' * u0 := Int.mul_le_mul_of_nonpos_left c0 (by omega)
      have f2 : 0 ≤ d' * v0 := Int.mul_nonneg d0 hv.1
      have f3 : 0 ≤ (y' + c') * P := Int.mul_nonneg k1 (by omega)
      have f4 : (y' + c') * P = y' * P + c' * P := Int.add_mul _ _ _
      have g1 : (d - d') * P ≤ (d - d') * v0 := Int.mul_le_mul_of_nonpos_left (by omega) (by omega)
      have g2 : 0 ≤ (c - c') * u0 := Int.mul_nonneg (by omega) hu.1
      have g3 : 1 * P ≤ (y + d - (y' + d')) * P := Int.mul_le_mul_of_nonneg_right (by omega) (by omega)
      have g4 : (y + d - (y' + d')) * P = y * P - y' * P + (d - d') * P := by grind
      have g5 : (c - c') * u0 = c * u0 - c' * u0 := Int.sub_mul _ _ _
      have g6 : (d - d') * v0 = d * v0 - d' * v0 := Int.sub_mul _ _ _
      have n1 : Y = (-c') * y + c * y' := by rw [ey, ey2]; grind
      have n2 : X = d' * y + (-d) * y' := by rw [ey, ey2]; grind
      have y'0 : 0 ≤ y' := by omega
      have m1 : 0 ≤ c * y' := Int.mul_nonneg s3 y'0
      have m2 : 0 ≤ (-d) * y' := Int.mul_nonneg (by omega) y'0
      have r1 := sq_le (show 0 ≤ -c' by omega) (show -c' ≤ y by omega) (show -c' * y ≤ Y by omega) hY
      have r2 := sq_le d0 (show d' ≤ y by omega) (show d' * y ≤ X by omega) hX
      refine ⟨k_nn hK (by omega), k_lt hK (by omega), y'0, by omega, by omega, Or.inl ⟨s3, s4, c0, d0, by omega⟩, by omega⟩
  obtain ⟨t1, t2, t3, t4, t5, t6, t7⟩ := core
  unfold lh
  refine ⟨⟨ey, ey2⟩, t6, by omega, t5, by omega, ⟨t1, by omega⟩, ?_, ?_⟩
  · rw [← hg, w1]
    exact eu_gcd _ _ _
  · right
    have hlast := eu_half v1 v2 w1 t1 t2 q0
    have hp : 0 ≤ (c * U + d * V) * (c' * U + d' * V) := Int.mul_nonneg v1 t1
    rcases hm with ⟨rfl, rfl, rfl, rfl⟩ | hm
    · rw [Int.one_mul, Int.zero_mul, Int.one_mul, Int.zero_mul, Int.add_zero, Int.zero_add] at hlast
      rw [Int.zero_mul, Int.one_mul, Int.zero_add]
      exact hlast
    · have hp2 : 0 ≤ (a * U + b * V) * (c * U + d * V) := Int.mul_nonneg (by omega) v1
      omega
end
section
/-! NEWTON'S STEPS down to a root: s the root of x, g the guess, k its next -/
/-- next is never below the root -/
theorem nw_ge {x s g : Int} (hg : 0 < g) (hs : s * s ≤ x) (hs0 : 0 ≤ s) : s ≤ (g + x / g) / 2 := by
  have h1 : 2 * s - g ≤ x / g := by
    rw [Int.le_ediv_iff_mul_le hg]
    have h2 : 0 ≤ (g - s) * (g - s) := by
      rcases Int.le_total 0 (g - s) with q | q
      · exact Int.mul_nonneg q q
      · have := Int.mul_nonneg (show 0 ≤ -(g - s) by omega) (show 0 ≤ -(g - s) by omega)
        rw [Int.neg_mul_neg] at this
        exact this
    have h3 : (2 * s - g) * g = s * s - (g - s) * (g - s) := by grind
    omega
  omega
/-- above the root it falls -/
theorem nw_lt {x s g : Int} (hg : s < g) (hs0 : 0 ≤ s) (hx : x < (s + 1) * (s + 1)) : (g + x / g) / 2 < g := by
  have h1 : x / g < g := by
    refine Int.ediv_lt_of_lt_mul (by omega) ?_
    have h2 : (s + 1) * (s + 1) ≤ g * g := Int.mul_le_mul (by omega) (by omega) (by omega) (by omega)
    omega
  omega
/-- at the root it stays -/
theorem nw_eq {x s : Int} (hs0 : 0 < s) (hs : s * s ≤ x) : s ≤ (s + x / s) / 2 := nw_ge hs0 hs (by omega)
/-- how near the next one is -/
theorem nw_near {x s g : Int} (hg : s ≤ g) (hs0 : 0 < s) (hs : s * s ≤ x) (hx : x < (s + 1) * (s + 1)) : 2 * s * ((g + x / g) / 2 - s) ≤ (g - s) * (g - s) + 2 * s := by
  have h0 := nw_ge (show 0 < g by omega) hs (by omega)
  have h1 : x / g * g ≤ x := Int.ediv_mul_le x (by omega)
  generalize x / g = w at h0 h1 ⊢
  obtain ⟨k, hk⟩ : ∃ k, k = (g + w) / 2 := ⟨_, rfl⟩
  rw [← hk] at h0 ⊢
  have h2 : 2 * k ≤ g + w := by omega
  have h3 : 2 * s * (k - s) ≤ 2 * g * (k - s) := Int.mul_le_mul_of_nonneg_right (by omega) (by omega)
  have h4 : g * (2 * k) ≤ g * (g + w) := Int.mul_le_mul_of_nonneg_left h2 (by omega)
  have h5 : 2 * g * (k - s) = g * (2 * k) - 2 * (g * s) := by grind
  have h6 : g * (g + w) = g * g + w * g := by grind
  have h7 : (g - s) * (g - s) = g * g - 2 * (g * s) + s * s := by grind
  have h8 : (s + 1) * (s + 1) = s * s + 2 * s + 1 := by grind
  omega
theorem nw_fast {s d d' M : Int} (hM : 4 ≤ M) (hd : 0 ≤ d) (hdd : d' ≤ d) (h : M * (d - 2) ≤ s) (hs : 0 ≤ s) (hn : 2 * s * d' ≤ d * d + 2 * s) : 2 * (M * M) * (d' - 2) ≤ s := by
  rcases Int.lt_or_le 2 d' with q | q
  · obtain ⟨t, ht⟩ : ∃ t, t = d - 2 := ⟨_, rfl⟩
    obtain ⟨w, hw⟩ : ∃ w, w = d' - 2 := ⟨_, rfl⟩
    rw [← ht] at h
    rw [← hw]
    have t1 : 1 ≤ t := by omega
    have m1 : 4 * t ≤ M * t := Int.mul_le_mul_of_nonneg_right hM (by omega)
    have s4 : 4 ≤ s := by omega
    have e1 : 2 * s * d' = 2 * (s * w) + 4 * s := by rw [show d' = w + 2 by omega]; grind
    have e2 : d * d = t * t + 4 * t + 4 := by rw [show d = t + 2 by omega]; grind
    have h1 : 2 * (s * w) ≤ t * t := by omega
    have h2 : (M * t) * (M * t) ≤ s * s := Int.mul_le_mul h h (Int.mul_nonneg (by omega) (by omega)) hs
    have h3 : (M * M) * (2 * (s * w)) ≤ (M * M) * (t * t) := Int.mul_le_mul_of_nonneg_left h1 (Int.mul_nonneg (by omega) (by omega))
    have e3 : (M * M) * (t * t) = (M * t) * (M * t) := by grind
    have e4 : (M * M) * (2 * (s * w)) = (2 * (M * M) * w) * s := by grind
    exact Int.le_of_mul_le_mul_right (by omega) (show 0 < s by omega)
  · have : 0 ≤ 2 * (M * M) := Int.mul_nonneg (by decide) (Int.mul_nonneg (by omega) (by omega))
    have := Int.mul_nonpos_of_nonneg_of_nonpos this (show d' - 2 ≤ 0 by omega)
    omega
/-- how near after so many steps -/
def nwM : Nat → Int
  | 0 => 1000
  | k + 1 => 2 * (nwM k * nwM k)
theorem nwM_ge (k : Nat) : 4 ≤ nwM k := by
  induction k with
  | zero => decide
  | succ k ih =>
    show 4 ≤ 2 * (nwM k * nwM k)
    have := Int.mul_le_mul ih ih (by decide) (by omega)
    omega
theorem nwM_6 : (1000000 : Int) ^ 26 < nwM 6 := by decide +kernel
/-- behind k steps the guess is s + d -/
def nwI (s d : Int) (k : Nat) : Prop := 0 ≤ d ∧ ((k ≤ 6 ∧ nwM k * (d - 2) ≤ s) ∨ (6 ≤ k ∧ d ≤ 8 - (k : Int)))
theorem nwI_step {s d d' : Int} {k : Nat} (hs : 0 ≤ s) (hs2 : s < 1000000 ^ 26) (h : nwI s d k) (h0 : 0 ≤ d') (hlt : d' < d) (hn : 2 * s * d' ≤ d * d + 2 * s) : nwI s d' (k + 1) := by
  refine ⟨h0, ?_⟩
  rcases h.2 with ⟨hk, h1⟩ | ⟨hk, h1⟩
  · rcases Nat.lt_or_ge k 6 with q | q
    · left
      exact ⟨by omega, nw_fast (nwM_ge k) h.1 (by omega) h1 hs hn⟩
    · right
      obtain rfl : k = 6 := by omega
      have h6 := nwM_6
      have d2 : d ≤ 2 := by
        rcases Int.lt_or_le 2 d with w | w
        · have := Int.mul_le_mul_of_nonneg_left (show 1 ≤ d - 2 by omega) (show 0 ≤ nwM 6 by omega)
          omega
        · exact w
      omega
  · right
    omega
theorem nwI_end {s d : Int} {k : Nat} (h : nwI s d k) (hk : 9 ≤ k) : False := by
  rcases h.2 with ⟨h1, -⟩ | ⟨-, h1⟩
  · omega
  · have := h.1; omega
theorem nwI_0 {s d : Int} (hd : 0 ≤ d) (h : 1000 * (d - 2) ≤ s) : nwI s d 0 := ⟨hd, Or.inl ⟨by decide, h⟩⟩
end
section
/-! what the reads answer -/
theorem wv_cons (g : Nat → Int) (p k : Nat) : wv g p (k + 1) = g p + 1000000 * wv g (p + 1) k := by
  have h := dv_split (fun i => g (p + i)) 1 k
  have e1 : dv (fun i => g (p + i)) 1 = g p := by rw [dv_s, dv_0]; simp
  rw [e1, Int.pow_one, Nat.add_comm 1 k] at h
  show dv (fun i => g (p + i)) (k + 1) = _
  rw [h]
  congr 2
  show dv (fun i => g (p + (1 + i))) k = dv (fun i => g (p + 1 + i)) k
  congr 1
  funext i
  congr 1
  omega
theorem wv_all (g : Nat → Int) (n : Nat) : wv g 0 n = dv g n := by
  show dv (fun i => g (0 + i)) n = dv g n
  congr 1
  funext i
  rw [Nat.zero_add]
/-- the part of a place -/
theorem dv_part {g : Nat → Int} {n j : Nat} (h : dg g n) (hj : j < n) : dv g n / 1000000 ^ j % 1000000 = g j := by
  have e1 : dv g n = dv g j + 1000000 ^ j * wv g j (n - j) := by rw [← dv_wv]; congr 1; omega
  have h1 := dv_nn (h.sub (show j ≤ n by omega))
  have h2 := dv_lt (h.sub (show j ≤ n by omega))
  have e2 : dv g n / 1000000 ^ j = wv g j (n - j) := by
    rw [e1, Int.add_mul_ediv_left _ _ (Int.ne_of_gt (bp_pos j)), Int.ediv_eq_zero_of_lt h1 h2, Int.zero_add]
  obtain ⟨k, hk⟩ : ∃ k, n - j = k + 1 := ⟨n - j - 1, by omega⟩
  rw [e2, hk, wv_cons, Int.add_mul_emod_self_left]
  exact Int.emod_eq_of_lt (h j hj).1 (h j hj).2
theorem tn_in (i : Nat) (h : i < 6) : tn_ i = 10 ^ i := by
  rcases i with _ | _ | _ | _ | _ | _ | i
  all_goals first | rfl | omega
/-- k is how many digits m has -/
def isnd (m : Int) (k : Nat) : Prop := (m = 0 ∧ k = 1) ∨ (1 ≤ k ∧ 10 ^ (k - 1) ≤ m ∧ m < 10 ^ k)
theorem tp_pos (n : Nat) : (0 : Int) < 10 ^ n := Int.pow_pos (by decide)
theorem tp_s (n : Nat) : (10 : Int) ^ (n + 1) = 10 ^ n * 10 := Int.pow_succ _ _
theorem tp_le {a b : Nat} (h : a ≤ b) : (10 : Int) ^ a ≤ 10 ^ b := by
  induction h with
  | refl => exact Int.le_refl _
  | step h ih =>
    rename_i k
    have e := tp_s k
    have h2 := tp_pos k
    show (10 : Int) ^ a ≤ 10 ^ (k + 1)
    omega
theorem bp_tp (n : Nat) : (1000000 : Int) ^ n = 10 ^ (6 * n) := by
  rw [Int.pow_mul]
  rfl
theorem isnd_uniq {m : Int} {k j : Nat} (h1 : isnd m k) (h2 : isnd m j) : k = j := by
  rcases h1 with ⟨a1, a2⟩ | ⟨a1, a2, a3⟩ <;> rcases h2 with ⟨b1, b2⟩ | ⟨b1, b2, b3⟩
  · omega
  · have := tp_pos (j - 1); omega
  · have := tp_pos (k - 1); omega
  · rcases Nat.lt_trichotomy k j with q | q | q
    · have := tp_le (show k ≤ j - 1 by omega); omega
    · exact q
    · have := tp_le (show j ≤ k - 1 by omega); omega
theorem nd_of {g : Nat → Int} {n c : Nat} (h : cn g n) (hn : 0 < n) (hc : 1 ≤ c ∧ c ≤ 6) (h1 : 10 ^ (c - 1) ≤ g (n - 1)) (h2 : g (n - 1) < 10 ^ c) : isnd (dv g n) ((n - 1) * 6 + c) := by
  obtain ⟨k, rfl⟩ : ∃ k, n = k + 1 := ⟨n - 1, by omega⟩
  rw [Nat.add_sub_cancel] at h1 h2 ⊢
  have a1 := dv_nn (h.2.1.sub (Nat.le_succ k))
  have a2 := dv_lt (h.2.1.sub (Nat.le_succ k))
  have b := bp_pos k
  right
  refine ⟨by omega, ?_, ?_⟩
  · have e : (10 : Int) ^ (k * 6 + c - 1) = 10 ^ (c - 1) * 1000000 ^ k := by rw [bp_tp, ← Int.pow_add]; congr 1; omega
    have m := Int.mul_le_mul_of_nonneg_right h1 (Int.le_of_lt b)
    rw [e, dv_s]
    omega
  · have e : (10 : Int) ^ (k * 6 + c) = 10 ^ c * 1000000 ^ k := by rw [bp_tp, ← Int.pow_add]; congr 1; omega
    have m := Int.mul_le_mul_of_nonneg_right (show g k + 1 ≤ 10 ^ c by omega) (Int.le_of_lt b)
    rw [Int.add_mul, Int.one_mul] at m
    rw [e, dv_s]
    omega
theorem dig_low (w : Int) {i : Nat} (hi : i < 6) : w % 1000000 / 10 ^ i % 10 = w / 10 ^ i % 10 := by
  rcases i with _ | _ | _ | _ | _ | _ | i
  · show w % 1000000 / 1 % 10 = w / 1 % 10; omega
  · show w % 1000000 / 10 % 10 = w / 10 % 10; omega
  · show w % 1000000 / 100 % 10 = w / 100 % 10; omega
  · show w % 1000000 / 1000 % 10 = w / 1000 % 10; omega
  · show w % 1000000 / 10000 % 10 = w / 10000 % 10; omega
  · show w % 1000000 / 100000 % 10 = w / 100000 % 10; omega
  · omega
theorem dig_at {g : Nat → Int} {n : Nat} (h : dg g n) (q : Nat) : pz g n (q / 6) / 10 ^ (q % 6) % 10 = dv g n / 10 ^ q % 10 := by
  have e : (10 : Int) ^ q = 1000000 ^ (q / 6) * 10 ^ (q % 6) := by rw [bp_tp, ← Int.pow_add]; congr 1; omega
  rw [e, ← Int.ediv_ediv_of_nonneg (Int.le_of_lt (bp_pos _)), ← dig_low (dv g n / 1000000 ^ (q / 6)) (Nat.mod_lt q (by decide))]
  congr 2
  rcases Nat.lt_or_ge (q / 6) n with c | c
  · rw [pz_lt c, dv_part h c]
  · rw [pz_ge c]
    have h1 := dv_lt h
    have h2 := bp_le c
    rw [Int.ediv_eq_zero_of_lt (dv_nn h) (by omega)]
    rfl
theorem tn_rng (i : Nat) (h : i < 6) : 0 < tn_ i ∧ tn_ i ≤ 100000 := by
  rcases i with _ | _ | _ | _ | _ | _ | i
  all_goals first | decide | omega
theorem fc_in (i : Nat) (h : i < 8) : 0 < fc_ i ∧ fc_ i ≤ 8 := by
  rcases i with _ | _ | _ | _ | _ | _ | _ | _ | i
  all_goals first | decide | omega
/-- the product of the first factors -/
def fp_ : Nat → Int
  | 0 => 1
  | i + 1 => fp_ i * fc_ i
theorem fp_0 : fp_ 0 = 1 := rfl
theorem fp_s (i : Nat) : fp_ (i + 1) = fp_ i * fc_ i := rfl
theorem fp_8 : fp_ 8 = 1000000 := by decide
theorem mod_mul (t a b k : Int) : t * a % k * b % k = t * (a * b) % k := by
  rw [Int.mul_emod (t * a % k), Int.emod_emod_of_dvd _ (Int.dvd_refl k), ← Int.mul_emod, Int.mul_assoc]
theorem mod_horner (w x k : Int) : (w % k * fp_ 8 % k + x) % k = (x + 1000000 * w) % k := by
  rw [fp_8, Int.emod_add_emod, Int.add_comm x, Int.add_emod, Int.mul_emod, Int.emod_emod_of_dvd _ (Int.dvd_refl k), ← Int.mul_emod, ← Int.add_emod, Int.mul_comm w]
theorem mul_rng {x a : Int} (hx : 0 ≤ x) (hx2 : x ≤ 1152921504606846975) (ha : 0 < a ∧ a ≤ 8) : 0 ≤ x * a ∧ x * a ≤ 1152921504606846976 * 8 - 8 := by
  have h1 := Int.mul_nonneg hx (Int.le_of_lt ha.1)
  have h2 := Int.mul_le_mul hx2 ha.2 (Int.le_of_lt ha.1) (by decide)
  omega
theorem neg_mod0 {z a k : Int} (hz : z = -a) (h : a % k = 0) : z % k = 0 := by
  subst hz
  exact Int.emod_eq_zero_of_dvd (Int.dvd_neg.mpr (Int.dvd_of_emod_eq_zero h))
theorem neg_mod1 {z a k : Int} (hz : z = -a) (hk : 0 < k) (h : a % k ≠ 0) : z % k = k - a % k := by
  subst hz
  have h1 := Int.emod_nonneg a (show k ≠ 0 by omega)
  have h2 := Int.emod_lt_of_pos a hk
  have h3 := Int.mul_ediv_add_emod a k
  have e : -a = (k - a % k) + k * (-(a / k) - 1) := by
    have : k * (-(a / k) - 1) = -(k * (a / k)) - k := by grind
    omega
  rw [e, Int.add_mul_emod_self_left]
  exact Int.emod_eq_of_lt (by omega) (by omega)
end
section
/-! more pure rows -/
theorem tmod_in (y : Int) : -1000000 < y.tmod 1000000 ∧ y.tmod 1000000 < 1000000 := by
  have h := Int.natAbs_tmod y 1000000
  have e3 : (1000000 : Int).natAbs = 1000000 := rfl
  rw [e3] at h
  have := Nat.mod_lt y.natAbs (show 1000000 > 0 by decide)
  omega
end
section
abbrev rm_X1_isZero : Room := { frames := 0, cells := 0, slots := 0, locals := 0 }
set_option maxHeartbeats 4000000 in
set_option maxRecDepth 100000 in
/-- isZero -/
theorem t_X1_isZero (l : Launch) (D : va_G) (kA : Nat → ClassId) (sz : Nat) (f0 : mw_M) {h r : Nat} {n b : Int} (hh : f0 h = some (wh r n b)) (hn : 0 ≤ n ∧ n ≤ 104) : mw_Mi l yX1_isZero (Cond.code yX1_isZero cX1_isZero 1 ((some .boolean)) :: gw) rm_X1_isZero D vwCl (tyL kA) st_S [.ref h] f0 sz (fun v f => v = iI (if n = 0 then 1 else 0) ∧ f = f0) 0 0 := by
  refine mw_ofi (cc := cX1_isZero) (maxL := 1) (ret := (some .boolean)) (by decide) rfl (Nat.le_of_ble_eq_true rfl) ?_
  intro p e s m below meth c A ls Q hQ B hrt hnm hA hI hSt hl
  have hl : lv_has ls 1 [(0, .ref h)] := hl
  obtain ⟨f, hI, hf⟩ : ∃ f, mw_I D vwCl A s s.heap [] f ∧ f = f0 := ⟨f0, hI, rfl⟩
  refine mv_aload_n B dX1_isZero_0 rfl (lv_at hl 0 rfl) ?_
  refine ww_size B hI (by rw [hf]; exact hh) uin_X1 kw_25 dX1_isZero_1 ?_
  refine mv_if_ne (tgt := 11) B dX1_isZero_4 (by decide) (by omega) (fun hc => ?_) (fun hc => ?_)
  · refine mv_iconst B dX1_isZero_11 ?_
    exact mw_zret B hQ hrt (by decide) hI ⟨by rw [if_neg hc], hf⟩ dX1_isZero_12
  · refine mv_iconst B dX1_isZero_7 ?_
    refine mv_goto (tgt := 12) B dX1_isZero_8 (by decide) ?_
    exact mw_zret B hQ hrt (by decide) hI ⟨by rw [if_pos hc], hf⟩ dX1_isZero_12
abbrev rm_X1_isTooLong : Room := { frames := 0, cells := 0, slots := 0, locals := 0 }
set_option maxHeartbeats 4000000 in
set_option maxRecDepth 100000 in
/-- isTooLong -/
theorem t_X1_isTooLong (l : Launch) (D : va_G) (kA : Nat → ClassId) (sz : Nat) (f0 : mw_M) {h r : Nat} {n b : Int} (hh : f0 h = some (wh r n b)) (hn : 0 ≤ n ∧ n ≤ 104) : mw_Mi l yX1_isTooLong (Cond.code yX1_isTooLong cX1_isTooLong 1 ((some .boolean)) :: gw) rm_X1_isTooLong D vwCl (tyL kA) st_S [.ref h] f0 sz (fun v f => v = iI (if n ≤ 50 then 0 else 1) ∧ f = f0) 0 0 := by
  refine mw_ofi (cc := cX1_isTooLong) (maxL := 1) (ret := (some .boolean)) (by decide) rfl (Nat.le_of_ble_eq_true rfl) ?_
  intro p e s m below meth c A ls Q hQ B hrt hnm hA hI hSt hl
  have hl : lv_has ls 1 [(0, .ref h)] := hl
  obtain ⟨f, hI, hf⟩ : ∃ f, mw_I D vwCl A s s.heap [] f ∧ f = f0 := ⟨f0, hI, rfl⟩
  refine mv_aload_n B dX1_isTooLong_0 rfl (lv_at hl 0 rfl) ?_
  refine ww_size B hI (by rw [hf]; exact hh) uin_X1 kw_25 dX1_isTooLong_1 ?_
  refine mv_bipush B dX1_isTooLong_4 (by decide) ?_
  refine mv_icmp_le (tgt := 13) B dX1_isTooLong_6 (by decide) (by omega) (fun hc => ?_) (fun hc => ?_)
  · refine mv_iconst B dX1_isTooLong_13 ?_
    exact mw_zret B hQ hrt (by decide) hI ⟨by rw [if_pos hc], hf⟩ dX1_isTooLong_14
  · refine mv_iconst B dX1_isTooLong_9 ?_
    refine mv_goto (tgt := 14) B dX1_isTooLong_10 (by decide) ?_
    exact mw_zret B hQ hrt (by decide) hI ⟨by rw [if_neg hc], hf⟩ dX1_isTooLong_14
abbrev rm_X1_turnSign : Room := { frames := 0, cells := 0, slots := 0, locals := 0 }
set_option maxHeartbeats 4000000 in
set_option maxRecDepth 100000 in
/-- turnSign -/
theorem t_X1_turnSign (l : Launch) (D : va_G) (kA : Nat → ClassId) (sz : Nat) (f0 : mw_M) {h r : Nat} {g : Nat → Int} {n b : Int} (hh : f0 h = some (wh r n b)) (hr : f0 r = some (mw_ar (kA 0) 104 g)) (hn : 0 ≤ n ∧ n ≤ 104) (hb : b = 0 ∨ b = 1) : mw_Mv l yX1_turnSign (Cond.code yX1_turnSign cX1_turnSign 1 (none) :: gw) rm_X1_turnSign D vwCl (tyL kA) st_S [.ref h] f0 sz (fun f => wSt (kA 0) f0 h r f g n (if b = 0 ∧ 0 < n then 1 else 0)) 0 0 := by
  refine mw_ofv (cc := cX1_turnSign) (maxL := 1) (ret := none) (by decide) rfl (Nat.le_of_ble_eq_true rfl) ?_
  intro p e s m below meth c A ls Q hQ B hrt hnm hA hI hSt hl
  have hl : lv_has ls 1 [(0, .ref h)] := hl
  obtain ⟨f, hI, hT⟩ : ∃ f, mw_I D vwCl A s s.heap [] f ∧ wSt (kA 0) f0 h r f g n b := ⟨f0, hI, wSt.self hh hr⟩
  refine mv_aload_n B dX1_turnSign_0 rfl (lv_at hl 0 rfl) ?_
  refine mv_aload_n B dX1_turnSign_1 rfl (lv_at hl 0 rfl) ?_
  refine ww_below B hI hT.1 uin_X1 kw_27 dX1_turnSign_2 ?_
  refine mv_if_ne (tgt := 19) B dX1_turnSign_5 (by decide) (by omega) (fun hc => ?_) (fun hc => ?_)
  · refine mv_iconst B dX1_turnSign_19 ?_
    refine ww_putb B hI hT (by decide) uin_X1 kw_27 dX1_turnSign_20 (fun f H locs hT hI => ?_)
    exact mw_vret B hQ hrt hI (by rw [if_neg (by omega)]; exact hT) dX1_turnSign_23
  · refine mv_aload_n B dX1_turnSign_8 rfl (lv_at hl 0 rfl) ?_
    refine ww_size B hI hT.1 uin_X1 kw_25 dX1_turnSign_9 ?_
    refine mv_if_le (tgt := 19) B dX1_turnSign_12 (by decide) (by omega) (fun hc2 => ?_) (fun hc2 => ?_)
    · refine mv_iconst B dX1_turnSign_19 ?_
      refine ww_putb B hI hT (by decide) uin_X1 kw_27 dX1_turnSign_20 (fun f H locs hT hI => ?_)
      exact mw_vret B hQ hrt hI (by rw [if_neg (by omega)]; exact hT) dX1_turnSign_23
    · refine mv_iconst B dX1_turnSign_15 ?_
      refine mv_goto (tgt := 20) B dX1_turnSign_16 (by decide) ?_
      refine ww_putb B hI hT (by decide) uin_X1 kw_27 dX1_turnSign_20 (fun f H locs hT hI => ?_)
      exact mw_vret B hQ hrt hI (by rw [if_pos (by omega)]; exact hT) dX1_turnSign_23
abbrev rm_X1_trimTo : Room := { frames := 0, cells := 0, slots := 0, locals := 0 }
set_option maxHeartbeats 4000000 in
set_option maxRecDepth 100000 in
/-- trimTo: the size falls to the highest part that is not 0 -/
theorem t_X1_trimTo (l : Launch) (D : va_G) (kA : Nat → ClassId) (sz : Nat) (f0 : mw_M) {h r : Nat} {g : Nat → Int} {n b : Int} {k : Nat} (hh : f0 h = some (wh r n b)) (hr : f0 r = some (mw_ar (kA 0) 104 g)) (hk : k ≤ 104) (hg : dg g k) : mw_Mv l yX1_trimTo (Cond.code yX1_trimTo cX1_trimTo 3 (none) :: gw) rm_X1_trimTo D vwCl (tyL kA) st_S [.ref h, .int (iI ((k : Int)))] f0 sz (fun f => ∃ n' : Nat, n' ≤ k ∧ (∀ i, n' ≤ i → i < k → g i = 0) ∧ (0 < n' → g (n' - 1) ≠ 0) ∧ wSt (kA 0) f0 h r f g (n' : Int) (if n' = 0 then 0 else b)) 0 0 := by
  refine mw_ofv (cc := cX1_trimTo) (maxL := 3) (ret := none) (by decide) rfl (Nat.le_of_ble_eq_true rfl) ?_
  intro p e s m below meth c A ls Q hQ B hrt hnm hA hI hSt hl
  have hl : lv_has ls 3 [(0, .ref h), (1, .int (iI ((k : Int))))] := hl
  obtain ⟨f, hI, hT⟩ : ∃ f, mw_I D vwCl A s s.heap [] f ∧ wSt (kA 0) f0 h r f g n b := ⟨f0, hI, wSt.self hh hr⟩
  refine mv_iload_n B dX1_trimTo_0 rfl (lv_at hl 1 rfl) ?_
  refine mv_istore_n (lv' := [(2, .int (iI ((k : Int)))), (0, .ref h), (1, .int (iI ((k : Int))))]) B dX1_trimTo_1 rfl hl (by decide) rfl (fun ls hl => ?_)
  have loop : ∀ (μ j : Nat) (x : Int) (ls : Array Slot), j < μ → x = (j : Int) → j ≤ k → (∀ i, j ≤ i → i < k → g i = 0) → lv_has ls 3 [(2, .int (iI x)), (0, .ref h), (1, .int (iI (k : Int)))] → W p l e rm_X1_trimTo s m ([.ref h, .int (iI ((k : Int)))] : List Value).toArray below meth c s.heap [] 0 0 Q (F0 m 2 ls []) := by
    intro μ
    induction μ with
    | zero => intro j x ls hμ; exact absurd hμ (Nat.not_lt_zero _)
    | succ μ ih =>
      intro j x ls hμ hx hj hz hl
      refine mv_iload_n B dX1_trimTo_2 rfl (lv_at hl 0 rfl) ?_
      refine mv_if_le (tgt := 23) B dX1_trimTo_3 (by decide) (by omega) (fun hc => ?_) (fun hc => ?_)
      · refine mv_aload_n B dX1_trimTo_23 rfl (lv_at hl 1 rfl) ?_
        refine mv_iload_n B dX1_trimTo_24 rfl (lv_at hl 0 rfl) ?_
        refine ww_puts B hI hT uin_X1 kw_25 dX1_trimTo_25 (fun f H locs hT hI => ?_)
        refine mv_iload_n B dX1_trimTo_28 rfl (lv_at hl 0 rfl) ?_
        refine mv_if_ne (tgt := 37) B dX1_trimTo_29 (by decide) (by omega) (fun hc3 => ?_) (fun hc3 => ?_)
        · exact mw_vret B hQ hrt hI ⟨j, hj, hz, (fun q => absurd q (by omega)), by rw [if_neg (by omega)]; rw [hx] at hT; exact hT⟩ dX1_trimTo_37
        · refine mv_aload_n B dX1_trimTo_32 rfl (lv_at hl 1 rfl) ?_
          refine mv_iconst B dX1_trimTo_33 ?_
          refine ww_putb B hI hT (by decide) uin_X1 kw_27 dX1_trimTo_34 (fun f H locs hT hI => ?_)
          exact mw_vret B hQ hrt hI ⟨j, hj, hz, (fun q => absurd q (by omega)), by rw [if_pos (by omega)]; rw [hx] at hT; exact hT⟩ dX1_trimTo_37
      · have hg1 := hg (j - 1) (by omega)
        refine mv_aload_n B dX1_trimTo_6 rfl (lv_at hl 1 rfl) ?_
        refine ww_parts B hI hT.1 uin_X1 kw_23 dX1_trimTo_7 ?_
        refine mv_iload_n B dX1_trimTo_10 rfl (lv_at hl 0 rfl) ?_
        refine mv_iconst B dX1_trimTo_11 ?_
        refine mv_isub B dX1_trimTo_12 ?_
        refine mw_iald B hI 0 hT.2.1 rfl (j - 1) (by omega) (by omega) (by decide) dX1_trimTo_13 ?_
        refine mv_if_ne (tgt := 23) B dX1_trimTo_14 (by decide) (by omega) (fun hc2 => ?_) (fun hc2 => ?_)
        · refine mv_aload_n B dX1_trimTo_23 rfl (lv_at hl 1 rfl) ?_
          refine mv_iload_n B dX1_trimTo_24 rfl (lv_at hl 0 rfl) ?_
          refine ww_puts B hI hT uin_X1 kw_25 dX1_trimTo_25 (fun f H locs hT hI => ?_)
          refine mv_iload_n B dX1_trimTo_28 rfl (lv_at hl 0 rfl) ?_
          refine mv_if_ne (tgt := 37) B dX1_trimTo_29 (by decide) (by omega) (fun hc3 => ?_) (fun hc3 => ?_)
          · exact mw_vret B hQ hrt hI ⟨j, hj, hz, (fun _ => hc2), by rw [if_neg (by omega)]; rw [hx] at hT; exact hT⟩ dX1_trimTo_37
          · refine mv_aload_n B dX1_trimTo_32 rfl (lv_at hl 1 rfl) ?_
            refine mv_iconst B dX1_trimTo_33 ?_
            refine ww_putb B hI hT (by decide) uin_X1 kw_27 dX1_trimTo_34 (fun f H locs hT hI => ?_)
            exact mw_vret B hQ hrt hI ⟨j, hj, hz, (fun _ => hc2), by rw [if_pos (by omega)]; rw [hx] at hT; exact hT⟩ dX1_trimTo_37
        · refine mv_iinc (k := 0) (lv' := [(2, .int (iI (x + (-1)))), (0, .ref h), (1, .int (iI ((k : Int))))]) B dX1_trimTo_17 hl rfl (by decide) rfl (fun ls hl => ?_)
          refine mv_goto (tgt := 2) B dX1_trimTo_20 (by decide) ?_
          refine ih (j - 1) _ ls (by omega) (by omega) (by omega) (fun i h1 h2 => ?_) hl
          rcases Nat.lt_or_ge i j with q | q
          · rw [show i = j - 1 by omega]; exact hc2
          · exact hz i q h2
  exact loop (k + 1) k _ ls (Nat.lt_succ_self k) rfl (Nat.le_refl k) (fun i h1 h2 => absurd h1 (by omega)) hl
abbrev rm_X1_partOrZero : Room := { frames := 0, cells := 0, slots := 0, locals := 0 }
set_option maxHeartbeats 4000000 in
set_option maxRecDepth 100000 in
/-- partOrZero -/
theorem t_X1_partOrZero (l : Launch) (D : va_G) (kA : Nat → ClassId) (sz : Nat) (f0 : mw_M) {h r : Nat} {g : Nat → Int} {k : Nat} {b : Int} {x : Int} (hh : f0 h = some (wh r (k : Int) b)) (hr : f0 r = some (mw_ar (kA 0) 104 g)) (hk : k ≤ 104) (hx : -2147483648 ≤ x ∧ x ≤ 2147483647) : mw_Mi l yX1_partOrZero (Cond.code yX1_partOrZero cX1_partOrZero 2 ((some .int)) :: gw) rm_X1_partOrZero D vwCl (tyL kA) st_S [.ref h, .int (iI (x))] f0 sz (fun v f => v = iI (if x < 0 then 0 else pz g k x.toNat) ∧ f = f0) 0 0 := by
  refine mw_ofi (cc := cX1_partOrZero) (maxL := 2) (ret := (some .int)) (by decide) rfl (Nat.le_of_ble_eq_true rfl) ?_
  intro p e s m below meth c A ls Q hQ B hrt hnm hA hI hSt hl
  have hl : lv_has ls 2 [(0, .ref h), (1, .int (iI (x)))] := hl
  obtain ⟨f, hI, hf⟩ : ∃ f, mw_I D vwCl A s s.heap [] f ∧ f = f0 := ⟨f0, hI, rfl⟩
  refine mv_iload_n B dX1_partOrZero_0 rfl (lv_at hl 1 rfl) ?_
  refine mv_if_lt (tgt := 21) B dX1_partOrZero_1 (by decide) (by omega) (fun hc => ?_) (fun hc => ?_)
  · refine mv_iconst B dX1_partOrZero_21 ?_
    exact mw_iret B hQ hrt hI ⟨by rw [if_pos hc], hf⟩ dX1_partOrZero_22
  · refine mv_iload_n B dX1_partOrZero_4 rfl (lv_at hl 1 rfl) ?_
    refine mv_aload_n B dX1_partOrZero_5 rfl (lv_at hl 0 rfl) ?_
    refine ww_size B hI (by rw [hf]; exact hh) uin_X1 kw_25 dX1_partOrZero_6 ?_
    refine mv_icmp_ge (tgt := 21) B dX1_partOrZero_9 (by decide) (by omega) (fun hc2 => ?_) (fun hc2 => ?_)
    · refine mv_iconst B dX1_partOrZero_21 ?_
      exact mw_iret B hQ hrt hI ⟨by rw [if_neg hc, pz_ge (by omega)], hf⟩ dX1_partOrZero_22
    · refine mv_aload_n B dX1_partOrZero_12 rfl (lv_at hl 0 rfl) ?_
      refine ww_parts B hI (by rw [hf]; exact hh) uin_X1 kw_23 dX1_partOrZero_13 ?_
      refine mv_iload_n B dX1_partOrZero_16 rfl (lv_at hl 1 rfl) ?_
      refine mw_iald B hI 0 (by rw [hf]; exact hr) rfl (x.toNat) (by omega) (by omega) (by decide) dX1_partOrZero_17 ?_
      refine mv_goto (tgt := 22) B dX1_partOrZero_18 (by decide) ?_
      exact mw_iret B hQ hrt hI ⟨by rw [if_neg hc, pz_lt (by omega)], hf⟩ dX1_partOrZero_22
abbrev rm_X1_compareParts : Room := { frames := 0, cells := 0, slots := 0, locals := 0 }
set_option maxHeartbeats 4000000 in
set_option maxRecDepth 100000 in
/-- compareParts -/
theorem t_X1_compareParts (l : Launch) (D : va_G) (kA : Nat → ClassId) (sz : Nat) (f0 : mw_M) {h r x rx : Nat} {g gx : Nat → Int} {n nx : Nat} {b bx : Int} (hh : f0 h = some (wh r (n : Int) b)) (hr : f0 r = some (mw_ar (kA 0) 104 g)) (hx : f0 x = some (wh rx (nx : Int) bx)) (hxr : f0 rx = some (mw_ar (kA 0) 104 gx)) (hc1 : cn g n) (hc2 : cn gx nx) : mw_Mi l yX1_compareParts (Cond.code yX1_compareParts cX1_compareParts 3 ((some .int)) :: gw) rm_X1_compareParts D vwCl (tyL kA) st_S [.ref h, .ref x] f0 sz (fun v f => v = iI (c3 (dv g n) (dv gx nx)) ∧ f = f0) 0 0 := by
  refine mw_ofi (cc := cX1_compareParts) (maxL := 3) (ret := (some .int)) (by decide) rfl (Nat.le_of_ble_eq_true rfl) ?_
  intro p e s m below meth c A ls Q hQ B hrt hnm hA hI hSt hl
  have hl : lv_has ls 3 [(0, .ref h), (1, .ref x)] := hl
  obtain ⟨f, hI, hf⟩ : ∃ f, mw_I D vwCl A s s.heap [] f ∧ f = f0 := ⟨f0, hI, rfl⟩
  have hh1 : f h = some (wh r (n : Int) b) := by rw [hf]; exact hh
  have hr1 : f r = some (mw_ar (kA 0) 104 g) := by rw [hf]; exact hr
  have hx1 : f x = some (wh rx (nx : Int) bx) := by rw [hf]; exact hx
  have hxr1 : f rx = some (mw_ar (kA 0) 104 gx) := by rw [hf]; exact hxr
  have hn1 := hc1.1
  have hn2 := hc2.1
  refine mv_aload_n B dX1_compareParts_0 rfl (lv_at hl 0 rfl) ?_
  refine ww_size B hI hh1 uin_X1 kw_25 dX1_compareParts_1 ?_
  refine mv_aload_n B dX1_compareParts_4 rfl (lv_at hl 1 rfl) ?_
  refine ww_size B hI hx1 uin_X1 kw_25 dX1_compareParts_5 ?_
  refine mv_icmp_eq (tgt := 28) B dX1_compareParts_8 (by decide) (by omega) (fun hc => ?_) (fun hc => ?_)
  · obtain rfl : n = nx := by omega
    refine mv_aload_n B dX1_compareParts_28 rfl (lv_at hl 0 rfl) ?_
    refine ww_size B hI hh1 uin_X1 kw_25 dX1_compareParts_29 ?_
    refine mv_iconst B dX1_compareParts_32 ?_
    refine mv_isub B dX1_compareParts_33 ?_
    refine mv_istore_n (lv' := [(2, .int (iI (((n : Int)) - (1)))), (0, .ref h), (1, .ref x)]) B dX1_compareParts_34 rfl hl (by decide) rfl (fun ls hl => ?_)
    have loop : ∀ (μ j : Nat) (y : Int) (ls : Array Slot), j < μ → y = (j : Int) - 1 → j ≤ n → (∀ i, j ≤ i → i < n → g i = gx i) → lv_has ls 3 [(2, .int (iI y)), (0, .ref h), (1, .ref x)] → W p l e rm_X1_compareParts s m ([.ref h, .ref x] : List Value).toArray below meth c s.heap [] 0 0 Q (F0 m 35 ls []) := by
      intro μ
      induction μ with
      | zero => intro j y ls hμ; exact absurd hμ (Nat.not_lt_zero _)
      | succ μ ih =>
        intro j y ls hμ hy hj hz hl
        refine mv_iload_n B dX1_compareParts_35 rfl (lv_at hl 0 rfl) ?_
        refine mv_if_lt (tgt := 81) B dX1_compareParts_36 (by decide) (by omega) (fun hd0 => ?_) (fun hd0 => ?_)
        · refine mv_iconst B dX1_compareParts_81 ?_
          exact mw_iret B hQ hrt hI ⟨by rw [c3_eq (dv_congr (fun i hi => hz i (by omega) hi))], hf⟩ dX1_compareParts_82
        · have hg1 := hc1.2.1 (j - 1) (by omega)
          have hg2 := hc2.2.1 (j - 1) (by omega)
          refine mv_aload_n B dX1_compareParts_39 rfl (lv_at hl 1 rfl) ?_
          refine ww_parts B hI hh1 uin_X1 kw_23 dX1_compareParts_40 ?_
          refine mv_iload_n B dX1_compareParts_43 rfl (lv_at hl 0 rfl) ?_
          refine mw_iald B hI 0 hr1 rfl (j - 1) (by omega) (by omega) (by decide) dX1_compareParts_44 ?_
          refine mv_aload_n B dX1_compareParts_45 rfl (lv_at hl 2 rfl) ?_
          refine ww_parts B hI hx1 uin_X1 kw_23 dX1_compareParts_46 ?_
          refine mv_iload_n B dX1_compareParts_49 rfl (lv_at hl 0 rfl) ?_
          refine mw_iald B hI 0 hxr1 rfl (j - 1) (by omega) (by omega) (by decide) dX1_compareParts_50 ?_
          refine mv_icmp_eq (tgt := 75) B dX1_compareParts_51 (by decide) (by omega) (fun hd => ?_) (fun hd => ?_)
          · refine mv_iinc (k := 0) (lv' := [(2, .int (iI (y + (-1)))), (0, .ref h), (1, .ref x)]) B dX1_compareParts_75 hl rfl (by decide) rfl (fun ls hl => ?_)
            refine mv_goto (tgt := 35) B dX1_compareParts_78 (by decide) ?_
            refine ih (j - 1) _ ls (by omega) (by omega) (by omega) (fun i h1 h2 => ?_) hl
            rcases Nat.lt_or_ge i j with q | q
            · rw [show i = j - 1 by omega]; exact hd
            · exact hz i q h2
          · refine mv_aload_n B dX1_compareParts_54 rfl (lv_at hl 1 rfl) ?_
            refine ww_parts B hI hh1 uin_X1 kw_23 dX1_compareParts_55 ?_
            refine mv_iload_n B dX1_compareParts_58 rfl (lv_at hl 0 rfl) ?_
            refine mw_iald B hI 0 hr1 rfl (j - 1) (by omega) (by omega) (by decide) dX1_compareParts_59 ?_
            refine mv_aload_n B dX1_compareParts_60 rfl (lv_at hl 2 rfl) ?_
            refine ww_parts B hI hx1 uin_X1 kw_23 dX1_compareParts_61 ?_
            refine mv_iload_n B dX1_compareParts_64 rfl (lv_at hl 0 rfl) ?_
            refine mw_iald B hI 0 hxr1 rfl (j - 1) (by omega) (by omega) (by decide) dX1_compareParts_65 ?_
            refine mv_icmp_ge (tgt := 73) B dX1_compareParts_66 (by decide) (by omega) (fun he => ?_) (fun he => ?_)
            · refine mv_iconst B dX1_compareParts_73 ?_
              exact mw_iret B hQ hrt hI ⟨by rw [c3_gt (dv_cmp hc2.2.1 hc1.2.1 (k := j - 1) (by omega) (fun i h1 h2 => (hz i (by omega) h2).symm) (by omega))], hf⟩ dX1_compareParts_74
            · refine mv_iconst B dX1_compareParts_69 ?_
              refine mv_goto (tgt := 74) B dX1_compareParts_70 (by decide) ?_
              exact mw_iret B hQ hrt hI ⟨by rw [c3_lt (dv_cmp hc1.2.1 hc2.2.1 (k := j - 1) (by omega) (fun i h1 h2 => hz i (by omega) h2) (by omega))], hf⟩ dX1_compareParts_74
    exact loop (n + 1) n _ ls (Nat.lt_succ_self n) rfl (Nat.le_refl n) (fun i h1 h2 => absurd h1 (by omega)) hl
  · refine mv_aload_n B dX1_compareParts_11 rfl (lv_at hl 0 rfl) ?_
    refine ww_size B hI hh1 uin_X1 kw_25 dX1_compareParts_12 ?_
    refine mv_aload_n B dX1_compareParts_15 rfl (lv_at hl 1 rfl) ?_
    refine ww_size B hI hx1 uin_X1 kw_25 dX1_compareParts_16 ?_
    refine mv_icmp_ge (tgt := 26) B dX1_compareParts_19 (by decide) (by omega) (fun hd => ?_) (fun hd => ?_)
    · refine mv_iconst B dX1_compareParts_26 ?_
      exact mw_iret B hQ hrt hI ⟨by rw [c3_gt (hc2.lt hc1 (by omega))], hf⟩ dX1_compareParts_27
    · refine mv_iconst B dX1_compareParts_22 ?_
      refine mv_goto (tgt := 27) B dX1_compareParts_23 (by decide) ?_
      exact mw_iret B hQ hrt hI ⟨by rw [c3_lt (hc1.lt hc2 (by omega))], hf⟩ dX1_compareParts_27
end
section
abbrev rm_X1_compareWhole : Room := { frames := 1, cells := 0, slots := 0, locals := 22 }
set_option maxHeartbeats 4000000 in
set_option maxRecDepth 100000 in
/-- compareWhole -/
theorem t_X1_compareWhole (l : Launch) (D : va_G) (kA : Nat → ClassId) (sz : Nat) (f0 : mw_M) {h r x rx : Nat} {z zx : Int} (hh : Rp (kA 0) f0 h r z) (hx : Rp (kA 0) f0 x rx zx) : mw_Mi l yX1_compareWhole (Cond.code yX1_compareWhole cX1_compareWhole 2 ((some .int)) :: gw) rm_X1_compareWhole D vwCl (tyL kA) st_S [.ref h, .ref x] f0 sz (fun v f => v = iI (c3 z zx) ∧ f = f0) 0 0 := by
  refine mw_ofi (cc := cX1_compareWhole) (maxL := 2) (ret := (some .int)) (by decide) rfl (Nat.le_of_ble_eq_true rfl) ?_
  intro p e s m below meth c A ls Q hQ B hrt hnm hA hI hSt hl
  have hl : lv_has ls 2 [(0, .ref h), (1, .ref x)] := hl
  obtain ⟨g, n, b, hh, hr, hz⟩ := hh
  obtain ⟨gx, nx, bx, hx, hxr, hzx⟩ := hx
  obtain ⟨f, hI, hf⟩ : ∃ f, mw_I D vwCl A s s.heap [] f ∧ f = f0 := ⟨f0, hI, rfl⟩
  have hh1 : f h = some (wh r (n : Int) b) := by rw [hf]; exact hh
  have hr1 : f r = some (mw_ar (kA 0) 104 g) := by rw [hf]; exact hr
  have hx1 : f x = some (wh rx (nx : Int) bx) := by rw [hf]; exact hx
  have hxr1 : f rx = some (mw_ar (kA 0) 104 gx) := by rw [hf]; exact hxr
  have q1 := hz.b0
  have q2 := hzx.b0
  have q3 := hz.nat
  have q4 := hzx.nat
  refine mv_aload_n B dX1_compareWhole_0 rfl (lv_at hl 0 rfl) ?_
  refine ww_below B hI hh1 uin_X1 kw_27 dX1_compareWhole_1 ?_
  refine mv_aload_n B dX1_compareWhole_4 rfl (lv_at hl 1 rfl) ?_
  refine ww_below B hI hx1 uin_X1 kw_27 dX1_compareWhole_5 ?_
  refine mv_icmp_eq (tgt := 24) B dX1_compareWhole_8 (by decide) (by omega) (fun hc => ?_) (fun hc => ?_)
  · refine mv_aload_n B dX1_compareWhole_24 rfl (lv_at hl 0 rfl) ?_
    refine ww_below B hI hh1 uin_X1 kw_27 dX1_compareWhole_25 ?_
    refine mv_if_eq (tgt := 39) B dX1_compareWhole_28 (by decide) (by omega) (fun hd => ?_) (fun hd => ?_)
    · refine mv_aload_n B dX1_compareWhole_39 rfl (lv_at hl 0 rfl) ?_
      refine mv_aload_n B dX1_compareWhole_40 rfl (lv_at hl 1 rfl) ?_
      refine mw_calli hI hA (va_runV (As := [.ref x]) (rest := []) B.fix (t_X1_compareParts l D kA s.heap.size f hh1 hr1 hx1 hxr1 hz.toCn hzx.toCn) (cwV 1 B.2.2.2.2.1 (gV kw_128 kw_129 kw_130 kw_2 kw_131) rfl rfl rfl (by decide +kernel) ⟨Nat.le_of_ble_eq_true rfl, Nat.le_of_ble_eq_true rfl⟩) ⟨mw_blind st_S.blind, mw_recv B hI hh1 rfl, mw_pre B hI (hSt.call hI hA)⟩ rfl rfl hl.1 rfl (lv_room (Nat.le_of_ble_eq_true rfl)) dX1_compareWhole_41 ⟨Nat.le_of_ble_eq_true rfl, Nat.le_of_ble_eq_true rfl⟩) (fun r f H locs hp hI2 => ?_)
      clear hI
      have hI := hI2
      clear hI2
      obtain ⟨rfl, rfl⟩ := hp
      exact mw_iret B hQ hrt hI ⟨by congr 1; rw [← q3, ← q4]; congr 1 <;> omega, hf⟩ dX1_compareWhole_44
    · refine mv_aload_n B dX1_compareWhole_31 rfl (lv_at hl 1 rfl) ?_
      refine mv_aload_n B dX1_compareWhole_32 rfl (lv_at hl 0 rfl) ?_
      refine mw_calli hI hA (va_runV (As := [.ref h]) (rest := []) B.fix (t_X1_compareParts l D kA s.heap.size f hx1 hxr1 hh1 hr1 hzx.toCn hz.toCn) (cwV 1 B.2.2.2.2.1 (gV kw_128 kw_129 kw_130 kw_2 kw_131) rfl rfl rfl (by decide +kernel) ⟨Nat.le_of_ble_eq_true rfl, Nat.le_of_ble_eq_true rfl⟩) ⟨mw_blind st_S.blind, mw_recv B hI hx1 rfl, mw_pre B hI (hSt.call hI hA)⟩ rfl rfl hl.1 rfl (lv_room (Nat.le_of_ble_eq_true rfl)) dX1_compareWhole_33 ⟨Nat.le_of_ble_eq_true rfl, Nat.le_of_ble_eq_true rfl⟩) (fun r f H locs hp hI2 => ?_)
      clear hI
      have hI := hI2
      clear hI2
      obtain ⟨rfl, rfl⟩ := hp
      refine mv_goto (tgt := 44) B dX1_compareWhole_36 (by decide) ?_
      exact mw_iret B hQ hrt hI ⟨by congr 1; have k1 := c3_in z zx; have k2 := c3_in (dv gx nx) (dv g n); omega, hf⟩ dX1_compareWhole_44
  · refine mv_aload_n B dX1_compareWhole_11 rfl (lv_at hl 0 rfl) ?_
    refine ww_below B hI hh1 uin_X1 kw_27 dX1_compareWhole_12 ?_
    refine mv_if_eq (tgt := 22) B dX1_compareWhole_15 (by decide) (by omega) (fun hd => ?_) (fun hd => ?_)
    · refine mv_iconst B dX1_compareWhole_22 ?_
      exact mw_iret B hQ hrt hI ⟨by rw [c3_gt (by omega)], hf⟩ dX1_compareWhole_23
    · refine mv_iconst B dX1_compareWhole_18 ?_
      refine mv_goto (tgt := 23) B dX1_compareWhole_19 (by decide) ?_
      exact mw_iret B hQ hrt hI ⟨by rw [c3_lt (by omega)], hf⟩ dX1_compareWhole_23
abbrev rm_X1_halve : Room := { frames := 1, cells := 0, slots := 0, locals := 22 }
set_option maxHeartbeats 4000000 in
set_option maxRecDepth 100000 in
/-- halve -/
theorem t_X1_halve (l : Launch) (D : va_G) (kA : Nat → ClassId) (sz : Nat) (f0 : mw_M) {h r : Nat} {z : Int} (hh : Rp (kA 0) f0 h r z) (hz0 : 0 ≤ z) : mw_Mv l yX1_halve (Cond.code yX1_halve cX1_halve 4 (none) :: gw) rm_X1_halve D vwCl (tyL kA) st_S [.ref h] f0 sz (fun f => Rp (kA 0) f h r (z / 2) ∧ fo f0 f h r) 0 0 := by
  refine mw_ofv (cc := cX1_halve) (maxL := 4) (ret := none) (by decide) rfl (Nat.le_of_ble_eq_true rfl) ?_
  intro p e s m below meth c A ls Q hQ B hrt hnm hA hI hSt hl
  have hl : lv_has ls 4 [(0, .ref h)] := hl
  obtain ⟨g, n, b, hh, hr, hz⟩ := hh
  have hn1 := hz.1
  have q1 := hz.b0
  have q3 := hz.nat
  obtain ⟨f, hI, hT⟩ : ∃ f, mw_I D vwCl A s s.heap [] f ∧ wSt (kA 0) f0 h r f g (n : Int) b := ⟨f0, hI, wSt.self hh hr⟩
  refine mv_iconst B dX1_halve_0 ?_
  refine mv_istore_n (lv' := [(1, .int (iI (0))), (0, .ref h)]) B dX1_halve_1 rfl hl (by decide) rfl (fun ls hl => ?_)
  refine mv_aload_n B dX1_halve_2 rfl (lv_at hl 1 rfl) ?_
  refine ww_size B hI hT.1 uin_X1 kw_25 dX1_halve_3 ?_
  refine mv_iconst B dX1_halve_6 ?_
  refine mv_isub B dX1_halve_7 ?_
  refine mv_istore_n (lv' := [(2, .int (iI (((n : Int)) - (1)))), (1, .int (iI (0))), (0, .ref h)]) B dX1_halve_8 rfl hl (by decide) rfl (fun ls hl => ?_)
  have loop : ∀ (μ : Nat) (j : Nat) (y cy : Int) (g' : Nat → Int) (f : mw_M) (H : Heap) (locs : List Loc) (ls : Array Slot), j < μ → y = (j : Int) - 1 → j ≤ n → (cy = 0 ∨ cy = 1) → dg g' n → (∀ i, i < j → g' i = g i) → dv g n = 2 * (dv g' n - dv g' j) + cy * 1000000 ^ j + dv g j → mw_I D vwCl A s H locs f → wSt (kA 0) f0 h r f g' (n : Int) b → lv_has ls 4 [(2, .int (iI (y))), (1, .int (iI (cy))), (0, .ref h)] → W p l e rm_X1_halve s m ([.ref h] : List Value).toArray below meth c H locs 0 0 Q (F0 m 9 ls []) := by
    intro μ
    induction μ with
    | zero => intro j y cy g' f H locs ls hμ; exact absurd hμ (Nat.not_lt_zero _)
    | succ μ ih =>
      intro j y cy g' f H locs ls hμ hy hj hcy hg hz1 hv hI hT hl
      refine mv_iload_n B dX1_halve_9 rfl (lv_at hl 0 rfl) ?_
      refine mv_if_lt (tgt := 44) B dX1_halve_10 (by decide) (by omega) (fun hd0 => ?_) (fun hd0 => ?_)
      · obtain rfl : j = 0 := by omega
        rw [dv_0, dv_0, Int.pow_zero] at hv
        refine mv_aload_n B dX1_halve_44 rfl (lv_at hl 2 rfl) ?_
        refine mv_aload_n B dX1_halve_45 rfl (lv_at hl 2 rfl) ?_
        refine ww_size B hI hT.1 uin_X1 kw_25 dX1_halve_46 ?_
        refine mw_callv hI hA (va_runV (As := [.int (iI ((n : Int)))]) (rest := []) B.fix (t_X1_trimTo l D kA H.size f hT.1 hT.2.1 hn1 hg) (cwV 1 B.2.2.2.2.1 (gV kw_105 kw_106 kw_107 kw_2 kw_108) rfl rfl rfl (by decide +kernel) ⟨Nat.le_of_ble_eq_true rfl, Nat.le_of_ble_eq_true rfl⟩) ⟨mw_blind st_S.blind, mw_recv B hI hT.1 rfl, mw_pre B hI (hSt.call hI hA)⟩ rfl rfl hl.1 rfl (lv_room (Nat.le_of_ble_eq_true rfl)) dX1_halve_49 ⟨Nat.le_of_ble_eq_true rfl, Nat.le_of_ble_eq_true rfl⟩) (fun f H locs hp hI2 => ?_)
        clear hI
        have hI := hI2
        clear hI2
        obtain ⟨n', a1, a2, a3, hT2⟩ := hp
        have hT := hT.trans hT2
        have e1 := dv_trim a1 a2
        have e2 := dv_nn hg
        have hv2 : rp g' n' (if n' = 0 then 0 else b) (z / 2) := ⟨by omega, hg.sub a1, a3, Or.inl ⟨by split <;> omega, by omega⟩⟩
        exact mw_vret B hQ hrt hI (hT.toRp hv2) dX1_halve_52
      · obtain ⟨k, rfl⟩ : ∃ k, j = k + 1 := ⟨j - 1, by omega⟩
        have hg1 := hg k (by omega)
        have hg2 : g' k = g k := hz1 k (by omega)
        refine mv_iload_n B dX1_halve_13 rfl (lv_at hl 1 rfl) ?_
        refine mv_ldc (z := 1000000) B dX1_halve_14 kw_140 (by decide) ?_
        refine mv_imul B dX1_halve_16 ?_
        refine mv_aload_n B dX1_halve_17 rfl (lv_at hl 2 rfl) ?_
        refine ww_parts B hI hT.1 uin_X1 kw_23 dX1_halve_18 ?_
        refine mv_iload_n B dX1_halve_21 rfl (lv_at hl 0 rfl) ?_
        refine mw_iald B hI 0 hT.2.1 rfl (k) (by omega) (by omega) (by decide) dX1_halve_22 ?_
        refine mv_iadd B dX1_halve_23 ?_
        refine mv_nmi (fun t ht => ?_)
        refine mv_istore_n (lv' := [(3, .int (iI (t))), (2, .int (iI (y))), (1, .int (iI (cy))), (0, .ref h)]) B dX1_halve_24 rfl hl (by decide) rfl (fun ls hl => ?_)
        refine mv_aload_n B dX1_halve_25 rfl (lv_at hl 3 rfl) ?_
        refine ww_parts B hI hT.1 uin_X1 kw_23 dX1_halve_26 ?_
        have ht2 : 0 ≤ t ∧ t ≤ 1999999 := by omega
        refine mv_iload_n B dX1_halve_29 rfl (lv_at hl 1 rfl) ?_
        refine mv_iload_n B dX1_halve_30 rfl (lv_at hl 0 rfl) ?_
        refine mv_iconst B dX1_halve_31 ?_
        refine mv_idiv B dX1_halve_32 (by omega) ?_
        refine ww_iast B hI hT (k) (by omega) (by omega) dX1_halve_33 (fun f H locs hT hI => ?_)
        refine mv_iload_n B dX1_halve_34 rfl (lv_at hl 0 rfl) ?_
        refine mv_iconst B dX1_halve_35 ?_
        refine mv_irem B dX1_halve_36 (by omega) ?_
        refine mv_istore_n (lv' := [(1, .int (iI ((t) % (2)))), (3, .int (iI (t))), (2, .int (iI (y))), (0, .ref h)]) B dX1_halve_37 rfl hl (by decide) rfl (fun ls hl => ?_)
        refine mv_iinc (k := 2) (lv' := [(2, .int (iI (y + (-1)))), (1, .int (iI ((t) % (2)))), (3, .int (iI (t))), (0, .ref h)]) B dX1_halve_38 hl rfl (by decide) rfl (fun ls hl => ?_)
        refine mv_goto (tgt := 9) B dX1_halve_41 (by decide) ?_
        refine ih k _ _ _ f H locs ls (by omega) (by omega) (by omega) (by omega) (hg.up (by omega)) (fun i hi => by rw [upI_ne _ _ (by omega)]; exact hz1 i (by omega)) ?_ hI hT (lv_sub hl [0, 1, 3] rfl)
        rw [dv_up (by omega), dv_up_ge (Nat.le_refl k), hv, dv_s g k, dv_s g' k, bp_s, hg2]
        have e2 := Int.mul_ediv_add_emod t 2
        rw [ht, hg2] at e2 ⊢
        grind
  exact loop (n + 1) n _ _ g f s.heap [] ls (Nat.lt_succ_self n) rfl (Nat.le_refl n) (Or.inl rfl) hz.2.1 (fun i _ => rfl) (by omega) hI hT (lv_sub hl [0, 1, 2] rfl)
abbrev rm_X1_addParts : Room := { frames := 1, cells := 0, slots := 0, locals := 24 }
set_option maxHeartbeats 4000000 in
set_option maxRecDepth 100000 in
/-- addParts -/
theorem t_X1_addParts (l : Launch) (D : va_G) (kA : Nat → ClassId) (sz : Nat) (f0 : mw_M) {h r x rx y ry : Nat} {g gx gy : Nat → Int} {n b : Int} {nx ny : Nat} {bx by_ : Int} (hh : f0 h = some (wh r n b)) (hr : f0 r = some (mw_ar (kA 0) 104 g)) (hx : f0 x = some (wh rx (nx : Int) bx)) (hxr : f0 rx = some (mw_ar (kA 0) 104 gx)) (hy : f0 y = some (wh ry (ny : Int) by_)) (hyr : f0 ry = some (mw_ar (kA 0) 104 gy)) (x1 : x ≠ h) (x2 : rx ≠ r) (y1 : y ≠ h) (y2 : ry ≠ r) (hk1 : nx ≤ 103) (hk2 : ny ≤ 103) (hb : b = 0 ∨ b = 1) (hgx : dg gx nx) (hgy : dg gy ny) : mw_Mv l yX1_addParts (Cond.code yX1_addParts cX1_addParts 7 (none) :: gw) rm_X1_addParts D vwCl (tyL kA) st_S [.ref h, .ref x, .ref y] f0 sz (fun f => ∃ g' n', cn g' n' ∧ dv g' n' = dv gx nx + dv gy ny ∧ wSt (kA 0) f0 h r f g' ((n' : Nat) : Int) (if n' = 0 then 0 else b)) 0 0 := by
  refine mw_ofv (cc := cX1_addParts) (maxL := 7) (ret := none) (by decide) rfl (Nat.le_of_ble_eq_true rfl) ?_
  intro p e s m below meth c A ls Q hQ B hrt hnm hA hI hSt hl
  have hl : lv_has ls 7 [(0, .ref h), (1, .ref x), (2, .ref y)] := hl
  obtain ⟨f, hI, hT⟩ : ∃ f, mw_I D vwCl A s s.heap [] f ∧ wSt (kA 0) f0 h r f g n b := ⟨f0, hI, wSt.self hh hr⟩
  have x3 := wh_ne hx hr
  have x4 := Ne.symm (wh_ne hh hxr)
  have y3 := wh_ne hy hr
  have y4 := Ne.symm (wh_ne hh hyr)
  have hk1 : nx ≤ 104 := by omega
  have hk2 : ny ≤ 104 := by omega
  refine mv_aload_n B dX1_addParts_0 rfl (lv_at hl 1 rfl) ?_
  refine ww_size B hI (hT.get hx x1 x3) uin_X1 kw_25 dX1_addParts_1 ?_
  refine mv_aload_n B dX1_addParts_4 rfl (lv_at hl 2 rfl) ?_
  refine ww_size B hI (hT.get hy y1 y3) uin_X1 kw_25 dX1_addParts_5 ?_
  refine mv_mmax B hl.1 kw_121 kw_122 kw_5 kw_123 (Nat.le_of_ble_eq_true rfl) (Nat.le_of_ble_eq_true rfl) (Nat.le_of_ble_eq_true rfl) (Nat.le_of_ble_eq_true rfl) (by omega) dX1_addParts_8 ?_
  obtain ⟨N, hN⟩ : ∃ N : Nat, (N : Int) = max (nx : Int) (ny : Int) := ⟨max nx ny, by omega⟩
  rw [← hN]
  refine mv_istore_n (lv' := [(3, .int (iI ((N : Int)))), (0, .ref h), (1, .ref x), (2, .ref y)]) B dX1_addParts_11 rfl hl (by decide) rfl (fun ls hl => ?_)
  refine mv_iconst B dX1_addParts_12 ?_
  refine mv_istore (lv' := [(4, .int (iI (0))), (3, .int (iI ((N : Int)))), (0, .ref h), (1, .ref x), (2, .ref y)]) B dX1_addParts_13 hl (by decide) rfl (fun ls hl => ?_)
  refine mv_iconst B dX1_addParts_15 ?_
  refine mv_istore (lv' := [(5, .int (iI (0))), (4, .int (iI (0))), (3, .int (iI ((N : Int)))), (0, .ref h), (1, .ref x), (2, .ref y)]) B dX1_addParts_16 hl (by decide) rfl (fun ls hl => ?_)
  have loop : ∀ (μ : Nat) (j : Nat) (i cy : Int) (g' : Nat → Int) (f : mw_M) (H : Heap) (locs : List Loc) (ls : Array Slot), N - j < μ → i = (j : Int) → j ≤ N → (cy = 0 ∨ cy = 1) → dg g' j → dv g' j + cy * 1000000 ^ j = dv (pz gx nx) j + dv (pz gy ny) j → mw_I D vwCl A s H locs f → wSt (kA 0) f0 h r f g' n b → lv_has ls 7 [(5, .int (iI (i))), (4, .int (iI (cy))), (3, .int (iI ((N : Int)))), (0, .ref h), (1, .ref x), (2, .ref y)] → W p l e rm_X1_addParts s m ([.ref h, .ref x, .ref y] : List Value).toArray below meth c H locs 0 0 Q (F0 m 18 ls []) := by
    intro μ
    induction μ with
    | zero => intro j i cy g' f H locs ls hμ; exact absurd hμ (Nat.not_lt_zero _)
    | succ μ ih =>
      intro j i cy g' f H locs ls hμ hi hj hcy hg hv hI hT hl
      refine mv_iload B dX1_addParts_18 (lv_at hl 0 rfl) ?_
      refine mv_iload_n B dX1_addParts_20 rfl (lv_at hl 2 rfl) ?_
      refine mv_icmp_ge (tgt := 77) B dX1_addParts_21 (by decide) (by omega) (fun hd0 => ?_) (fun hd0 => ?_)
      · obtain rfl : N = j := by omega
        rw [dv_pz (by omega), dv_pz (by omega)] at hv
        refine mv_aload_n B dX1_addParts_77 rfl (lv_at hl 3 rfl) ?_
        refine ww_parts B hI hT.1 uin_X1 kw_23 dX1_addParts_78 ?_
        refine mv_iload_n B dX1_addParts_81 rfl (lv_at hl 2 rfl) ?_
        refine mv_iload B dX1_addParts_82 (lv_at hl 1 rfl) ?_
        refine ww_iast B hI hT (N) (by omega) (by omega) dX1_addParts_84 (fun f H locs hT hI => ?_)
        refine mv_aload_n B dX1_addParts_85 rfl (lv_at hl 3 rfl) ?_
        refine mv_iload_n B dX1_addParts_86 rfl (lv_at hl 2 rfl) ?_
        refine mv_iconst B dX1_addParts_87 ?_
        refine mv_iadd B dX1_addParts_88 ?_
        have hg2 : dg (upI g' N cy) (N + 1) := hg.up_s (by omega)
        refine mw_callv hI hA (va_runV (As := [.int (iI (((N : Int)) + (1)))]) (rest := []) B.fix (t_X1_trimTo l D kA H.size f (k := N + 1) hT.1 hT.2.1 (by omega) hg2) (cwV 1 B.2.2.2.2.1 (gV kw_105 kw_106 kw_107 kw_2 kw_108) rfl rfl rfl (by decide +kernel) ⟨Nat.le_of_ble_eq_true rfl, Nat.le_of_ble_eq_true rfl⟩) ⟨mw_blind st_S.blind, mw_recv B hI hT.1 rfl, mw_pre B hI (hSt.call hI hA)⟩ rfl rfl hl.1 rfl (lv_room (Nat.le_of_ble_eq_true rfl)) dX1_addParts_89 ⟨Nat.le_of_ble_eq_true rfl, Nat.le_of_ble_eq_true rfl⟩) (fun f H locs hp hI2 => ?_)
        clear hI
        have hI := hI2
        clear hI2
        obtain ⟨n', a1, a2, a3, hT2⟩ := hp
        have hT := hT.trans hT2
        have e1 := dv_trim a1 a2
        rw [dv_up_s] at e1
        exact mw_vret B hQ hrt hI ⟨_, n', ⟨by omega, hg2.sub a1, a3⟩, by omega, hT⟩ dX1_addParts_92
      · have p1 := pz_dg hgx (j + 1) j (by omega)
        have p2 := pz_dg hgy (j + 1) j (by omega)
        refine mv_aload_n B dX1_addParts_24 rfl (lv_at hl 4 rfl) ?_
        refine mv_iload B dX1_addParts_25 (lv_at hl 0 rfl) ?_
        refine mw_calli hI hA (va_runV (As := [.int (iI (i))]) (rest := []) B.fix (t_X1_partOrZero l D kA H.size f (hT.get hx x1 x3) (hT.get hxr x4 x2) hk1 (by omega)) (cwV 1 B.2.2.2.2.1 (gV kw_136 kw_137 kw_138 kw_2 kw_139) rfl rfl rfl (by decide +kernel) ⟨Nat.le_of_ble_eq_true rfl, Nat.le_of_ble_eq_true rfl⟩) ⟨mw_blind st_S.blind, mw_recv B hI (hT.get hx x1 x3) rfl, mw_pre B hI (hSt.call hI hA)⟩ rfl rfl hl.1 rfl (lv_room (Nat.le_of_ble_eq_true rfl)) dX1_addParts_27 ⟨Nat.le_of_ble_eq_true rfl, Nat.le_of_ble_eq_true rfl⟩) (fun r f H locs hp hI2 => ?_)
        clear hI
        have hI := hI2
        clear hI2
        obtain ⟨rfl, rfl⟩ := hp
        rw [if_neg (by omega), show (i).toNat = j by omega]
        refine mv_aload_n B dX1_addParts_30 rfl (lv_at hl 5 rfl) ?_
        refine mv_iload B dX1_addParts_31 (lv_at hl 0 rfl) ?_
        refine mw_calli hI hA (va_runV (As := [.int (iI (i))]) (rest := [.int (iI (pz gx nx j))]) B.fix (t_X1_partOrZero l D kA H.size f (hT.get hy y1 y3) (hT.get hyr y4 y2) hk2 (by omega)) (cwV 1 B.2.2.2.2.1 (gV kw_136 kw_137 kw_138 kw_2 kw_139) rfl rfl rfl (by decide +kernel) ⟨Nat.le_of_ble_eq_true rfl, Nat.le_of_ble_eq_true rfl⟩) ⟨mw_blind st_S.blind, mw_recv B hI (hT.get hy y1 y3) rfl, mw_pre B hI (hSt.call hI hA)⟩ rfl rfl hl.1 rfl (lv_room (Nat.le_of_ble_eq_true rfl)) dX1_addParts_33 ⟨Nat.le_of_ble_eq_true rfl, Nat.le_of_ble_eq_true rfl⟩) (fun r f H locs hp hI2 => ?_)
        clear hI
        have hI := hI2
        clear hI2
        obtain ⟨rfl, rfl⟩ := hp
        rw [if_neg (by omega), show (i).toNat = j by omega]
        refine mv_iadd B dX1_addParts_36 ?_
        refine mv_iload B dX1_addParts_37 (lv_at hl 1 rfl) ?_
        refine mv_iadd B dX1_addParts_39 ?_
        refine mv_nmi (fun t ht => ?_)
        refine mv_istore (lv' := [(6, .int (iI (t))), (5, .int (iI (i))), (4, .int (iI (cy))), (3, .int (iI ((N : Int)))), (0, .ref h), (1, .ref x), (2, .ref y)]) B dX1_addParts_40 hl (by decide) rfl (fun ls hl => ?_)
        refine mv_iload B dX1_addParts_42 (lv_at hl 0 rfl) ?_
        refine mv_ldc (z := 1000000) B dX1_addParts_44 kw_140 (by decide) ?_
        have hf1 := hT.1
        refine mv_icmp_lt (tgt := 53) B dX1_addParts_46 (by decide) (by omega) (fun hd => ?_) (fun hd => ?_)
        · refine mv_iconst B dX1_addParts_53 ?_
          refine mv_istore (lv' := [(4, .int (iI (0))), (6, .int (iI (t))), (5, .int (iI (i))), (3, .int (iI ((N : Int)))), (0, .ref h), (1, .ref x), (2, .ref y)]) B dX1_addParts_54 hl (by decide) rfl (fun ls hl => ?_)
          refine mv_aload_n B dX1_addParts_56 rfl (lv_at hl 4 rfl) ?_
          refine ww_parts B hI hT.1 uin_X1 kw_23 dX1_addParts_57 ?_
          refine mv_iload B dX1_addParts_60 (lv_at hl 2 rfl) ?_
          refine mv_iload B dX1_addParts_62 (lv_at hl 1 rfl) ?_
          refine mv_iload B dX1_addParts_64 (lv_at hl 0 rfl) ?_
          refine mv_ldc (z := 1000000) B dX1_addParts_66 kw_140 (by decide) ?_
          refine mv_imul B dX1_addParts_68 ?_
          refine mv_isub B dX1_addParts_69 ?_
          refine mv_nmi (fun u hu => ?_)
          refine ww_iast B hI hT (j) (by omega) (by omega) dX1_addParts_70 (fun f H locs hT hI => ?_)
          refine mv_iinc (k := 2) (lv' := [(5, .int (iI (i + 1))), (4, .int (iI (0))), (6, .int (iI (t))), (3, .int (iI ((N : Int)))), (0, .ref h), (1, .ref x), (2, .ref y)]) B dX1_addParts_71 hl rfl (by decide) rfl (fun ls hl => ?_)
          refine mv_goto (tgt := 18) B dX1_addParts_74 (by decide) ?_
          refine ih (j + 1) _ _ _ f H locs ls (by omega) (by omega) (by omega) (by omega) (hg.up_s (by omega)) ?_ hI hT (lv_sub hl [0, 1, 3, 4, 5, 6] rfl)
          rw [dv_up_s, dv_s, dv_s, bp_s]
          rw [hu, ht]
          grind
        · refine mv_iconst B dX1_addParts_49 ?_
          refine mv_goto (tgt := 54) B dX1_addParts_50 (by decide) ?_
          refine mv_istore (lv' := [(4, .int (iI (1))), (6, .int (iI (t))), (5, .int (iI (i))), (3, .int (iI ((N : Int)))), (0, .ref h), (1, .ref x), (2, .ref y)]) B dX1_addParts_54 hl (by decide) rfl (fun ls hl => ?_)
          refine mv_aload_n B dX1_addParts_56 rfl (lv_at hl 4 rfl) ?_
          refine ww_parts B hI hT.1 uin_X1 kw_23 dX1_addParts_57 ?_
          refine mv_iload B dX1_addParts_60 (lv_at hl 2 rfl) ?_
          refine mv_iload B dX1_addParts_62 (lv_at hl 1 rfl) ?_
          refine mv_iload B dX1_addParts_64 (lv_at hl 0 rfl) ?_
          refine mv_ldc (z := 1000000) B dX1_addParts_66 kw_140 (by decide) ?_
          refine mv_imul B dX1_addParts_68 ?_
          refine mv_isub B dX1_addParts_69 ?_
          refine mv_nmi (fun u hu => ?_)
          refine ww_iast B hI hT (j) (by omega) (by omega) dX1_addParts_70 (fun f H locs hT hI => ?_)
          refine mv_iinc (k := 2) (lv' := [(5, .int (iI (i + 1))), (4, .int (iI (1))), (6, .int (iI (t))), (3, .int (iI ((N : Int)))), (0, .ref h), (1, .ref x), (2, .ref y)]) B dX1_addParts_71 hl rfl (by decide) rfl (fun ls hl => ?_)
          refine mv_goto (tgt := 18) B dX1_addParts_74 (by decide) ?_
          refine ih (j + 1) _ _ _ f H locs ls (by omega) (by omega) (by omega) (by omega) (hg.up_s (by omega)) ?_ hI hT (lv_sub hl [0, 1, 3, 4, 5, 6] rfl)
          rw [dv_up_s, dv_s, dv_s, bp_s]
          rw [hu, ht]
          grind
  exact loop (N + 1) 0 _ _ g f s.heap [] ls (by omega) rfl (by omega) (Or.inl rfl) (fun i hi => absurd hi (by omega)) (by rw [dv_0, dv_0, dv_0]; rfl) hI hT (lv_sub hl [0, 1, 2, 3, 4, 5] rfl)
abbrev rm_X1_subtractParts : Room := { frames := 1, cells := 0, slots := 0, locals := 22 }
set_option maxHeartbeats 4000000 in
set_option maxRecDepth 100000 in
/-- subtractParts -/
theorem t_X1_subtractParts (l : Launch) (D : va_G) (kA : Nat → ClassId) (sz : Nat) (f0 : mw_M) {h r x rx y ry : Nat} {g gx gy : Nat → Int} {n b : Int} {nx ny : Nat} {bx by_ : Int} (hh : f0 h = some (wh r n b)) (hr : f0 r = some (mw_ar (kA 0) 104 g)) (hx : f0 x = some (wh rx (nx : Int) bx)) (hxr : f0 rx = some (mw_ar (kA 0) 104 gx)) (hy : f0 y = some (wh ry (ny : Int) by_)) (hyr : f0 ry = some (mw_ar (kA 0) 104 gy)) (x1 : x ≠ h) (x2 : rx ≠ r) (y1 : y ≠ h) (y2 : ry ≠ r) (hk1 : nx ≤ 104) (hk2 : ny ≤ 104) (hle : ny ≤ nx) (hb : b = 0 ∨ b = 1) (hgx : dg gx nx) (hgy : dg gy ny) (hge : dv gy ny ≤ dv gx nx) : mw_Mv l yX1_subtractParts (Cond.code yX1_subtractParts cX1_subtractParts 6 (none) :: gw) rm_X1_subtractParts D vwCl (tyL kA) st_S [.ref h, .ref x, .ref y] f0 sz (fun f => ∃ g' n', cn g' n' ∧ dv g' n' = dv gx nx - dv gy ny ∧ wSt (kA 0) f0 h r f g' ((n' : Nat) : Int) (if n' = 0 then 0 else b)) 0 0 := by
  refine mw_ofv (cc := cX1_subtractParts) (maxL := 6) (ret := none) (by decide) rfl (Nat.le_of_ble_eq_true rfl) ?_
  intro p e s m below meth c A ls Q hQ B hrt hnm hA hI hSt hl
  have hl : lv_has ls 6 [(0, .ref h), (1, .ref x), (2, .ref y)] := hl
  obtain ⟨f, hI, hT⟩ : ∃ f, mw_I D vwCl A s s.heap [] f ∧ wSt (kA 0) f0 h r f g n b := ⟨f0, hI, wSt.self hh hr⟩
  have x3 := wh_ne hx hr
  have x4 := Ne.symm (wh_ne hh hxr)
  have y3 := wh_ne hy hr
  have y4 := Ne.symm (wh_ne hh hyr)
  refine mv_iconst B dX1_subtractParts_0 ?_
  refine mv_istore_n (lv' := [(3, .int (iI (0))), (0, .ref h), (1, .ref x), (2, .ref y)]) B dX1_subtractParts_1 rfl hl (by decide) rfl (fun ls hl => ?_)
  refine mv_iconst B dX1_subtractParts_2 ?_
  refine mv_istore (lv' := [(4, .int (iI (0))), (3, .int (iI (0))), (0, .ref h), (1, .ref x), (2, .ref y)]) B dX1_subtractParts_3 hl (by decide) rfl (fun ls hl => ?_)
  have loop : ∀ (μ : Nat) (j : Nat) (i cy : Int) (g' : Nat → Int) (f : mw_M) (H : Heap) (locs : List Loc) (ls : Array Slot), nx - j < μ → i = (j : Int) → j ≤ nx → (cy = 0 ∨ cy = 1) → dg g' j → dv g' j - cy * 1000000 ^ j = dv gx j - dv (pz gy ny) j → mw_I D vwCl A s H locs f → wSt (kA 0) f0 h r f g' n b → lv_has ls 6 [(4, .int (iI (i))), (3, .int (iI (cy))), (0, .ref h), (1, .ref x), (2, .ref y)] → W p l e rm_X1_subtractParts s m ([.ref h, .ref x, .ref y] : List Value).toArray below meth c H locs 0 0 Q (F0 m 5 ls []) := by
    intro μ
    induction μ with
    | zero => intro j i cy g' f H locs ls hμ; exact absurd hμ (Nat.not_lt_zero _)
    | succ μ ih =>
      intro j i cy g' f H locs ls hμ hi hj hcy hg hv hI hT hl
      refine mv_iload B dX1_subtractParts_5 (lv_at hl 0 rfl) ?_
      refine mv_aload_n B dX1_subtractParts_7 rfl (lv_at hl 3 rfl) ?_
      refine ww_size B hI (hT.get hx x1 x3) uin_X1 kw_25 dX1_subtractParts_8 ?_
      refine mv_icmp_ge (tgt := 63) B dX1_subtractParts_11 (by decide) (by omega) (fun hd0 => ?_) (fun hd0 => ?_)
      · obtain rfl : nx = j := by omega
        rw [dv_pz (by omega)] at hv
        have b1 := dv_lt hg
        have b2 := bp_pos nx
        obtain rfl : cy = 0 := cy_zero (by omega) b2 (by omega)
        refine mv_aload_n B dX1_subtractParts_63 rfl (lv_at hl 2 rfl) ?_
        refine mv_aload_n B dX1_subtractParts_64 rfl (lv_at hl 3 rfl) ?_
        refine ww_size B hI (hT.get hx x1 x3) uin_X1 kw_25 dX1_subtractParts_65 ?_
        refine mw_callv hI hA (va_runV (As := [.int (iI ((nx : Int)))]) (rest := []) B.fix (t_X1_trimTo l D kA H.size f hT.1 hT.2.1 hk1 hg) (cwV 1 B.2.2.2.2.1 (gV kw_105 kw_106 kw_107 kw_2 kw_108) rfl rfl rfl (by decide +kernel) ⟨Nat.le_of_ble_eq_true rfl, Nat.le_of_ble_eq_true rfl⟩) ⟨mw_blind st_S.blind, mw_recv B hI hT.1 rfl, mw_pre B hI (hSt.call hI hA)⟩ rfl rfl hl.1 rfl (lv_room (Nat.le_of_ble_eq_true rfl)) dX1_subtractParts_68 ⟨Nat.le_of_ble_eq_true rfl, Nat.le_of_ble_eq_true rfl⟩) (fun f H locs hp hI2 => ?_)
        clear hI
        have hI := hI2
        clear hI2
        obtain ⟨n', a1, a2, a3, hT2⟩ := hp
        have hT := hT.trans hT2
        have e1 := dv_trim a1 a2
        exact mw_vret B hQ hrt hI ⟨_, n', ⟨by omega, hg.sub a1, a3⟩, by omega, hT⟩ dX1_subtractParts_71
      · have p1 := hgx j (by omega)
        have p2 := pz_dg hgy (j + 1) j (by omega)
        refine mv_aload_n B dX1_subtractParts_14 rfl (lv_at hl 3 rfl) ?_
        refine ww_parts B hI (hT.get hx x1 x3) uin_X1 kw_23 dX1_subtractParts_15 ?_
        refine mv_iload B dX1_subtractParts_18 (lv_at hl 0 rfl) ?_
        refine mw_iald B hI 0 (hT.get hxr x4 x2) rfl (j) (by omega) (by omega) (by decide) dX1_subtractParts_20 ?_
        refine mv_aload_n B dX1_subtractParts_21 rfl (lv_at hl 4 rfl) ?_
        refine mv_iload B dX1_subtractParts_22 (lv_at hl 0 rfl) ?_
        refine mw_calli hI hA (va_runV (As := [.int (iI (i))]) (rest := [.int (iI (gx (j)))]) B.fix (t_X1_partOrZero l D kA H.size f (hT.get hy y1 y3) (hT.get hyr y4 y2) hk2 (by omega)) (cwV 1 B.2.2.2.2.1 (gV kw_136 kw_137 kw_138 kw_2 kw_139) rfl rfl rfl (by decide +kernel) ⟨Nat.le_of_ble_eq_true rfl, Nat.le_of_ble_eq_true rfl⟩) ⟨mw_blind st_S.blind, mw_recv B hI (hT.get hy y1 y3) rfl, mw_pre B hI (hSt.call hI hA)⟩ rfl rfl hl.1 rfl (lv_room (Nat.le_of_ble_eq_true rfl)) dX1_subtractParts_24 ⟨Nat.le_of_ble_eq_true rfl, Nat.le_of_ble_eq_true rfl⟩) (fun r f H locs hp hI2 => ?_)
        clear hI
        have hI := hI2
        clear hI2
        obtain ⟨rfl, rfl⟩ := hp
        rw [if_neg (by omega), show (i).toNat = j by omega]
        refine mv_isub B dX1_subtractParts_27 ?_
        refine mv_iload_n B dX1_subtractParts_28 rfl (lv_at hl 1 rfl) ?_
        refine mv_isub B dX1_subtractParts_29 ?_
        refine mv_nmi (fun t ht => ?_)
        refine mv_istore (lv' := [(5, .int (iI (t))), (4, .int (iI (i))), (3, .int (iI (cy))), (0, .ref h), (1, .ref x), (2, .ref y)]) B dX1_subtractParts_30 hl (by decide) rfl (fun ls hl => ?_)
        refine mv_iload B dX1_subtractParts_32 (lv_at hl 0 rfl) ?_
        refine mv_if_ge (tgt := 41) B dX1_subtractParts_34 (by decide) (by omega) (fun hd => ?_) (fun hd => ?_)
        · refine mv_iconst B dX1_subtractParts_41 ?_
          refine mv_istore_n (lv' := [(3, .int (iI (0))), (5, .int (iI (t))), (4, .int (iI (i))), (0, .ref h), (1, .ref x), (2, .ref y)]) B dX1_subtractParts_42 rfl hl (by decide) rfl (fun ls hl => ?_)
          refine mv_aload_n B dX1_subtractParts_43 rfl (lv_at hl 3 rfl) ?_
          refine ww_parts B hI hT.1 uin_X1 kw_23 dX1_subtractParts_44 ?_
          refine mv_iload B dX1_subtractParts_47 (lv_at hl 2 rfl) ?_
          refine mv_iload B dX1_subtractParts_49 (lv_at hl 1 rfl) ?_
          refine mv_iload_n B dX1_subtractParts_51 rfl (lv_at hl 0 rfl) ?_
          refine mv_ldc (z := 1000000) B dX1_subtractParts_52 kw_140 (by decide) ?_
          refine mv_imul B dX1_subtractParts_54 ?_
          refine mv_iadd B dX1_subtractParts_55 ?_
          refine mv_nmi (fun u hu => ?_)
          refine ww_iast B hI hT (j) (by omega) (by omega) dX1_subtractParts_56 (fun f H locs hT hI => ?_)
          refine mv_iinc (k := 2) (lv' := [(4, .int (iI (i + 1))), (3, .int (iI (0))), (5, .int (iI (t))), (0, .ref h), (1, .ref x), (2, .ref y)]) B dX1_subtractParts_57 hl rfl (by decide) rfl (fun ls hl => ?_)
          refine mv_goto (tgt := 5) B dX1_subtractParts_60 (by decide) ?_
          refine ih (j + 1) _ _ _ f H locs ls (by omega) (by omega) (by omega) (by omega) (hg.up_s (by omega)) ?_ hI hT (lv_sub hl [0, 1, 3, 4, 5] rfl)
          rw [dv_up_s, dv_s, dv_s, bp_s]
          rw [hu, ht]
          grind
        · refine mv_iconst B dX1_subtractParts_37 ?_
          refine mv_goto (tgt := 42) B dX1_subtractParts_38 (by decide) ?_
          refine mv_istore_n (lv' := [(3, .int (iI (1))), (5, .int (iI (t))), (4, .int (iI (i))), (0, .ref h), (1, .ref x), (2, .ref y)]) B dX1_subtractParts_42 rfl hl (by decide) rfl (fun ls hl => ?_)
          refine mv_aload_n B dX1_subtractParts_43 rfl (lv_at hl 3 rfl) ?_
          refine ww_parts B hI hT.1 uin_X1 kw_23 dX1_subtractParts_44 ?_
          refine mv_iload B dX1_subtractParts_47 (lv_at hl 2 rfl) ?_
          refine mv_iload B dX1_subtractParts_49 (lv_at hl 1 rfl) ?_
          refine mv_iload_n B dX1_subtractParts_51 rfl (lv_at hl 0 rfl) ?_
          refine mv_ldc (z := 1000000) B dX1_subtractParts_52 kw_140 (by decide) ?_
          refine mv_imul B dX1_subtractParts_54 ?_
          refine mv_iadd B dX1_subtractParts_55 ?_
          refine mv_nmi (fun u hu => ?_)
          refine ww_iast B hI hT (j) (by omega) (by omega) dX1_subtractParts_56 (fun f H locs hT hI => ?_)
          refine mv_iinc (k := 2) (lv' := [(4, .int (iI (i + 1))), (3, .int (iI (1))), (5, .int (iI (t))), (0, .ref h), (1, .ref x), (2, .ref y)]) B dX1_subtractParts_57 hl rfl (by decide) rfl (fun ls hl => ?_)
          refine mv_goto (tgt := 5) B dX1_subtractParts_60 (by decide) ?_
          refine ih (j + 1) _ _ _ f H locs ls (by omega) (by omega) (by omega) (by omega) (hg.up_s (by omega)) ?_ hI hT (lv_sub hl [0, 1, 3, 4, 5] rfl)
          rw [dv_up_s, dv_s, dv_s, bp_s]
          rw [hu, ht]
          grind
  exact loop (nx + 1) 0 _ _ g f s.heap [] ls (by omega) rfl (by omega) (Or.inl rfl) (fun i hi => absurd hi (by omega)) (by rw [dv_0, dv_0, dv_0]; rfl) hI hT (lv_sub hl [0, 1, 2, 3, 4] rfl)
end
section
abbrev rm_X1_load : Room := { frames := 1, cells := 0, slots := 0, locals := 24 }
set_option maxHeartbeats 4000000 in
set_option maxRecDepth 100000 in
/-- load -/
theorem t_X1_load (l : Launch) (D : va_G) (kA : Nat → ClassId) (sz : Nat) (f0 : mw_M) {h r : Nat} {z : Int} (hw : Rw (kA 0) f0 h r) (hz : -9223372036854775808 ≤ z ∧ z ≤ 9223372036854775807) : mw_Mv l yX1_load (Cond.code yX1_load cX1_load 6 (none) :: gw) rm_X1_load D vwCl (tyL kA) st_S [.ref h, .long (lI (z))] f0 sz (fun f => Rp (kA 0) f h r z ∧ fo f0 f h r) 0 0 := by
  refine mw_ofv (cc := cX1_load) (maxL := 6) (ret := none) (by decide) rfl (Nat.le_of_ble_eq_true rfl) ?_
  intro p e s m below meth c A ls Q hQ B hrt hnm hA hI hSt hl
  have hl : lv_has ls 6 [(0, .ref h), (1, .long (lI (z)))] := hl
  obtain ⟨g, n, b, hh, hr⟩ := hw
  obtain ⟨f, hI, hT⟩ : ∃ f, mw_I D vwCl A s s.heap [] f ∧ wSt (kA 0) f0 h r f g n b := ⟨f0, hI, wSt.self hh hr⟩
  refine mv_lload_n B dX1_load_0 rfl (lv_at hl 1 rfl) ?_
  refine mv_lstore_n (lv' := [(3, .long (lI (z))), (0, .ref h), (1, .long (lI (z)))]) B dX1_load_1 rfl hl (by decide) rfl (fun ls hl => ?_)
  refine mv_iconst B dX1_load_2 ?_
  refine mv_istore (lv' := [(5, .int (iI (0))), (3, .long (lI (z))), (0, .ref h), (1, .long (lI (z)))]) B dX1_load_3 hl (by decide) rfl (fun ls hl => ?_)
  have loop : ∀ (μ : Nat) (j : Nat) (i y : Int) (g' : Nat → Int) (f : mw_M) (H : Heap) (locs : List Loc) (ls : Array Slot), 4 - j < μ → i = (j : Int) → j ≤ 4 → (-9223372036854775808 ≤ y ∧ y ≤ 9223372036854775807) → dg g' j → dv g' j + (y.natAbs : Int) * 1000000 ^ j = (z.natAbs : Int) → mw_I D vwCl A s H locs f → wSt (kA 0) f0 h r f g' n b → lv_has ls 6 [(5, .int (iI (i))), (3, .long (lI (y))), (0, .ref h), (1, .long (lI (z)))] → W p l e rm_X1_load s m ([.ref h, .long (lI (z))] : List Value).toArray below meth c H locs 0 0 Q (F0 m 5 ls []) := by
    intro μ
    induction μ with
    | zero => intro j i y g' f H locs ls hμ; exact absurd hμ (Nat.not_lt_zero _)
    | succ μ ih =>
      intro j i y g' f H locs ls hμ hi hj hy hg hv hI hT hl
      refine mv_iload B dX1_load_5 (lv_at hl 0 rfl) ?_
      refine mv_iconst B dX1_load_7 ?_
      refine mv_icmp_ge (tgt := 39) B dX1_load_8 (by decide) (by omega) (fun hd0 => ?_) (fun hd0 => ?_)
      · obtain rfl : j = 4 := by omega
        have b1 := dv_nn hg
        have hy0 : y = 0 := by omega
        subst hy0
        refine mv_aload_n B dX1_load_39 rfl (lv_at hl 2 rfl) ?_
        refine mv_lload_n B dX1_load_40 rfl (lv_at hl 3 rfl) ?_
        refine mv_lconst0 B dX1_load_41 ?_
        have j51 : ∀ (nb : Int), nb = (if 0 ≤ z then 0 else 1) → W p l e rm_X1_load s m ([.ref h, .long (lI (z))] : List Value).toArray below meth c H locs 0 0 Q (F0 m 51 ls [.int (iI (nb)), .ref h]) := by
          intro nb hnb
          refine ww_putb B hI hT (by omega) uin_X1 kw_27 dX1_load_51 (fun f H locs hT hI => ?_)
          refine mv_aload_n B dX1_load_54 rfl (lv_at hl 2 rfl) ?_
          refine mv_iconst B dX1_load_55 ?_
          refine mw_callv hI hA (va_runV (As := [.int (iI (4))]) (rest := []) B.fix (t_X1_trimTo l D kA H.size f (k := 4) hT.1 hT.2.1 (by omega) hg) (cwV 1 B.2.2.2.2.1 (gV kw_105 kw_106 kw_107 kw_2 kw_108) rfl rfl rfl (by decide +kernel) ⟨Nat.le_of_ble_eq_true rfl, Nat.le_of_ble_eq_true rfl⟩) ⟨mw_blind st_S.blind, mw_recv B hI hT.1 rfl, mw_pre B hI (hSt.call hI hA)⟩ rfl rfl hl.1 rfl (lv_room (Nat.le_of_ble_eq_true rfl)) dX1_load_56 ⟨Nat.le_of_ble_eq_true rfl, Nat.le_of_ble_eq_true rfl⟩) (fun f H locs hp hI2 => ?_)
          clear hI
          have hI := hI2
          clear hI2
          obtain ⟨n', a1, a2, a3, hT2⟩ := hp
          have hT := hT.trans hT2
          have e1 := dv_trim a1 a2
          exact mw_vret B hQ hrt hI (hT.toRp (rp_of ⟨by omega, hg.sub a1, a3⟩ e1.symm (by split at hnb <;> omega))) dX1_load_59
        refine mv_lcmp_ge (tgt := 50) B dX1_load_42 dX1_load_43 (by decide) (by omega) (fun hd1 => ?_) (fun hd1 => ?_)
        · refine mv_iconst B dX1_load_50 ?_
          exact j51 _ (by rw [if_pos hd1])
        · refine mv_iconst B dX1_load_46 ?_
          refine mv_goto (tgt := 51) B dX1_load_47 (by decide) ?_
          exact j51 _ (by rw [if_neg hd1])
      · refine mv_aload_n B dX1_load_11 rfl (lv_at hl 2 rfl) ?_
        refine ww_parts B hI hT.1 uin_X1 kw_23 dX1_load_12 ?_
        refine mv_iload B dX1_load_15 (lv_at hl 0 rfl) ?_
        refine mv_lload_n B dX1_load_17 rfl (lv_at hl 1 rfl) ?_
        refine mv_ldc2 (z := 1000000) B dX1_load_18 kw_101 (by decide) ?_
        refine mv_lremT B dX1_load_21 (by omega) ?_
        have t1 := Int.natAbs_tmod y 1000000
        have t2 := Int.natAbs_tdiv y 1000000
        have t3 := tdiv_in (a := y) (b := 1000000) (by decide)
        have t4 := tmod_in y
        refine mv_labs B hl.1 kw_102 kw_103 kw_5 kw_104 (Nat.le_of_ble_eq_true rfl) (Nat.le_of_ble_eq_true rfl) (Nat.le_of_ble_eq_true rfl) (Nat.le_of_ble_eq_true rfl) (by omega) dX1_load_22 ?_
        refine mv_l2i B dX1_load_25 ?_
        refine ww_iast B hI hT (j) (by omega) (by omega) dX1_load_26 (fun f H locs hT hI => ?_)
        refine mv_lload_n B dX1_load_27 rfl (lv_at hl 1 rfl) ?_
        refine mv_ldc2 (z := 1000000) B dX1_load_28 kw_101 (by decide) ?_
        refine mv_ldivT B dX1_load_31 (by omega) ?_
        refine mv_lstore_n (lv' := [(3, .long (lI ((y).tdiv (1000000)))), (5, .int (iI (i))), (0, .ref h), (1, .long (lI (z)))]) B dX1_load_32 rfl hl (by decide) rfl (fun ls hl => ?_)
        refine mv_iinc (k := 1) (lv' := [(5, .int (iI (i + 1))), (3, .long (lI ((y).tdiv (1000000)))), (0, .ref h), (1, .long (lI (z)))]) B dX1_load_33 hl rfl (by decide) rfl (fun ls hl => ?_)
        refine mv_goto (tgt := 5) B dX1_load_36 (by decide) ?_
        refine ih (j + 1) _ _ _ f H locs ls (by omega) (by omega) (by omega) (by omega) (hg.up_s (by omega)) ?_ hI hT (lv_sub hl [0, 1, 2, 3] rfl)
        rw [dv_up_s, bp_s, ← hv]
        have e2 := Nat.div_add_mod y.natAbs 1000000
        exact load_step t1 t2 e2
  exact loop 5 0 _ _ g f s.heap [] ls (by omega) rfl (by omega) hz (fun i hi => absurd hi (by omega)) (by rw [dv_0]; omega) hI hT (lv_sub hl [0, 1, 2, 3] rfl)
abbrev rm_X1_take : Room := { frames := 1, cells := 0, slots := 0, locals := 40 }
set_option maxHeartbeats 4000000 in
set_option maxRecDepth 100000 in
/-- take; other may be this -/
theorem t_X1_take (l : Launch) (D : va_G) (kA : Nat → ClassId) (sz : Nat) (f0 : mw_M) {h r x rx : Nat} {zx : Int} (hw : Rw (kA 0) f0 h r) (hx : Rp (kA 0) f0 x rx zx) (hd : x = h ∧ rx = r ∨ x ≠ h ∧ rx ≠ r) : mw_Mv l yX1_take (Cond.code yX1_take cX1_take 2 (none) :: gw) rm_X1_take D vwCl (tyL kA) st_S [.ref h, .ref x] f0 sz (fun f => Rp (kA 0) f h r zx ∧ fo f0 f h r) 0 0 := by
  refine mw_ofv (cc := cX1_take) (maxL := 2) (ret := none) (by decide) rfl (Nat.le_of_ble_eq_true rfl) ?_
  intro p e s m below meth c A ls Q hQ B hrt hnm hA hI hSt hl
  have hl : lv_has ls 2 [(0, .ref h), (1, .ref x)] := hl
  obtain ⟨g, n, b, hh, hr⟩ := hw
  obtain ⟨gx, nx, bx, hx, hxr, hzx⟩ := hx
  have m1 := hzx.1
  have q1 := hzx.b0
  obtain ⟨f, hI, hT⟩ : ∃ f, mw_I D vwCl A s s.heap [] f ∧ wSt (kA 0) f0 h r f g n b := ⟨f0, hI, wSt.self hh hr⟩
  rcases hd with ⟨rfl, rfl⟩ | ⟨x1, x2⟩
  · refine mv_aload_n B dX1_take_0 rfl (lv_at hl 1 rfl) ?_
    refine ww_parts B hI (hT.1.trans (hh.symm.trans hx)) uin_X1 kw_23 dX1_take_1 ?_
    refine mv_iconst B dX1_take_4 ?_
    refine mv_aload_n B dX1_take_5 rfl (lv_at hl 0 rfl) ?_
    refine ww_parts B hI hT.1 uin_X1 kw_23 dX1_take_6 ?_
    refine mv_iconst B dX1_take_9 ?_
    refine mv_aload_n B dX1_take_10 rfl (lv_at hl 1 rfl) ?_
    refine ww_size B hI (hT.1.trans (hh.symm.trans hx)) uin_X1 kw_25 dX1_take_11 ?_
    refine mw_copy B hI hl.1 kw_157 kw_159 kw_158 kw_6 0 rfl (hT.2.1.trans (hr.symm.trans hxr)) hT.2.1 (k := nx) m1 m1 (by decide) (Nat.le_of_ble_eq_true rfl) (Nat.le_of_ble_eq_true rfl) dX1_take_14 (fun H locs hI => ?_)
    have hT := hT.ast (cpI gx g nx)
    generalize mw_set f _ _ = f at hI hT
    refine mv_aload_n B dX1_take_17 rfl (lv_at hl 0 rfl) ?_
    refine mv_aload_n B dX1_take_18 rfl (lv_at hl 1 rfl) ?_
    refine ww_size B hI (hT.1.trans (hh.symm.trans hx)) uin_X1 kw_25 dX1_take_19 ?_
    refine ww_puts B hI hT uin_X1 kw_25 dX1_take_22 (fun f H locs hT hI => ?_)
    refine mv_aload_n B dX1_take_25 rfl (lv_at hl 0 rfl) ?_
    refine mv_aload_n B dX1_take_26 rfl (lv_at hl 1 rfl) ?_
    refine ww_below B hI (sameC hT.1 hh hx) uin_X1 kw_27 dX1_take_27 ?_
    refine ww_putb B hI hT (by omega) uin_X1 kw_27 dX1_take_30 (fun f H locs hT hI => ?_)
    exact mw_vret B hQ hrt hI (hT.toRp (hzx.congr (fun i hi => by simp [cpI, hi]))) dX1_take_33
  · have x3 := wh_ne hx hr
    have x4 := Ne.symm (wh_ne hh hxr)
    refine mv_aload_n B dX1_take_0 rfl (lv_at hl 1 rfl) ?_
    refine ww_parts B hI (hT.get hx x1 x3) uin_X1 kw_23 dX1_take_1 ?_
    refine mv_iconst B dX1_take_4 ?_
    refine mv_aload_n B dX1_take_5 rfl (lv_at hl 0 rfl) ?_
    refine ww_parts B hI hT.1 uin_X1 kw_23 dX1_take_6 ?_
    refine mv_iconst B dX1_take_9 ?_
    refine mv_aload_n B dX1_take_10 rfl (lv_at hl 1 rfl) ?_
    refine ww_size B hI (hT.get hx x1 x3) uin_X1 kw_25 dX1_take_11 ?_
    refine mw_copy B hI hl.1 kw_157 kw_159 kw_158 kw_6 0 rfl (hT.get hxr x4 x2) hT.2.1 (k := nx) m1 m1 (by decide) (Nat.le_of_ble_eq_true rfl) (Nat.le_of_ble_eq_true rfl) dX1_take_14 (fun H locs hI => ?_)
    have hT := hT.ast (cpI gx g nx)
    generalize mw_set f _ _ = f at hI hT
    refine mv_aload_n B dX1_take_17 rfl (lv_at hl 0 rfl) ?_
    refine mv_aload_n B dX1_take_18 rfl (lv_at hl 1 rfl) ?_
    refine ww_size B hI (hT.get hx x1 x3) uin_X1 kw_25 dX1_take_19 ?_
    refine ww_puts B hI hT uin_X1 kw_25 dX1_take_22 (fun f H locs hT hI => ?_)
    refine mv_aload_n B dX1_take_25 rfl (lv_at hl 0 rfl) ?_
    refine mv_aload_n B dX1_take_26 rfl (lv_at hl 1 rfl) ?_
    refine ww_below B hI (hT.get hx x1 x3) uin_X1 kw_27 dX1_take_27 ?_
    refine ww_putb B hI hT (by omega) uin_X1 kw_27 dX1_take_30 (fun f H locs hT hI => ?_)
    exact mw_vret B hQ hrt hI (hT.toRp (hzx.congr (fun i hi => by simp [cpI, hi]))) dX1_take_33
abbrev rm_X1_takeProduct : Room := { frames := 1, cells := 0, slots := 0, locals := 24 }
set_option maxHeartbeats 4000000 in
set_option maxRecDepth 100000 in
/-- takeProduct -/
theorem t_X1_takeProduct (l : Launch) (D : va_G) (kA : Nat → ClassId) (sz : Nat) (f0 : mw_M) {h r x rx y ry : Nat} {zx zy : Int} (hw : Rw (kA 0) f0 h r) (hx : Rp (kA 0) f0 x rx zx) (hy : Rp (kA 0) f0 y ry zy) (x1 : x ≠ h) (x2 : rx ≠ r) (y1 : y ≠ h) (y2 : ry ≠ r) (k1 : (zx.natAbs : Int) < 1000000 ^ 50) (k2 : (zy.natAbs : Int) < 1000000 ^ 50) : mw_Mv l yX1_takeProduct (Cond.code yX1_takeProduct cX1_takeProduct 11 (none) :: gw) rm_X1_takeProduct D vwCl (tyL kA) st_S [.ref h, .ref x, .ref y] f0 sz (fun f => Rp (kA 0) f h r (zx * zy) ∧ fo f0 f h r) 0 0 := by
  refine mw_ofv (cc := cX1_takeProduct) (maxL := 11) (ret := none) (by decide) rfl (Nat.le_of_ble_eq_true rfl) ?_
  intro p e s m below meth c A ls Q hQ B hrt hnm hA hI hSt hl
  have hl : lv_has ls 11 [(0, .ref h), (1, .ref x), (2, .ref y)] := hl
  obtain ⟨g, n, b, hh, hr⟩ := hw
  obtain ⟨gx, nx, bx, hx, hxr, hzx⟩ := hx
  obtain ⟨gy, ny, by_, hy, hyr, hzy⟩ := hy
  have m1 := (hzx.size 50).mpr k1
  have m2 := (hzy.size 50).mpr k2
  obtain ⟨f, hI, hT⟩ : ∃ f, mw_I D vwCl A s s.heap [] f ∧ wSt (kA 0) f0 h r f g n b := ⟨f0, hI, wSt.self hh hr⟩
  have x3 := wh_ne hx hr
  have x4 := Ne.symm (wh_ne hh hxr)
  have y3 := wh_ne hy hr
  have y4 := Ne.symm (wh_ne hh hyr)
  have q1 := hzx.b0
  have q2 := hzy.b0
  have q3 := hzx.nat
  have q4 := hzy.nat
  have q5 := dv_nn hzx.2.1
  have q6 := dv_nn hzy.2.1
  refine mv_aload_n B dX1_takeProduct_0 rfl (lv_at hl 1 rfl) ?_
  refine ww_size B hI (hT.get hx x1 x3) uin_X1 kw_25 dX1_takeProduct_1 ?_
  refine mv_aload_n B dX1_takeProduct_4 rfl (lv_at hl 2 rfl) ?_
  refine ww_size B hI (hT.get hy y1 y3) uin_X1 kw_25 dX1_takeProduct_5 ?_
  refine mv_iadd B dX1_takeProduct_8 ?_
  refine mv_istore_n (lv' := [(3, .int (iI (((nx : Int)) + ((ny : Int))))), (0, .ref h), (1, .ref x), (2, .ref y)]) B dX1_takeProduct_9 rfl hl (by decide) rfl (fun ls hl => ?_)
  refine mv_aload_n B dX1_takeProduct_10 rfl (lv_at hl 2 rfl) ?_
  refine ww_parts B hI (hT.get hx x1 x3) uin_X1 kw_23 dX1_takeProduct_11 ?_
  refine mv_astore (lv' := [(4, .ref rx), (3, .int (iI (((nx : Int)) + ((ny : Int))))), (0, .ref h), (1, .ref x), (2, .ref y)]) B dX1_takeProduct_14 hl (by decide) rfl (fun ls hl => ?_)
  refine mv_aload_n B dX1_takeProduct_16 rfl (lv_at hl 4 rfl) ?_
  refine ww_parts B hI (hT.get hy y1 y3) uin_X1 kw_23 dX1_takeProduct_17 ?_
  refine mv_astore (lv' := [(5, .ref ry), (4, .ref rx), (3, .int (iI (((nx : Int)) + ((ny : Int))))), (0, .ref h), (1, .ref x), (2, .ref y)]) B dX1_takeProduct_20 hl (by decide) rfl (fun ls hl => ?_)
  refine mv_lconst0 B dX1_takeProduct_22 ?_
  refine mv_lstore (lv' := [(6, .long (lI (0))), (5, .ref ry), (4, .ref rx), (3, .int (iI (((nx : Int)) + ((ny : Int))))), (0, .ref h), (1, .ref x), (2, .ref y)]) B dX1_takeProduct_23 hl (by decide) rfl (fun ls hl => ?_)
  refine mv_iconst B dX1_takeProduct_25 ?_
  refine mv_istore (lv' := [(8, .int (iI (0))), (6, .long (lI (0))), (5, .ref ry), (4, .ref rx), (3, .int (iI (((nx : Int)) + ((ny : Int))))), (0, .ref h), (1, .ref x), (2, .ref y)]) B dX1_takeProduct_26 hl (by decide) rfl (fun ls hl => ?_)
  have eN : (nx : Int) + (ny : Int) = ((nx + ny : Nat) : Int) := by omega
  have loop : ∀ (μ : Nat) (k : Nat) (i cy : Int) (g' : Nat → Int) (f : mw_M) (H : Heap) (locs : List Loc) (ls : Array Slot), nx + ny - k < μ → i = (k : Int) → k ≤ nx + ny → (0 ≤ cy ∧ cy ≤ 100000000) → dg g' k → dv g' k + cy * 1000000 ^ k = rs gx (pz gy ny) k nx → mw_I D vwCl A s H locs f → wSt (kA 0) f0 h r f g' n b → lv_has ls 11 [(8, .int (iI (i))), (6, .long (lI (cy))), (5, .ref ry), (4, .ref rx), (3, .int (iI (((nx : Int)) + ((ny : Int))))), (0, .ref h), (1, .ref x), (2, .ref y)] → W p l e rm_X1_takeProduct s m ([.ref h, .ref x, .ref y] : List Value).toArray below meth c H locs 0 0 Q (F0 m 28 ls []) := by
    intro μ
    induction μ with
    | zero => intro k i cy g' f H locs ls hμ; exact absurd hμ (Nat.not_lt_zero _)
    | succ μ ih =>
      intro k i cy g' f H locs ls hμ hi hk hcy hg hv hI hT hl
      refine mv_iload B dX1_takeProduct_28 (lv_at hl 0 rfl) ?_
      refine mv_iload_n B dX1_takeProduct_30 rfl (lv_at hl 4 rfl) ?_
      refine mv_icmp_ge (tgt := 124) B dX1_takeProduct_31 (by decide) (by omega) (fun hd0 => ?_) (fun hd0 => ?_)
      · have ek : k = nx + ny := by omega
        subst ek
        rw [rs_all (Nat.le_refl _)] at hv
        have b1 := dv_lt hzx.2.1
        have b2 := dv_lt hzy.2.1
        have b3 := bp_add nx ny
        have b4 := dv_nn hg
        have b5 := bp_pos (nx + ny)
        have b6 : dv gx nx * dv gy ny < 1000000 ^ (nx + ny) := by rw [b3]; exact mul_lt_lt q5 b1 q6 b2
        obtain rfl : cy = 0 := cy_zero hcy.1 b5 (by omega)
        rw [Int.zero_mul, Int.add_zero] at hv
        refine mv_aload_n B dX1_takeProduct_124 rfl (lv_at hl 5 rfl) ?_
        refine mv_aload_n B dX1_takeProduct_125 rfl (lv_at hl 6 rfl) ?_
        refine ww_below B hI (hT.get hx x1 x3) uin_X1 kw_27 dX1_takeProduct_126 ?_
        refine mv_aload_n B dX1_takeProduct_129 rfl (lv_at hl 7 rfl) ?_
        refine ww_below B hI (hT.get hy y1 y3) uin_X1 kw_27 dX1_takeProduct_130 ?_
        have j141 : ∀ (nb : Int), nb = (if bx = by_ then 0 else 1) → W p l e rm_X1_takeProduct s m ([.ref h, .ref x, .ref y] : List Value).toArray below meth c H locs 0 0 Q (F0 m 141 ls [.int (iI (nb)), .ref h]) := by
          intro nb hnb
          refine ww_putb B hI hT (by omega) uin_X1 kw_27 dX1_takeProduct_141 (fun f H locs hT hI => ?_)
          refine mv_aload_n B dX1_takeProduct_144 rfl (lv_at hl 5 rfl) ?_
          refine mv_iload_n B dX1_takeProduct_145 rfl (lv_at hl 4 rfl) ?_
          refine mw_callv hI hA (va_runV (As := [.int (iI (((nx : Int)) + ((ny : Int))))]) (rest := []) B.fix (t_X1_trimTo l D kA H.size f (k := nx + ny) hT.1 hT.2.1 (by omega) hg) (cwV 1 B.2.2.2.2.1 (gV kw_105 kw_106 kw_107 kw_2 kw_108) rfl rfl rfl (by decide +kernel) ⟨Nat.le_of_ble_eq_true rfl, Nat.le_of_ble_eq_true rfl⟩) ⟨mw_blind st_S.blind, mw_recv B hI hT.1 rfl, mw_pre B hI (hSt.call hI hA)⟩ rfl rfl hl.1 rfl (lv_room (Nat.le_of_ble_eq_true rfl)) dX1_takeProduct_146 ⟨Nat.le_of_ble_eq_true rfl, Nat.le_of_ble_eq_true rfl⟩) (fun f H locs hp hI2 => ?_)
          clear hI
          have hI := hI2
          clear hI2
          obtain ⟨n', a1, a2, a3, hT2⟩ := hp
          have hT := hT.trans hT2
          have e1 := dv_trim a1 a2
          have hM : (nb = 0 ∧ zx * zy = dv gx nx * dv gy ny) ∨ (nb = 1 ∧ zx * zy = -(dv gx nx * dv gy ny)) := mul_sgn hzx hzy hnb
          exact mw_vret B hQ hrt hI (hT.toRp (rp_of ⟨by omega, hg.sub a1, a3⟩ (by rw [← e1]; exact hv) hM)) dX1_takeProduct_149
        refine mv_icmp_eq (tgt := 140) B dX1_takeProduct_133 (by decide) (by omega) (fun hd1 => ?_) (fun hd1 => ?_)
        · refine mv_iconst B dX1_takeProduct_140 ?_
          exact j141 _ (by rw [if_pos hd1])
        · refine mv_iconst B dX1_takeProduct_136 ?_
          refine mv_goto (tgt := 141) B dX1_takeProduct_137 (by decide) ?_
          exact j141 _ (by rw [if_neg hd1])
      · refine mv_iload B dX1_takeProduct_34 (lv_at hl 0 rfl) ?_
        refine mv_iconst B dX1_takeProduct_36 ?_
        refine mv_iadd B dX1_takeProduct_37 ?_
        refine mv_aload_n B dX1_takeProduct_38 rfl (lv_at hl 6 rfl) ?_
        refine ww_size B hI (hT.get hx x1 x3) uin_X1 kw_25 dX1_takeProduct_39 ?_
        refine mv_mmin B hl.1 kw_118 kw_119 kw_5 kw_120 (Nat.le_of_ble_eq_true rfl) (Nat.le_of_ble_eq_true rfl) (Nat.le_of_ble_eq_true rfl) (Nat.le_of_ble_eq_true rfl) (by omega) dX1_takeProduct_42 ?_
        obtain ⟨E, hE⟩ : ∃ E : Nat, (E : Int) = min (i + 1) (nx : Int) := ⟨min (k + 1) nx, by omega⟩
        rw [← hE]
        refine mv_istore (lv' := [(9, .int (iI ((E : Int)))), (8, .int (iI (i))), (6, .long (lI (cy))), (5, .ref ry), (4, .ref rx), (3, .int (iI (((nx : Int)) + ((ny : Int))))), (0, .ref h), (1, .ref x), (2, .ref y)]) B dX1_takeProduct_45 hl (by decide) rfl (fun ls hl => ?_)
        refine mv_iconst B dX1_takeProduct_47 ?_
        refine mv_iload B dX1_takeProduct_48 (lv_at hl 1 rfl) ?_
        refine mv_aload_n B dX1_takeProduct_50 rfl (lv_at hl 8 rfl) ?_
        refine ww_size B hI (hT.get hy y1 y3) uin_X1 kw_25 dX1_takeProduct_51 ?_
        refine mv_isub B dX1_takeProduct_54 ?_
        refine mv_iconst B dX1_takeProduct_55 ?_
        refine mv_iadd B dX1_takeProduct_56 ?_
        refine mv_mmax B hl.1 kw_121 kw_122 kw_5 kw_123 (Nat.le_of_ble_eq_true rfl) (Nat.le_of_ble_eq_true rfl) (Nat.le_of_ble_eq_true rfl) (Nat.le_of_ble_eq_true rfl) (by omega) dX1_takeProduct_57 ?_
        obtain ⟨i0, hi0⟩ : ∃ i0 : Nat, (i0 : Int) = max 0 (i - (ny : Int) + 1) := ⟨k + 1 - ny, by omega⟩
        rw [← hi0]
        refine mv_istore (lv' := [(10, .int (iI ((i0 : Int)))), (9, .int (iI ((E : Int)))), (8, .int (iI (i))), (6, .long (lI (cy))), (5, .ref ry), (4, .ref rx), (3, .int (iI (((nx : Int)) + ((ny : Int))))), (0, .ref h), (1, .ref x), (2, .ref y)]) B dX1_takeProduct_60 hl (by decide) rfl (fun ls hl => ?_)
        have loop2 : ∀ (μ : Nat) (j : Nat) (u t : Int) (ls : Array Slot), E - j < μ → u = (j : Int) → i0 ≤ j → j ≤ E → t = cy + co gx (pz gy ny) k j → lv_has ls 11 [(10, .int (iI (u))), (6, .long (lI (t))), (9, .int (iI ((E : Int)))), (8, .int (iI (i))), (5, .ref ry), (4, .ref rx), (3, .int (iI (((nx : Int)) + ((ny : Int))))), (0, .ref h), (1, .ref x), (2, .ref y)] → W p l e rm_X1_takeProduct s m ([.ref h, .ref x, .ref y] : List Value).toArray below meth c H locs 0 0 Q (F0 m 62 ls []) := by
          intro μ
          induction μ with
          | zero => intro j u t ls hμ; exact absurd hμ (Nat.not_lt_zero _)
          | succ μ ih2 =>
            intro j u t ls hμ hu hj1 hj2 ht hl
            refine mv_iload B dX1_takeProduct_62 (lv_at hl 0 rfl) ?_
            refine mv_iload B dX1_takeProduct_64 (lv_at hl 2 rfl) ?_
            refine mv_icmp_ge (tgt := 96) B dX1_takeProduct_66 (by decide) (by omega) (fun hd1 => ?_) (fun hd1 => ?_)
            · obtain rfl : E = j := by omega
              have c1 : co gx (pz gy ny) k E = co gx (pz gy ny) k nx := co_end hE hi
              have c2 := co_bound (k := k) hzx.2.1 hzy.2.1 (Nat.le_refl nx)
              rw [c1] at ht
              have ht2 : 0 ≤ t ∧ t ≤ 50000000000000 + 100000000 := by omega
              refine mv_aload_n B dX1_takeProduct_96 rfl (lv_at hl 7 rfl) ?_
              refine ww_parts B hI hT.1 uin_X1 kw_23 dX1_takeProduct_97 ?_
              refine mv_iload B dX1_takeProduct_100 (lv_at hl 3 rfl) ?_
              refine mv_lload B dX1_takeProduct_102 (lv_at hl 1 rfl) ?_
              refine mv_ldc2 (z := 1000000) B dX1_takeProduct_104 kw_101 (by decide) ?_
              refine mv_lrem B dX1_takeProduct_107 (by omega) ?_
              refine mv_l2i B dX1_takeProduct_108 ?_
              refine ww_iast B hI hT (k) (by omega) (by omega) dX1_takeProduct_109 (fun f H locs hT hI => ?_)
              refine mv_lload B dX1_takeProduct_110 (lv_at hl 1 rfl) ?_
              refine mv_ldc2 (z := 1000000) B dX1_takeProduct_112 kw_101 (by decide) ?_
              refine mv_ldiv B dX1_takeProduct_115 (by omega) ?_
              refine mv_lstore (lv' := [(6, .long (lI ((t) / (1000000)))), (10, .int (iI (u))), (9, .int (iI ((E : Int)))), (8, .int (iI (i))), (5, .ref ry), (4, .ref rx), (3, .int (iI (((nx : Int)) + ((ny : Int))))), (0, .ref h), (1, .ref x), (2, .ref y)]) B dX1_takeProduct_116 hl (by decide) rfl (fun ls hl => ?_)
              refine mv_iinc (k := 3) (lv' := [(8, .int (iI (i + 1))), (6, .long (lI ((t) / (1000000)))), (10, .int (iI (u))), (9, .int (iI ((E : Int)))), (5, .ref ry), (4, .ref rx), (3, .int (iI (((nx : Int)) + ((ny : Int))))), (0, .ref h), (1, .ref x), (2, .ref y)]) B dX1_takeProduct_118 hl rfl (by decide) rfl (fun ls hl => ?_)
              refine mv_goto (tgt := 28) B dX1_takeProduct_121 (by decide) ?_
              refine ih (k + 1) _ _ _ f H locs ls (by omega) (by omega) (by omega) (by omega) (hg.up_s (by omega)) ?_ hI hT (lv_sub hl [0, 1, 4, 5, 6, 7, 8, 9] rfl)
              rw [dv_up_s, rs_s, ← hv, bp_s]
              have e2 := Int.mul_ediv_add_emod t 1000000
              exact col_step e2 ht
            · have p1 := hzx.2.1 j (by omega)
              have p2 := hzy.2.1 (k - j) (by omega)
              refine mv_lload B dX1_takeProduct_69 (lv_at hl 1 rfl) ?_
              refine mv_aload B dX1_takeProduct_71 (lv_at hl 5 rfl) ?_
              refine mv_iload B dX1_takeProduct_73 (lv_at hl 0 rfl) ?_
              refine mw_iald B hI 0 (hT.get hxr x4 x2) rfl (j) (by omega) (by omega) (by decide) dX1_takeProduct_75 ?_
              refine mv_i2l B dX1_takeProduct_76 (by omega) ?_
              refine mv_aload B dX1_takeProduct_77 (lv_at hl 4 rfl) ?_
              refine mv_iload B dX1_takeProduct_79 (lv_at hl 3 rfl) ?_
              refine mv_iload B dX1_takeProduct_81 (lv_at hl 0 rfl) ?_
              refine mv_isub B dX1_takeProduct_83 ?_
              refine mw_iald B hI 0 (hT.get hyr y4 y2) rfl (k - j) (by omega) (by omega) (by decide) dX1_takeProduct_84 ?_
              refine mv_i2l B dX1_takeProduct_85 (by omega) ?_
              refine mv_lmul B dX1_takeProduct_86 ?_
              refine mv_ladd B dX1_takeProduct_87 ?_
              refine mv_lstore (lv' := [(6, .long (lI ((t) + ((gx (j)) * (gy (k - j)))))), (10, .int (iI (u))), (9, .int (iI ((E : Int)))), (8, .int (iI (i))), (5, .ref ry), (4, .ref rx), (3, .int (iI (((nx : Int)) + ((ny : Int))))), (0, .ref h), (1, .ref x), (2, .ref y)]) B dX1_takeProduct_88 hl (by decide) rfl (fun ls hl => ?_)
              refine mv_iinc (k := 1) (lv' := [(10, .int (iI (u + 1))), (6, .long (lI ((t) + ((gx (j)) * (gy (k - j)))))), (9, .int (iI ((E : Int)))), (8, .int (iI (i))), (5, .ref ry), (4, .ref rx), (3, .int (iI (((nx : Int)) + ((ny : Int))))), (0, .ref h), (1, .ref x), (2, .ref y)]) B dX1_takeProduct_90 hl rfl (by decide) rfl (fun ls hl => ?_)
              refine mv_goto (tgt := 62) B dX1_takeProduct_93 (by decide) ?_
              refine ih2 (j + 1) _ _ ls (by omega) (by omega) (by omega) (by omega) ?_ (lv_sub hl [0, 1, 2, 3, 4, 5, 6, 7, 8, 9] rfl)
              rw [co_in (by omega) (by omega), ht]
              omega
        have c0 : co gx (pz gy ny) k i0 = 0 := by
          rcases Nat.eq_zero_or_pos i0 with q | q
          · rw [q]; rfl
          · exact co_lo (by omega)
        exact loop2 (E + 1) i0 _ _ ls (by omega) rfl (Nat.le_refl _) (by omega) (by rw [c0]; omega) (lv_sub hl [0, 3, 1, 2, 4, 5, 6, 7, 8, 9] rfl)
  exact loop (nx + ny + 1) 0 _ _ g f s.heap [] ls (by omega) rfl (by omega) (by omega) (fun i hi => absurd hi (by omega)) (by rw [dv_0, rs_0]; rfl) hI hT (lv_sub hl [0, 1, 2, 3, 4, 5, 6, 7] rfl)
end
section
abbrev rm_X1_takeSum : Room := { frames := 2, cells := 0, slots := 0, locals := 50 }
set_option maxHeartbeats 4000000 in
set_option maxRecDepth 100000 in
/-- takeSum -/
theorem t_X1_takeSum (l : Launch) (D : va_G) (kA : Nat → ClassId) (sz : Nat) (f0 : mw_M) {h r x rx y ry : Nat} {zx zy aw : Int} (hw : Rw (kA 0) f0 h r) (hx : Rp (kA 0) f0 x rx zx) (hy : Rp (kA 0) f0 y ry zy) (x1 : x ≠ h) (x2 : rx ≠ r) (y1 : y ≠ h) (y2 : ry ≠ r) (haw : aw = 0 ∨ aw = 1) (k1 : (zx.natAbs : Int) < 1000000 ^ 103) (k2 : (zy.natAbs : Int) < 1000000 ^ 103) : mw_Mv l yX1_takeSum (Cond.code yX1_takeSum cX1_takeSum 6 (none) :: gw) rm_X1_takeSum D vwCl (tyL kA) st_S [.ref h, .ref x, .ref y, .int (iI (aw))] f0 sz (fun f => Rp (kA 0) f h r (if aw = 0 then zx + zy else zx - zy) ∧ fo f0 f h r) 0 0 := by
  refine mw_ofv (cc := cX1_takeSum) (maxL := 6) (ret := none) (by decide) rfl (Nat.le_of_ble_eq_true rfl) ?_
  intro p e s m below meth c A ls Q hQ B hrt hnm hA hI hSt hl
  have hl : lv_has ls 6 [(0, .ref h), (1, .ref x), (2, .ref y), (3, .int (iI (aw)))] := hl
  obtain ⟨g, n, b, hh, hr⟩ := hw
  obtain ⟨gx, nx, bx, hx, hxr, hzx⟩ := hx
  obtain ⟨gy, ny, by_, hy, hyr, hzy⟩ := hy
  have m1 := (hzx.size 103).mpr k1
  have m2 := (hzy.size 103).mpr k2
  obtain ⟨f, hI, hT⟩ : ∃ f, mw_I D vwCl A s s.heap [] f ∧ wSt (kA 0) f0 h r f g n b := ⟨f0, hI, wSt.self hh hr⟩
  have x3 := wh_ne hx hr
  have x4 := Ne.symm (wh_ne hh hxr)
  have y3 := wh_ne hy hr
  have y4 := Ne.symm (wh_ne hh hyr)
  have q1 := hzx.b0
  have q2 := hzy.b0
  have q3 := hzx.nat
  have q4 := hzy.nat
  have q5 := dv_nn hzx.2.1
  have q6 := dv_nn hzy.2.1
  refine mv_aload_n B dX1_takeSum_0 rfl (lv_at hl 2 rfl) ?_
  refine ww_below B hI (hT.get hy y1 y3) uin_X1 kw_27 dX1_takeSum_1 ?_
  refine mv_iload_n B dX1_takeSum_4 rfl (lv_at hl 3 rfl) ?_
  have j13 : ∀ (yb : Int), yb = (if by_ = aw then 0 else 1) → W p l e rm_X1_takeSum s m ([.ref h, .ref x, .ref y, .int (iI (aw))] : List Value).toArray below meth c s.heap [] 0 0 Q (F0 m 13 ls [.int (iI (yb))]) := by
    intro yb hyb
    refine mv_istore (lv' := [(4, .int (iI (yb))), (0, .ref h), (1, .ref x), (2, .ref y), (3, .int (iI (aw)))]) B dX1_takeSum_13 hl (by decide) rfl (fun ls hl => ?_)
    refine mv_aload_n B dX1_takeSum_15 rfl (lv_at hl 2 rfl) ?_
    refine mv_aload_n B dX1_takeSum_16 rfl (lv_at hl 3 rfl) ?_
    refine mw_calli hI hA (va_runV (As := [.ref y]) (rest := []) B.fix (t_X1_compareParts l D kA s.heap.size f (hT.get hx x1 x3) (hT.get hxr x4 x2) (hT.get hy y1 y3) (hT.get hyr y4 y2) hzx.toCn hzy.toCn) (cwV 1 B.2.2.2.2.1 (gV kw_128 kw_129 kw_130 kw_2 kw_131) rfl rfl rfl (by decide +kernel) ⟨Nat.le_of_ble_eq_true rfl, Nat.le_of_ble_eq_true rfl⟩) ⟨mw_blind st_S.blind, mw_recv B hI (hT.get hx x1 x3) rfl, mw_pre B hI (hSt.call hI hA)⟩ rfl rfl hl.1 rfl (lv_room (Nat.le_of_ble_eq_true rfl)) dX1_takeSum_17 ⟨Nat.le_of_ble_eq_true rfl, Nat.le_of_ble_eq_true rfl⟩) (fun r f H locs hp hI2 => ?_)
    clear hI
    have hI := hI2
    clear hI2
    obtain ⟨rfl, rfl⟩ := hp
    have q7 := c3_in (dv gx nx) (dv gy ny)
    have j28 : ∀ (xl : Int), xl = (if dv gx nx < dv gy ny then 0 else 1) → W p l e rm_X1_takeSum s m ([.ref h, .ref x, .ref y, .int (iI (aw))] : List Value).toArray below meth c H locs 0 0 Q (F0 m 28 ls [.int (iI (xl))]) := by
      intro xl hxl
      refine mv_istore (lv' := [(5, .int (iI (xl))), (4, .int (iI (yb))), (0, .ref h), (1, .ref x), (2, .ref y), (3, .int (iI (aw)))]) B dX1_takeSum_28 hl (by decide) rfl (fun ls hl => ?_)
      refine mv_aload_n B dX1_takeSum_30 rfl (lv_at hl 2 rfl) ?_
      refine mv_iload B dX1_takeSum_31 (lv_at hl 0 rfl) ?_
      have j45 : ∀ (nb : Int), nb = (if xl = 0 then yb else bx) → W p l e rm_X1_takeSum s m ([.ref h, .ref x, .ref y, .int (iI (aw))] : List Value).toArray below meth c H locs 0 0 Q (F0 m 45 ls [.int (iI (nb)), .ref h]) := by
        intro nb hnb
        refine ww_putb B hI hT (by omega) uin_X1 kw_27 dX1_takeSum_45 (fun f H locs hT hI => ?_)
        refine mv_aload_n B dX1_takeSum_48 rfl (lv_at hl 3 rfl) ?_
        refine ww_below B hI (hT.get hx x1 x3) uin_X1 kw_27 dX1_takeSum_49 ?_
        refine mv_iload B dX1_takeSum_52 (lv_at hl 1 rfl) ?_
        refine mv_icmp_ne (tgt := 66) B dX1_takeSum_54 (by decide) (by omega) (fun hd3 => ?_) (fun hd3 => ?_)
        · refine mv_iload B dX1_takeSum_66 (lv_at hl 0 rfl) ?_
          refine mv_if_eq (tgt := 80) B dX1_takeSum_68 (by decide) (by omega) (fun hd4 => ?_) (fun hd4 => ?_)
          · refine mv_aload_n B dX1_takeSum_80 rfl (lv_at hl 2 rfl) ?_
            refine mv_aload_n B dX1_takeSum_81 rfl (lv_at hl 4 rfl) ?_
            refine mv_aload_n B dX1_takeSum_82 rfl (lv_at hl 3 rfl) ?_
            have m3 : nx ≤ ny := bp_size hzy hzx (by omega)
            refine mw_callv hI hA (va_runV (As := [.ref y, .ref x]) (rest := []) B.fix (t_X1_subtractParts l D kA H.size f hT.1 hT.2.1 (hT.get hy y1 y3) (hT.get hyr y4 y2) (hT.get hx x1 x3) (hT.get hxr x4 x2) y1 y2 x1 x2 (by omega) (by omega) m3 (by omega) hzy.2.1 hzx.2.1 (by omega)) (cwV 2 B.2.2.2.2.1 (gV kw_141 kw_143 ks_1 kw_2 kw_144) rfl rfl rfl (by decide +kernel) ⟨Nat.le_of_ble_eq_true rfl, Nat.le_of_ble_eq_true rfl⟩) ⟨mw_blind st_S.blind, mw_recv B hI hT.1 rfl, mw_pre B hI (hSt.call hI hA)⟩ rfl rfl hl.1 rfl (lv_room (Nat.le_of_ble_eq_true rfl)) dX1_takeSum_83 ⟨Nat.le_of_ble_eq_true rfl, Nat.le_of_ble_eq_true rfl⟩) (fun f H locs hp hI2 => ?_)
            clear hI
            have hI := hI2
            clear hI2
            obtain ⟨g', n', a1, a2, hT2⟩ := hp
            have hT := hT.trans hT2
            exact mw_vret B hQ hrt hI (hT.toRp (rp_of a1 a2 (by split <;> omega))) dX1_takeSum_86
          · refine mv_aload_n B dX1_takeSum_71 rfl (lv_at hl 2 rfl) ?_
            refine mv_aload_n B dX1_takeSum_72 rfl (lv_at hl 3 rfl) ?_
            refine mv_aload_n B dX1_takeSum_73 rfl (lv_at hl 4 rfl) ?_
            have m3 : ny ≤ nx := bp_size hzx hzy (by omega)
            refine mw_callv hI hA (va_runV (As := [.ref x, .ref y]) (rest := []) B.fix (t_X1_subtractParts l D kA H.size f hT.1 hT.2.1 (hT.get hx x1 x3) (hT.get hxr x4 x2) (hT.get hy y1 y3) (hT.get hyr y4 y2) x1 x2 y1 y2 (by omega) (by omega) m3 (by omega) hzx.2.1 hzy.2.1 (by omega)) (cwV 2 B.2.2.2.2.1 (gV kw_141 kw_143 ks_1 kw_2 kw_144) rfl rfl rfl (by decide +kernel) ⟨Nat.le_of_ble_eq_true rfl, Nat.le_of_ble_eq_true rfl⟩) ⟨mw_blind st_S.blind, mw_recv B hI hT.1 rfl, mw_pre B hI (hSt.call hI hA)⟩ rfl rfl hl.1 rfl (lv_room (Nat.le_of_ble_eq_true rfl)) dX1_takeSum_74 ⟨Nat.le_of_ble_eq_true rfl, Nat.le_of_ble_eq_true rfl⟩) (fun f H locs hp hI2 => ?_)
            clear hI
            have hI := hI2
            clear hI2
            obtain ⟨g', n', a1, a2, hT2⟩ := hp
            have hT := hT.trans hT2
            refine mv_goto (tgt := 86) B dX1_takeSum_77 (by decide) ?_
            exact mw_vret B hQ hrt hI (hT.toRp (rp_of a1 a2 (by split <;> omega))) dX1_takeSum_86
        · refine mv_aload_n B dX1_takeSum_57 rfl (lv_at hl 2 rfl) ?_
          refine mv_aload_n B dX1_takeSum_58 rfl (lv_at hl 3 rfl) ?_
          refine mv_aload_n B dX1_takeSum_59 rfl (lv_at hl 4 rfl) ?_
          refine mw_callv hI hA (va_runV (As := [.ref x, .ref y]) (rest := []) B.fix (t_X1_addParts l D kA H.size f hT.1 hT.2.1 (hT.get hx x1 x3) (hT.get hxr x4 x2) (hT.get hy y1 y3) (hT.get hyr y4 y2) x1 x2 y1 y2 (by omega) (by omega) (by omega) hzx.2.1 hzy.2.1) (cwV 2 B.2.2.2.2.1 (gV kw_132 kw_134 ks_0 kw_2 kw_135) rfl rfl rfl (by decide +kernel) ⟨Nat.le_of_ble_eq_true rfl, Nat.le_of_ble_eq_true rfl⟩) ⟨mw_blind st_S.blind, mw_recv B hI hT.1 rfl, mw_pre B hI (hSt.call hI hA)⟩ rfl rfl hl.1 rfl (lv_room (Nat.le_of_ble_eq_true rfl)) dX1_takeSum_60 ⟨Nat.le_of_ble_eq_true rfl, Nat.le_of_ble_eq_true rfl⟩) (fun f H locs hp hI2 => ?_)
          clear hI
          have hI := hI2
          clear hI2
          obtain ⟨g', n', a1, a2, hT2⟩ := hp
          have hT := hT.trans hT2
          refine mv_goto (tgt := 86) B dX1_takeSum_63 (by decide) ?_
          exact mw_vret B hQ hrt hI (hT.toRp (rp_of a1 a2 (by split <;> omega))) dX1_takeSum_86
      refine mv_if_eq (tgt := 43) B dX1_takeSum_33 (by decide) (by omega) (fun hd2 => ?_) (fun hd2 => ?_)
      · refine mv_iload B dX1_takeSum_43 (lv_at hl 1 rfl) ?_
        exact j45 _ (by rw [if_pos hd2])
      · refine mv_aload_n B dX1_takeSum_36 rfl (lv_at hl 3 rfl) ?_
        refine ww_below B hI (hT.get hx x1 x3) uin_X1 kw_27 dX1_takeSum_37 ?_
        refine mv_goto (tgt := 45) B dX1_takeSum_40 (by decide) ?_
        exact j45 _ (by rw [if_neg hd2])
    refine mv_if_lt (tgt := 27) B dX1_takeSum_20 (by decide) (by omega) (fun hd1 => ?_) (fun hd1 => ?_)
    · refine mv_iconst B dX1_takeSum_27 ?_
      exact j28 _ (by rw [if_pos (by omega)])
    · refine mv_iconst B dX1_takeSum_23 ?_
      refine mv_goto (tgt := 28) B dX1_takeSum_24 (by decide) ?_
      exact j28 _ (by rw [if_neg (by omega)])
  refine mv_icmp_eq (tgt := 12) B dX1_takeSum_5 (by decide) (by omega) (fun hd => ?_) (fun hd => ?_)
  · refine mv_iconst B dX1_takeSum_12 ?_
    exact j13 _ (by rw [if_pos hd])
  · refine mv_iconst B dX1_takeSum_8 ?_
    refine mv_goto (tgt := 13) B dX1_takeSum_9 (by decide) ?_
    exact j13 _ (by rw [if_neg hd])
end
section
abbrev rm_X1_subtractTimes : Room := { frames := 0, cells := 0, slots := 0, locals := 0 }
set_option maxHeartbeats 4000000 in
set_option maxRecDepth 100000 in
/-- subtractTimes -/
theorem t_X1_subtractTimes (l : Launch) (D : va_G) (kA : Nat → ClassId) (sz : Nat) (f0 : mw_M) {h r x rx : Nat} {g gx : Nat → Int} {n b bx q : Int} {nx pl : Nat} (hh : f0 h = some (wh r n b)) (hr : f0 r = some (mw_ar (kA 0) 104 g)) (hx : f0 x = some (wh rx (nx : Int) bx)) (hxr : f0 rx = some (mw_ar (kA 0) 104 gx)) (x1 : x ≠ h) (x2 : rx ≠ r) (hp : pl + nx ≤ 103) (hq : 0 ≤ q ∧ q ≤ 1000000) (hgx : dg gx nx) (hg : dw g pl (nx + 1)) : mw_Mv l yX1_subtractTimes (Cond.code yX1_subtractTimes cX1_subtractTimes 10 (none) :: gw) rm_X1_subtractTimes D vwCl (tyL kA) st_S [.ref h, .ref x, .int (iI (q)), .int (iI ((pl : Int)))] f0 sz (fun f => ∃ g', wSt (kA 0) f0 h r f g' n b ∧ dw g' pl nx ∧ (∀ i, i < pl ∨ pl + nx < i → g' i = g i) ∧ wv g' pl nx + g' (pl + nx) * 1000000 ^ nx = wv g pl nx + g (pl + nx) * 1000000 ^ nx - q * dv gx nx) 0 0 := by
  refine mw_ofv (cc := cX1_subtractTimes) (maxL := 10) (ret := none) (by decide) rfl (Nat.le_of_ble_eq_true rfl) ?_
  intro p e s m below meth c A ls Q hQ B hrt hnm hA hI hSt hl
  have hl : lv_has ls 10 [(0, .ref h), (1, .ref x), (2, .int (iI (q))), (3, .int (iI ((pl : Int))))] := hl
  obtain ⟨f, hI, hT⟩ : ∃ f, mw_I D vwCl A s s.heap [] f ∧ wSt (kA 0) f0 h r f g n b := ⟨f0, hI, wSt.self hh hr⟩
  have x3 := wh_ne hx hr
  have x4 := Ne.symm (wh_ne hh hxr)
  refine mv_lconst0 B dX1_subtractTimes_0 ?_
  refine mv_lstore (lv' := [(4, .long (lI (0))), (0, .ref h), (1, .ref x), (2, .int (iI (q))), (3, .int (iI ((pl : Int))))]) B dX1_subtractTimes_1 hl (by decide) rfl (fun ls hl => ?_)
  refine mv_iconst B dX1_subtractTimes_3 ?_
  refine mv_istore (lv' := [(6, .int (iI (0))), (4, .long (lI (0))), (0, .ref h), (1, .ref x), (2, .int (iI (q))), (3, .int (iI ((pl : Int))))]) B dX1_subtractTimes_4 hl (by decide) rfl (fun ls hl => ?_)
  have loop : ∀ (μ : Nat) (j : Nat) (i cy : Int) (g' : Nat → Int) (f : mw_M) (H : Heap) (locs : List Loc) (ls : Array Slot), nx - j < μ → i = (j : Int) → j ≤ nx → (0 ≤ cy ∧ cy ≤ 1000000) → dw g' pl j → (∀ i, i < pl ∨ pl + j ≤ i → g' i = g i) → wv g' pl j - cy * 1000000 ^ j = wv g pl j - q * dv gx j → mw_I D vwCl A s H locs f → wSt (kA 0) f0 h r f g' n b → lv_has ls 10 [(6, .int (iI (i))), (4, .long (lI (cy))), (0, .ref h), (1, .ref x), (2, .int (iI (q))), (3, .int (iI ((pl : Int))))] → W p l e rm_X1_subtractTimes s m ([.ref h, .ref x, .int (iI (q)), .int (iI ((pl : Int)))] : List Value).toArray below meth c H locs 0 0 Q (F0 m 6 ls []) := by
    intro μ
    induction μ with
    | zero => intro j i cy g' f H locs ls hμ; exact absurd hμ (Nat.not_lt_zero _)
    | succ μ ih =>
      intro j i cy g' f H locs ls hμ hi hj hcy hd ho hv hI hT hl
      refine mv_iload B dX1_subtractTimes_6 (lv_at hl 0 rfl) ?_
      refine mv_aload_n B dX1_subtractTimes_8 rfl (lv_at hl 3 rfl) ?_
      refine ww_size B hI (hT.get hx x1 x3) uin_X1 kw_25 dX1_subtractTimes_9 ?_
      refine mv_icmp_ge (tgt := 96) B dX1_subtractTimes_12 (by decide) (by omega) (fun hd0 => ?_) (fun hd0 => ?_)
      · obtain rfl : nx = j := by omega
        have o1 : g' (pl + nx) = g (pl + nx) := ho _ (Or.inr (Nat.le_refl _))
        refine mv_aload_n B dX1_subtractTimes_96 rfl (lv_at hl 2 rfl) ?_
        refine ww_parts B hI hT.1 uin_X1 kw_23 dX1_subtractTimes_97 ?_
        refine mv_iload_n B dX1_subtractTimes_100 rfl (lv_at hl 5 rfl) ?_
        refine mv_aload_n B dX1_subtractTimes_101 rfl (lv_at hl 3 rfl) ?_
        refine ww_size B hI (hT.get hx x1 x3) uin_X1 kw_25 dX1_subtractTimes_102 ?_
        refine mv_iadd B dX1_subtractTimes_105 ?_
        refine mv_dup2 B dX1_subtractTimes_106 rfl rfl ?_
        refine mw_iald B hI 0 hT.2.1 rfl (pl + nx) (by omega) (by omega) (by decide) dX1_subtractTimes_107 ?_
        refine mv_lload B dX1_subtractTimes_108 (lv_at hl 1 rfl) ?_
        refine mv_l2i B dX1_subtractTimes_110 ?_
        refine mv_isub B dX1_subtractTimes_111 ?_
        refine ww_iast B hI hT (pl + nx) (by omega) (by omega) dX1_subtractTimes_112 (fun f H locs hT hI => ?_)
        have w1 : wv (upI g' (pl + nx) (g' (pl + nx) - cy)) pl nx = wv g' pl nx := wv_congr fun i h1 h2 => upI_ne _ _ (by omega)
        exact mw_vret B hQ hrt hI ⟨_, hT, fun i h1 h2 => by rw [upI_ne _ _ (by omega)]; exact hd i h1 h2, fun i h1 => by rw [upI_ne _ _ (by omega)]; exact ho i (by omega), by rw [w1, upI_self, o1, Int.sub_mul]; omega⟩ dX1_subtractTimes_113
      · have p1 := hgx j (by omega)
        have o1 : g' (pl + j) = g (pl + j) := ho _ (Or.inr (Nat.le_refl _))
        have p2 := hg (pl + j) (by omega) (by omega)
        have p3 : 0 ≤ q * gx j ∧ q * gx j ≤ 999999000000 := ⟨Int.mul_nonneg hq.1 p1.1, by have := Int.mul_le_mul hq.2 (show gx j ≤ 999999 by omega) p1.1 (by decide); omega⟩
        refine mv_iload_n B dX1_subtractTimes_15 rfl (lv_at hl 4 rfl) ?_
        refine mv_i2l B dX1_subtractTimes_16 (by omega) ?_
        refine mv_aload_n B dX1_subtractTimes_17 rfl (lv_at hl 3 rfl) ?_
        refine ww_parts B hI (hT.get hx x1 x3) uin_X1 kw_23 dX1_subtractTimes_18 ?_
        refine mv_iload B dX1_subtractTimes_21 (lv_at hl 0 rfl) ?_
        refine mw_iald B hI 0 (hT.get hxr x4 x2) rfl (j) (by omega) (by omega) (by decide) dX1_subtractTimes_23 ?_
        refine mv_i2l B dX1_subtractTimes_24 (by omega) ?_
        refine mv_lmul B dX1_subtractTimes_25 ?_
        refine mv_lload B dX1_subtractTimes_26 (lv_at hl 1 rfl) ?_
        refine mv_ladd B dX1_subtractTimes_28 ?_
        refine mv_nml (fun t ht => ?_)
        refine mv_lstore (lv' := [(7, .long (lI (t))), (6, .int (iI (i))), (4, .long (lI (cy))), (0, .ref h), (1, .ref x), (2, .int (iI (q))), (3, .int (iI ((pl : Int))))]) B dX1_subtractTimes_29 hl (by decide) rfl (fun ls hl => ?_)
        refine mv_lload B dX1_subtractTimes_31 (lv_at hl 0 rfl) ?_
        refine mv_ldc2 (z := 1000000) B dX1_subtractTimes_33 kw_101 (by decide) ?_
        refine mv_ldiv B dX1_subtractTimes_36 (by omega) ?_
        refine mv_nml (fun u hu => ?_)
        refine mv_lstore (lv' := [(4, .long (lI (u))), (7, .long (lI (t))), (6, .int (iI (i))), (0, .ref h), (1, .ref x), (2, .int (iI (q))), (3, .int (iI ((pl : Int))))]) B dX1_subtractTimes_37 hl (by decide) rfl (fun ls hl => ?_)
        refine mv_aload_n B dX1_subtractTimes_39 rfl (lv_at hl 3 rfl) ?_
        refine ww_parts B hI hT.1 uin_X1 kw_23 dX1_subtractTimes_40 ?_
        refine mv_iload_n B dX1_subtractTimes_43 rfl (lv_at hl 6 rfl) ?_
        refine mv_iload B dX1_subtractTimes_44 (lv_at hl 2 rfl) ?_
        refine mv_iadd B dX1_subtractTimes_46 ?_
        refine mw_iald B hI 0 hT.2.1 rfl (pl + j) (by omega) (by omega) (by decide) dX1_subtractTimes_47 ?_
        refine mv_lload B dX1_subtractTimes_48 (lv_at hl 1 rfl) ?_
        refine mv_lload B dX1_subtractTimes_50 (lv_at hl 0 rfl) ?_
        refine mv_ldc2 (z := 1000000) B dX1_subtractTimes_52 kw_101 (by decide) ?_
        refine mv_lmul B dX1_subtractTimes_55 ?_
        refine mv_lsub B dX1_subtractTimes_56 ?_
        refine mv_l2i B dX1_subtractTimes_57 ?_
        refine mv_isub B dX1_subtractTimes_58 ?_
        refine mv_nmi (fun y hy => ?_)
        refine mv_istore (lv' := [(9, .int (iI (y))), (4, .long (lI (u))), (7, .long (lI (t))), (6, .int (iI (i))), (0, .ref h), (1, .ref x), (2, .int (iI (q))), (3, .int (iI ((pl : Int))))]) B dX1_subtractTimes_59 hl (by decide) rfl (fun ls hl => ?_)
        refine mv_iload B dX1_subtractTimes_61 (lv_at hl 0 rfl) ?_
        have t1 := Int.mul_ediv_add_emod t 1000000
        have t2 := Int.emod_nonneg t (by decide : (1000000 : Int) ≠ 0)
        have t3 := Int.emod_lt_of_pos t (by decide : (0 : Int) < 1000000)
        refine mv_if_ge (tgt := 79) B dX1_subtractTimes_63 (by decide) (by omega) (fun hd1 => ?_) (fun hd1 => ?_)
        · refine mv_aload_n B dX1_subtractTimes_79 rfl (lv_at hl 4 rfl) ?_
          refine ww_parts B hI hT.1 uin_X1 kw_23 dX1_subtractTimes_80 ?_
          refine mv_iload_n B dX1_subtractTimes_83 rfl (lv_at hl 7 rfl) ?_
          refine mv_iload B dX1_subtractTimes_84 (lv_at hl 3 rfl) ?_
          refine mv_iadd B dX1_subtractTimes_86 ?_
          refine mv_iload B dX1_subtractTimes_87 (lv_at hl 0 rfl) ?_
          refine ww_iast B hI hT (pl + j) (by omega) (by omega) dX1_subtractTimes_89 (fun f H locs hT hI => ?_)
          refine mv_iinc (k := 3) (lv' := [(6, .int (iI (i + 1))), (9, .int (iI (y))), (4, .long (lI (u))), (7, .long (lI (t))), (0, .ref h), (1, .ref x), (2, .int (iI (q))), (3, .int (iI ((pl : Int))))]) B dX1_subtractTimes_90 hl rfl (by decide) rfl (fun ls hl => ?_)
          refine mv_goto (tgt := 6) B dX1_subtractTimes_93 (by decide) ?_
          refine ih (j + 1) _ _ _ f H locs ls (by omega) (by omega) (by omega) (by omega) (fun i h1 h2 => ?_) (fun i h1 => by rw [upI_ne _ _ (by omega)]; exact ho i (by omega)) ?_ hI hT (lv_sub hl [0, 2, 4, 5, 6, 7] rfl)
          · by_cases qq : i = pl + j
            · rw [qq, upI_self]; omega
            · rw [upI_ne _ _ qq]; exact hd i h1 (by omega)
          · rw [wv_up_s, wv_s, dv_s, bp_s]
            exact st_step hv (by omega)
        · refine mv_iload B dX1_subtractTimes_66 (lv_at hl 0 rfl) ?_
          refine mv_ldc (z := 1000000) B dX1_subtractTimes_68 kw_140 (by decide) ?_
          refine mv_iadd B dX1_subtractTimes_70 ?_
          refine mv_istore (lv' := [(9, .int (iI ((y) + (1000000)))), (4, .long (lI (u))), (7, .long (lI (t))), (6, .int (iI (i))), (0, .ref h), (1, .ref x), (2, .int (iI (q))), (3, .int (iI ((pl : Int))))]) B dX1_subtractTimes_71 hl (by decide) rfl (fun ls hl => ?_)
          refine mv_lload B dX1_subtractTimes_73 (lv_at hl 1 rfl) ?_
          refine mv_lconst1 B dX1_subtractTimes_75 ?_
          refine mv_ladd B dX1_subtractTimes_76 ?_
          refine mv_lstore (lv' := [(4, .long (lI ((u) + (1)))), (9, .int (iI ((y) + (1000000)))), (7, .long (lI (t))), (6, .int (iI (i))), (0, .ref h), (1, .ref x), (2, .int (iI (q))), (3, .int (iI ((pl : Int))))]) B dX1_subtractTimes_77 hl (by decide) rfl (fun ls hl => ?_)
          refine mv_aload_n B dX1_subtractTimes_79 rfl (lv_at hl 4 rfl) ?_
          refine ww_parts B hI hT.1 uin_X1 kw_23 dX1_subtractTimes_80 ?_
          refine mv_iload_n B dX1_subtractTimes_83 rfl (lv_at hl 7 rfl) ?_
          refine mv_iload B dX1_subtractTimes_84 (lv_at hl 3 rfl) ?_
          refine mv_iadd B dX1_subtractTimes_86 ?_
          refine mv_iload B dX1_subtractTimes_87 (lv_at hl 1 rfl) ?_
          refine ww_iast B hI hT (pl + j) (by omega) (by omega) dX1_subtractTimes_89 (fun f H locs hT hI => ?_)
          refine mv_iinc (k := 3) (lv' := [(6, .int (iI (i + 1))), (4, .long (lI ((u) + (1)))), (9, .int (iI ((y) + (1000000)))), (7, .long (lI (t))), (0, .ref h), (1, .ref x), (2, .int (iI (q))), (3, .int (iI ((pl : Int))))]) B dX1_subtractTimes_90 hl rfl (by decide) rfl (fun ls hl => ?_)
          refine mv_goto (tgt := 6) B dX1_subtractTimes_93 (by decide) ?_
          refine ih (j + 1) _ _ _ f H locs ls (by omega) (by omega) (by omega) (by omega) (fun i h1 h2 => ?_) (fun i h1 => by rw [upI_ne _ _ (by omega)]; exact ho i (by omega)) ?_ hI hT (lv_sub hl [0, 1, 4, 5, 6, 7] rfl)
          · by_cases qq : i = pl + j
            · rw [qq, upI_self]; omega
            · rw [upI_ne _ _ qq]; exact hd i h1 (by omega)
          · rw [wv_up_s, wv_s, dv_s, bp_s]
            exact st_step hv (by omega)
  exact loop (nx + 1) 0 _ _ g f s.heap [] ls (by omega) rfl (by omega) (by omega) (fun i h1 h2 => absurd h2 (by omega)) (fun i _ => rfl) (by simp [wv_0, dv_0]) hI hT (lv_sub hl [0, 1, 2, 3, 4, 5] rfl)
abbrev rm_X1_addBack : Room := { frames := 0, cells := 0, slots := 0, locals := 0 }
set_option maxHeartbeats 4000000 in
set_option maxRecDepth 100000 in
/-- addBack -/
theorem t_X1_addBack (l : Launch) (D : va_G) (kA : Nat → ClassId) (sz : Nat) (f0 : mw_M) {h r x rx : Nat} {g gx : Nat → Int} {n b bx : Int} {nx pl : Nat} (hh : f0 h = some (wh r n b)) (hr : f0 r = some (mw_ar (kA 0) 104 g)) (hx : f0 x = some (wh rx (nx : Int) bx)) (hxr : f0 rx = some (mw_ar (kA 0) 104 gx)) (x1 : x ≠ h) (x2 : rx ≠ r) (hp : pl + nx ≤ 103) (hgx : dg gx nx) (hg : dw g pl nx) : mw_Mv l yX1_addBack (Cond.code yX1_addBack cX1_addBack 6 (none) :: gw) rm_X1_addBack D vwCl (tyL kA) st_S [.ref h, .ref x, .int (iI ((pl : Int)))] f0 sz (fun f => ∃ g', wSt (kA 0) f0 h r f g' n b ∧ dw g' pl nx ∧ (∀ i, i < pl ∨ pl + nx < i → g' i = g i) ∧ wv g' pl nx + g' (pl + nx) * 1000000 ^ nx = wv g pl nx + g (pl + nx) * 1000000 ^ nx + dv gx nx) 0 0 := by
  refine mw_ofv (cc := cX1_addBack) (maxL := 6) (ret := none) (by decide) rfl (Nat.le_of_ble_eq_true rfl) ?_
  intro p e s m below meth c A ls Q hQ B hrt hnm hA hI hSt hl
  have hl : lv_has ls 6 [(0, .ref h), (1, .ref x), (2, .int (iI ((pl : Int))))] := hl
  obtain ⟨f, hI, hT⟩ : ∃ f, mw_I D vwCl A s s.heap [] f ∧ wSt (kA 0) f0 h r f g n b := ⟨f0, hI, wSt.self hh hr⟩
  have x3 := wh_ne hx hr
  have x4 := Ne.symm (wh_ne hh hxr)
  refine mv_iconst B dX1_addBack_0 ?_
  refine mv_istore_n (lv' := [(3, .int (iI (0))), (0, .ref h), (1, .ref x), (2, .int (iI ((pl : Int))))]) B dX1_addBack_1 rfl hl (by decide) rfl (fun ls hl => ?_)
  refine mv_iconst B dX1_addBack_2 ?_
  refine mv_istore (lv' := [(4, .int (iI (0))), (3, .int (iI (0))), (0, .ref h), (1, .ref x), (2, .int (iI ((pl : Int))))]) B dX1_addBack_3 hl (by decide) rfl (fun ls hl => ?_)
  have loop : ∀ (μ : Nat) (j : Nat) (i cy : Int) (g' : Nat → Int) (f : mw_M) (H : Heap) (locs : List Loc) (ls : Array Slot), nx - j < μ → i = (j : Int) → j ≤ nx → (cy = 0 ∨ cy = 1) → dw g' pl j → (∀ i, i < pl ∨ pl + j ≤ i → g' i = g i) → wv g' pl j + cy * 1000000 ^ j = wv g pl j + dv gx j → mw_I D vwCl A s H locs f → wSt (kA 0) f0 h r f g' n b → lv_has ls 6 [(4, .int (iI (i))), (3, .int (iI (cy))), (0, .ref h), (1, .ref x), (2, .int (iI ((pl : Int))))] → W p l e rm_X1_addBack s m ([.ref h, .ref x, .int (iI ((pl : Int)))] : List Value).toArray below meth c H locs 0 0 Q (F0 m 5 ls []) := by
    intro μ
    induction μ with
    | zero => intro j i cy g' f H locs ls hμ; exact absurd hμ (Nat.not_lt_zero _)
    | succ μ ih =>
      intro j i cy g' f H locs ls hμ hi hj hcy hd ho hv hI hT hl
      refine mv_iload B dX1_addBack_5 (lv_at hl 0 rfl) ?_
      refine mv_aload_n B dX1_addBack_7 rfl (lv_at hl 3 rfl) ?_
      refine ww_size B hI (hT.get hx x1 x3) uin_X1 kw_25 dX1_addBack_8 ?_
      refine mv_icmp_ge (tgt := 70) B dX1_addBack_11 (by decide) (by omega) (fun hd0 => ?_) (fun hd0 => ?_)
      · obtain rfl : nx = j := by omega
        have o1 : g' (pl + nx) = g (pl + nx) := ho _ (Or.inr (Nat.le_refl _))
        refine mv_aload_n B dX1_addBack_70 rfl (lv_at hl 2 rfl) ?_
        refine ww_parts B hI hT.1 uin_X1 kw_23 dX1_addBack_71 ?_
        refine mv_iload_n B dX1_addBack_74 rfl (lv_at hl 4 rfl) ?_
        refine mv_aload_n B dX1_addBack_75 rfl (lv_at hl 3 rfl) ?_
        refine ww_size B hI (hT.get hx x1 x3) uin_X1 kw_25 dX1_addBack_76 ?_
        refine mv_iadd B dX1_addBack_79 ?_
        refine mv_dup2 B dX1_addBack_80 rfl rfl ?_
        refine mw_iald B hI 0 hT.2.1 rfl (pl + nx) (by omega) (by omega) (by decide) dX1_addBack_81 ?_
        refine mv_iload_n B dX1_addBack_82 rfl (lv_at hl 1 rfl) ?_
        refine mv_iadd B dX1_addBack_83 ?_
        refine ww_iast B hI hT (pl + nx) (by omega) (by omega) dX1_addBack_84 (fun f H locs hT hI => ?_)
        have w1 : wv (upI g' (pl + nx) (g' (pl + nx) + cy)) pl nx = wv g' pl nx := wv_congr fun i h1 h2 => upI_ne _ _ (by omega)
        exact mw_vret B hQ hrt hI ⟨_, hT, fun i h1 h2 => by rw [upI_ne _ _ (by omega)]; exact hd i h1 h2, fun i h1 => by rw [upI_ne _ _ (by omega)]; exact ho i (by omega), by rw [w1, upI_self, o1, Int.add_mul]; omega⟩ dX1_addBack_85
      · have p1 := hgx j (by omega)
        have o1 : g' (pl + j) = g (pl + j) := ho _ (Or.inr (Nat.le_refl _))
        have p2 := hg (pl + j) (by omega) (by omega)
        refine mv_aload_n B dX1_addBack_14 rfl (lv_at hl 2 rfl) ?_
        refine ww_parts B hI hT.1 uin_X1 kw_23 dX1_addBack_15 ?_
        refine mv_iload_n B dX1_addBack_18 rfl (lv_at hl 4 rfl) ?_
        refine mv_iload B dX1_addBack_19 (lv_at hl 0 rfl) ?_
        refine mv_iadd B dX1_addBack_21 ?_
        refine mw_iald B hI 0 hT.2.1 rfl (pl + j) (by omega) (by omega) (by decide) dX1_addBack_22 ?_
        refine mv_aload_n B dX1_addBack_23 rfl (lv_at hl 3 rfl) ?_
        refine ww_parts B hI (hT.get hx x1 x3) uin_X1 kw_23 dX1_addBack_24 ?_
        refine mv_iload B dX1_addBack_27 (lv_at hl 0 rfl) ?_
        refine mw_iald B hI 0 (hT.get hxr x4 x2) rfl (j) (by omega) (by omega) (by decide) dX1_addBack_29 ?_
        refine mv_iadd B dX1_addBack_30 ?_
        refine mv_iload_n B dX1_addBack_31 rfl (lv_at hl 1 rfl) ?_
        refine mv_iadd B dX1_addBack_32 ?_
        refine mv_nmi (fun t ht => ?_)
        refine mv_istore (lv' := [(5, .int (iI (t))), (4, .int (iI (i))), (3, .int (iI (cy))), (0, .ref h), (1, .ref x), (2, .int (iI ((pl : Int))))]) B dX1_addBack_33 hl (by decide) rfl (fun ls hl => ?_)
        refine mv_iload B dX1_addBack_35 (lv_at hl 0 rfl) ?_
        refine mv_ldc (z := 1000000) B dX1_addBack_37 kw_140 (by decide) ?_
        refine mv_icmp_lt (tgt := 46) B dX1_addBack_39 (by decide) (by omega) (fun hd1 => ?_) (fun hd1 => ?_)
        · refine mv_iconst B dX1_addBack_46 ?_
          refine mv_istore_n (lv' := [(3, .int (iI (0))), (5, .int (iI (t))), (4, .int (iI (i))), (0, .ref h), (1, .ref x), (2, .int (iI ((pl : Int))))]) B dX1_addBack_47 rfl hl (by decide) rfl (fun ls hl => ?_)
          refine mv_aload_n B dX1_addBack_48 rfl (lv_at hl 3 rfl) ?_
          refine ww_parts B hI hT.1 uin_X1 kw_23 dX1_addBack_49 ?_
          refine mv_iload_n B dX1_addBack_52 rfl (lv_at hl 5 rfl) ?_
          refine mv_iload B dX1_addBack_53 (lv_at hl 2 rfl) ?_
          refine mv_iadd B dX1_addBack_55 ?_
          refine mv_iload B dX1_addBack_56 (lv_at hl 1 rfl) ?_
          refine mv_iload_n B dX1_addBack_58 rfl (lv_at hl 0 rfl) ?_
          refine mv_ldc (z := 1000000) B dX1_addBack_59 kw_140 (by decide) ?_
          refine mv_imul B dX1_addBack_61 ?_
          refine mv_isub B dX1_addBack_62 ?_
          refine ww_iast B hI hT (pl + j) (by omega) (by omega) dX1_addBack_63 (fun f H locs hT hI => ?_)
          refine mv_iinc (k := 2) (lv' := [(4, .int (iI (i + 1))), (3, .int (iI (0))), (5, .int (iI (t))), (0, .ref h), (1, .ref x), (2, .int (iI ((pl : Int))))]) B dX1_addBack_64 hl rfl (by decide) rfl (fun ls hl => ?_)
          refine mv_goto (tgt := 5) B dX1_addBack_67 (by decide) ?_
          refine ih (j + 1) _ _ _ f H locs ls (by omega) (by omega) (by omega) (by omega) (fun i h1 h2 => ?_) (fun i h1 => by rw [upI_ne _ _ (by omega)]; exact ho i (by omega)) ?_ hI hT (lv_sub hl [0, 1, 3, 4, 5] rfl)
          · by_cases qq : i = pl + j
            · rw [qq, upI_self]; omega
            · rw [upI_ne _ _ qq]; exact hd i h1 (by omega)
          · rw [wv_up_s, wv_s, dv_s, bp_s]
            exact ab_step hv (by omega)
        · refine mv_iconst B dX1_addBack_42 ?_
          refine mv_goto (tgt := 47) B dX1_addBack_43 (by decide) ?_
          refine mv_istore_n (lv' := [(3, .int (iI (1))), (5, .int (iI (t))), (4, .int (iI (i))), (0, .ref h), (1, .ref x), (2, .int (iI ((pl : Int))))]) B dX1_addBack_47 rfl hl (by decide) rfl (fun ls hl => ?_)
          refine mv_aload_n B dX1_addBack_48 rfl (lv_at hl 3 rfl) ?_
          refine ww_parts B hI hT.1 uin_X1 kw_23 dX1_addBack_49 ?_
          refine mv_iload_n B dX1_addBack_52 rfl (lv_at hl 5 rfl) ?_
          refine mv_iload B dX1_addBack_53 (lv_at hl 2 rfl) ?_
          refine mv_iadd B dX1_addBack_55 ?_
          refine mv_iload B dX1_addBack_56 (lv_at hl 1 rfl) ?_
          refine mv_iload_n B dX1_addBack_58 rfl (lv_at hl 0 rfl) ?_
          refine mv_ldc (z := 1000000) B dX1_addBack_59 kw_140 (by decide) ?_
          refine mv_imul B dX1_addBack_61 ?_
          refine mv_isub B dX1_addBack_62 ?_
          refine ww_iast B hI hT (pl + j) (by omega) (by omega) dX1_addBack_63 (fun f H locs hT hI => ?_)
          refine mv_iinc (k := 2) (lv' := [(4, .int (iI (i + 1))), (3, .int (iI (1))), (5, .int (iI (t))), (0, .ref h), (1, .ref x), (2, .int (iI ((pl : Int))))]) B dX1_addBack_64 hl rfl (by decide) rfl (fun ls hl => ?_)
          refine mv_goto (tgt := 5) B dX1_addBack_67 (by decide) ?_
          refine ih (j + 1) _ _ _ f H locs ls (by omega) (by omega) (by omega) (by omega) (fun i h1 h2 => ?_) (fun i h1 => by rw [upI_ne _ _ (by omega)]; exact ho i (by omega)) ?_ hI hT (lv_sub hl [0, 1, 3, 4, 5] rfl)
          · by_cases qq : i = pl + j
            · rw [qq, upI_self]; omega
            · rw [upI_ne _ _ qq]; exact hd i h1 (by omega)
          · rw [wv_up_s, wv_s, dv_s, bp_s]
            exact ab_step hv (by omega)
  exact loop (nx + 1) 0 _ _ g f s.heap [] ls (by omega) rfl (by omega) (by omega) (fun i h1 h2 => absurd h2 (by omega)) (fun i _ => rfl) (by simp [wv_0, dv_0]) hI hT (lv_sub hl [0, 1, 2, 3, 4] rfl)
abbrev rm_X1_leadOfTwo : Room := { frames := 1, cells := 0, slots := 0, locals := 21 }
set_option maxHeartbeats 4000000 in
set_option maxRecDepth 100000 in
/-- leadOfTwo -/
theorem t_X1_leadOfTwo (l : Launch) (D : va_G) (kA : Nat → ClassId) (sz : Nat) (f0 : mw_M) {h r : Nat} {g : Nat → Int} {n : Nat} {b : Int} (hh : f0 h = some (wh r (n : Int) b)) (hr : f0 r = some (mw_ar (kA 0) 104 g)) (hc1 : cn g n) : mw_Ml l yX1_leadOfTwo (Cond.code yX1_leadOfTwo cX1_leadOfTwo 1 ((some .long)) :: gw) rm_X1_leadOfTwo D vwCl (tyL kA) st_S [.ref h] f0 sz (fun v f => v = lI (ld2 g n) ∧ f = f0) 0 0 := by
  refine mw_ofl (cc := cX1_leadOfTwo) (maxL := 1) (ret := (some .long)) (by decide) rfl (Nat.le_of_ble_eq_true rfl) ?_
  intro p e s m below meth c A ls Q hQ B hrt hnm hA hI hSt hl
  have hl : lv_has ls 1 [(0, .ref h)] := hl
  obtain ⟨f, hI, hf⟩ : ∃ f, mw_I D vwCl A s s.heap [] f ∧ f = f0 := ⟨f0, hI, rfl⟩
  have hh1 : f h = some (wh r (n : Int) b) := by rw [hf]; exact hh
  have hr1 : f r = some (mw_ar (kA 0) 104 g) := by rw [hf]; exact hr
  have hn1 := hc1.1
  have z1 : (if (n : Int) - 1 < 0 then 0 else pz g n ((n : Int) - 1).toNat) = if n = 0 then 0 else g (n - 1) := by
      by_cases q : n = 0
      · rw [if_pos q, if_pos (by omega)]
      · rw [if_neg q, if_neg (by omega), show ((n : Int) - 1).toNat = n - 1 by omega, pz_lt (by omega)]
  have z2 : (if (n : Int) - 2 < 0 then 0 else pz g n ((n : Int) - 2).toNat) = if 2 ≤ n then g (n - 2) else 0 := by
      by_cases q : 2 ≤ n
      · rw [if_pos q, if_neg (by omega), show ((n : Int) - 2).toNat = n - 2 by omega, pz_lt (by omega)]
      · rw [if_neg q, if_pos (by omega)]
  have b1 : 0 ≤ (if n = 0 then 0 else g (n - 1)) ∧ (if n = 0 then 0 else g (n - 1)) < 1000000 := by
      by_cases q : n = 0
      · rw [if_pos q]; decide
      · rw [if_neg q]; exact hc1.2.1 _ (by omega)
  have b2 : 0 ≤ (if 2 ≤ n then g (n - 2) else 0) ∧ (if 2 ≤ n then g (n - 2) else 0) < 1000000 := by
      by_cases q : 2 ≤ n
      · rw [if_pos q]; exact hc1.2.1 _ (by omega)
      · rw [if_neg q]; decide
  refine mv_aload_n B dX1_leadOfTwo_0 rfl (lv_at hl 0 rfl) ?_
  refine mv_aload_n B dX1_leadOfTwo_1 rfl (lv_at hl 0 rfl) ?_
  refine ww_size B hI hh1 uin_X1 kw_25 dX1_leadOfTwo_2 ?_
  refine mv_iconst B dX1_leadOfTwo_5 ?_
  refine mv_isub B dX1_leadOfTwo_6 ?_
  refine mw_calli hI hA (va_runV (As := [.int (iI (((n : Int)) - (1)))]) (rest := []) B.fix (t_X1_partOrZero l D kA s.heap.size f hh1 hr1 hn1 (by omega)) (cwV 1 B.2.2.2.2.1 (gV kw_136 kw_137 kw_138 kw_2 kw_139) rfl rfl rfl (by decide +kernel) ⟨Nat.le_of_ble_eq_true rfl, Nat.le_of_ble_eq_true rfl⟩) ⟨mw_blind st_S.blind, mw_recv B hI hh1 rfl, mw_pre B hI (hSt.call hI hA)⟩ rfl rfl hl.1 rfl (lv_room (Nat.le_of_ble_eq_true rfl)) dX1_leadOfTwo_7 ⟨Nat.le_of_ble_eq_true rfl, Nat.le_of_ble_eq_true rfl⟩) (fun r f H locs hp hI2 => ?_)
  clear hI
  have hI := hI2
  clear hI2
  obtain ⟨rfl, rfl⟩ := hp
  rw [z1]
  refine mv_i2l B dX1_leadOfTwo_10 (by omega) ?_
  refine mv_ldc2 (z := 1000000) B dX1_leadOfTwo_11 kw_101 (by decide) ?_
  refine mv_lmul B dX1_leadOfTwo_14 ?_
  refine mv_aload_n B dX1_leadOfTwo_15 rfl (lv_at hl 0 rfl) ?_
  refine mv_aload_n B dX1_leadOfTwo_16 rfl (lv_at hl 0 rfl) ?_
  refine ww_size B hI hh1 uin_X1 kw_25 dX1_leadOfTwo_17 ?_
  refine mv_iconst B dX1_leadOfTwo_20 ?_
  refine mv_isub B dX1_leadOfTwo_21 ?_
  refine mw_calli hI hA (va_runV (As := [.int (iI (((n : Int)) - (2)))]) (rest := [.long (lI ((if n = 0 then 0 else g (n - 1)) * (1000000)))]) B.fix (t_X1_partOrZero l D kA H.size f hh1 hr1 hn1 (by omega)) (cwV 1 B.2.2.2.2.1 (gV kw_136 kw_137 kw_138 kw_2 kw_139) rfl rfl rfl (by decide +kernel) ⟨Nat.le_of_ble_eq_true rfl, Nat.le_of_ble_eq_true rfl⟩) ⟨mw_blind st_S.blind, mw_recv B hI hh1 rfl, mw_pre B hI (hSt.call hI hA)⟩ rfl rfl hl.1 rfl (lv_room (Nat.le_of_ble_eq_true rfl)) dX1_leadOfTwo_22 ⟨Nat.le_of_ble_eq_true rfl, Nat.le_of_ble_eq_true rfl⟩) (fun r f H locs hp hI2 => ?_)
  clear hI
  have hI := hI2
  clear hI2
  obtain ⟨rfl, rfl⟩ := hp
  rw [z2]
  refine mv_i2l B dX1_leadOfTwo_25 (by omega) ?_
  refine mv_ladd B dX1_leadOfTwo_26 ?_
  exact mw_lret B hQ hrt hI ⟨by unfold ld2; by_cases q : n = 0 <;> simp [q], hf⟩ dX1_leadOfTwo_27
abbrev rm_X1_takeAway : Room := { frames := 1, cells := 0, slots := 0, locals := 29 }
set_option maxHeartbeats 4000000 in
set_option maxRecDepth 100000 in
/-- takeAway -/
theorem t_X1_takeAway (l : Launch) (D : va_G) (kA : Nat → ClassId) (sz : Nat) (f0 : mw_M) {h r x rx : Nat} {g gx : Nat → Int} {n b bx : Int} {nx pl : Nat} (hh : f0 h = some (wh r n b)) (hr : f0 r = some (mw_ar (kA 0) 104 g)) (hx : f0 x = some (wh rx (nx : Int) bx)) (hxr : f0 rx = some (mw_ar (kA 0) 104 gx)) (x1 : x ≠ h) (x2 : rx ≠ r) (hp : pl + nx ≤ 103) (hn : 1 ≤ nx) (hgx : cn gx nx) (hg : dg g (pl + nx + 1)) (hU : wv g pl (nx + 1) < dv gx nx * 1000000) : mw_Mi l yX1_takeAway (Cond.code yX1_takeAway cX1_takeAway 11 ((some .int)) :: gw) rm_X1_takeAway D vwCl (tyL kA) st_S [.ref h, .ref x, .long (lI (ld2 gx nx)), .int (iI ((pl : Int)))] f0 sz (fun v f => v = iI (wv g pl (nx + 1) / dv gx nx) ∧ ∃ g', wSt (kA 0) f0 h r f g' n b ∧ dg g' (pl + nx + 1) ∧ (∀ i, i < pl ∨ pl + nx < i → g' i = g i) ∧ g' (pl + nx) = 0 ∧ wv g' pl nx = wv g pl (nx + 1) % dv gx nx) 0 0 := by
  refine mw_ofi (cc := cX1_takeAway) (maxL := 11) (ret := (some .int)) (by decide) rfl (Nat.le_of_ble_eq_true rfl) ?_
  intro p e s m below meth c A ls Q hQ B hrt hnm hA hI hSt hl
  have hl : lv_has ls 11 [(0, .ref h), (1, .ref x), (2, .long (lI (ld2 gx nx))), (4, .int (iI ((pl : Int))))] := hl
  obtain ⟨f, hI, hT⟩ : ∃ f, mw_I D vwCl A s s.heap [] f ∧ wSt (kA 0) f0 h r f g n b := ⟨f0, hI, wSt.self hh hr⟩
  have x3 := wh_ne hx hr
  have x4 := Ne.symm (wh_ne hh hxr)
  have i1 := ld2_in hgx
  have d1 := hg (pl + nx) (by omega)
  have d2 := hg (pl + nx - 1) (by omega)
  have hV : 0 < dv gx nx := by have := hgx.pos (by omega); have := bp_pos (nx - 1); omega
  have hVP := dv_lt hgx.2.1
  have hdw : dw g pl (nx + 1) := fun i h1 h2 => hg i (by omega)
  have hU0 := wv_nn hdw
  refine mv_iload B dX1_takeAway_0 (lv_at hl 3 rfl) ?_
  refine mv_aload_n B dX1_takeAway_2 rfl (lv_at hl 1 rfl) ?_
  refine ww_size B hI (hT.get hx x1 x3) uin_X1 kw_25 dX1_takeAway_3 ?_
  refine mv_iadd B dX1_takeAway_6 ?_
  refine mv_istore (lv' := [(5, .int (iI (((pl : Int)) + ((nx : Int))))), (0, .ref h), (1, .ref x), (2, .long (lI (ld2 gx nx))), (4, .int (iI ((pl : Int))))]) B dX1_takeAway_7 hl (by decide) rfl (fun ls hl => ?_)
  refine mv_iload B dX1_takeAway_9 (lv_at hl 0 rfl) ?_
  refine mv_iconst B dX1_takeAway_11 ?_
  have j29 : ∀ (un : Int), un = (if 2 ≤ pl + nx then g (pl + nx - 2) else 0) → W p l e rm_X1_takeAway s m ([.ref h, .ref x, .long (lI (ld2 gx nx)), .int (iI ((pl : Int)))] : List Value).toArray below meth c s.heap [] 0 0 Q (F0 m 29 ls [.long (lI (un))]) := by
    intro un hun
    refine mv_lstore (lv' := [(6, .long (lI (un))), (5, .int (iI (((pl : Int)) + ((nx : Int))))), (0, .ref h), (1, .ref x), (2, .long (lI (ld2 gx nx))), (4, .int (iI ((pl : Int))))]) B dX1_takeAway_29 hl (by decide) rfl (fun ls hl => ?_)
    refine mv_aload_n B dX1_takeAway_31 rfl (lv_at hl 2 rfl) ?_
    refine ww_parts B hI hT.1 uin_X1 kw_23 dX1_takeAway_32 ?_
    refine mv_iload B dX1_takeAway_35 (lv_at hl 1 rfl) ?_
    refine mw_iald B hI 0 hT.2.1 rfl (pl + nx) (by omega) (by omega) (by decide) dX1_takeAway_37 ?_
    refine mv_i2l B dX1_takeAway_38 (by omega) ?_
    refine mv_ldc2 (z := 1000000) B dX1_takeAway_39 kw_101 (by decide) ?_
    refine mv_lmul B dX1_takeAway_42 ?_
    refine mv_aload_n B dX1_takeAway_43 rfl (lv_at hl 2 rfl) ?_
    refine ww_parts B hI hT.1 uin_X1 kw_23 dX1_takeAway_44 ?_
    refine mv_iload B dX1_takeAway_47 (lv_at hl 1 rfl) ?_
    refine mv_iconst B dX1_takeAway_49 ?_
    refine mv_isub B dX1_takeAway_50 ?_
    refine mw_iald B hI 0 hT.2.1 rfl (pl + nx - 1) (by omega) (by omega) (by decide) dX1_takeAway_51 ?_
    refine mv_i2l B dX1_takeAway_52 (by omega) ?_
    refine mv_ladd B dX1_takeAway_53 ?_
    refine mv_ldc2 (z := 1000000) B dX1_takeAway_54 kw_101 (by decide) ?_
    refine mv_lmul B dX1_takeAway_57 ?_
    refine mv_lload B dX1_takeAway_58 (lv_at hl 0 rfl) ?_
    refine mv_ladd B dX1_takeAway_60 ?_
    refine mv_nml (fun hd_ hhd_ => ?_)
    have k1 := qh (head := hd_) hn hgx hg hU (by rw [hhd_, hun])
    have k2 : 0 ≤ hd_ / ld2 gx nx := Int.ediv_nonneg k1.1 i1.1
    refine mv_lstore (lv' := [(8, .long (lI (hd_))), (6, .long (lI (un))), (5, .int (iI (((pl : Int)) + ((nx : Int))))), (0, .ref h), (1, .ref x), (2, .long (lI (ld2 gx nx))), (4, .int (iI ((pl : Int))))]) B dX1_takeAway_61 hl (by decide) rfl (fun ls hl => ?_)
    refine mv_lload_n B dX1_takeAway_63 rfl (lv_at hl 5 rfl) ?_
    refine mv_lconst0 B dX1_takeAway_64 ?_
    have j78 : ∀ (q : Int), q = hd_ / ld2 gx nx → W p l e rm_X1_takeAway s m ([.ref h, .ref x, .long (lI (ld2 gx nx)), .int (iI ((pl : Int)))] : List Value).toArray below meth c s.heap [] 0 0 Q (F0 m 78 ls [.int (iI (q))]) := by
      intro q hq
      refine mv_istore (lv' := [(10, .int (iI (q))), (8, .long (lI (hd_))), (6, .long (lI (un))), (5, .int (iI (((pl : Int)) + ((nx : Int))))), (0, .ref h), (1, .ref x), (2, .long (lI (ld2 gx nx))), (4, .int (iI ((pl : Int))))]) B dX1_takeAway_78 hl (by decide) rfl (fun ls hl => ?_)
      refine mv_iload B dX1_takeAway_80 (lv_at hl 0 rfl) ?_
      refine mv_if_ne (tgt := 87) B dX1_takeAway_82 (by decide) (by omega) (fun hc2 => ?_) (fun hc2 => ?_)
      · refine mv_aload_n B dX1_takeAway_87 rfl (lv_at hl 4 rfl) ?_
        refine mv_aload_n B dX1_takeAway_88 rfl (lv_at hl 5 rfl) ?_
        refine mv_iload B dX1_takeAway_89 (lv_at hl 0 rfl) ?_
        refine mv_iload B dX1_takeAway_91 (lv_at hl 7 rfl) ?_
        refine mw_callv hI hA (va_runV (As := [.ref x, .int (iI (q)), .int (iI ((pl : Int)))]) (rest := []) B.fix (t_X1_subtractTimes l D kA s.heap.size f hT.1 hT.2.1 (hT.get hx x1 x3) (hT.get hxr x4 x2) x1 x2 hp (by omega) hgx.2.1 hdw) (cwV 3 B.2.2.2.2.1 (gV kw_208 kw_210 ks_7 kw_2 kw_211) rfl rfl rfl (by decide +kernel) ⟨Nat.le_of_ble_eq_true rfl, Nat.le_of_ble_eq_true rfl⟩) ⟨mw_blind st_S.blind, mw_recv B hI hT.1 rfl, mw_pre B hI (hSt.call hI hA)⟩ rfl rfl hl.1 rfl (lv_room (Nat.le_of_ble_eq_true rfl)) dX1_takeAway_93 ⟨Nat.le_of_ble_eq_true rfl, Nat.le_of_ble_eq_true rfl⟩) (fun f H locs hp_ hI2 => ?_)
        clear hI
        have hI := hI2
        clear hI2
        obtain ⟨g', hT2, s1, s2, s3⟩ := hp_
        have hT := hT.trans hT2
        have s4 : wv g' pl nx + g' (pl + nx) * 1000000 ^ nx = wv g pl (nx + 1) - q * dv gx nx := by rw [s3, wv_s]
        have fit := tk_fit (bp_pos nx) hV hVP (wv_nn s1) (wv_lt s1) s4 (by omega) (by omega)
        refine mv_aload_n B dX1_takeAway_96 rfl (lv_at hl 4 rfl) ?_
        refine ww_parts B hI hT.1 uin_X1 kw_23 dX1_takeAway_97 ?_
        refine mv_iload B dX1_takeAway_100 (lv_at hl 3 rfl) ?_
        refine mw_iald B hI 0 hT.2.1 rfl (pl + nx) (by omega) (by omega) (by decide) dX1_takeAway_102 ?_
        refine mv_if_ge (tgt := 116) B dX1_takeAway_103 (by decide) (by omega) (fun hc3 => ?_) (fun hc3 => ?_)
        · obtain ⟨f1, f2, f3⟩ : g' (pl + nx) = 0 ∧ q = wv g pl (nx + 1) / dv gx nx ∧ wv g' pl nx = wv g pl (nx + 1) % dv gx nx := by omega
          refine mv_iload B dX1_takeAway_116 (lv_at hl 0 rfl) ?_
          have dg1 : dg g' (pl + nx + 1) := fun i hi => by
            rcases Nat.lt_or_ge i pl with a1 | a1
            · rw [s2 i (Or.inl a1)]; exact hg i hi
            · rcases Nat.lt_or_ge i (pl + nx) with a2 | a2
              · exact s1 i a1 a2
              · rw [show i = pl + nx by omega, f1]; decide
          exact mw_iret B hQ hrt hI ⟨by rw [f2], g', hT, dg1, s2, f1, f3⟩ dX1_takeAway_118
        · obtain ⟨f1, f2, f3⟩ : g' (pl + nx) = -1 ∧ q = wv g pl (nx + 1) / dv gx nx + 1 ∧ wv g' pl nx - 1000000 ^ nx + dv gx nx = wv g pl (nx + 1) % dv gx nx := by omega
          refine mv_aload_n B dX1_takeAway_106 rfl (lv_at hl 4 rfl) ?_
          refine mv_aload_n B dX1_takeAway_107 rfl (lv_at hl 5 rfl) ?_
          refine mv_iload B dX1_takeAway_108 (lv_at hl 7 rfl) ?_
          refine mw_callv hI hA (va_runV (As := [.ref x, .int (iI ((pl : Int)))]) (rest := []) B.fix (t_X1_addBack l D kA H.size f hT.1 hT.2.1 (hT.get hx x1 x3) (hT.get hxr x4 x2) x1 x2 hp hgx.2.1 s1) (cwV 2 B.2.2.2.2.1 (gV kw_212 kw_214 ks_8 kw_2 kw_215) rfl rfl rfl (by decide +kernel) ⟨Nat.le_of_ble_eq_true rfl, Nat.le_of_ble_eq_true rfl⟩) ⟨mw_blind st_S.blind, mw_recv B hI hT.1 rfl, mw_pre B hI (hSt.call hI hA)⟩ rfl rfl hl.1 rfl (lv_room (Nat.le_of_ble_eq_true rfl)) dX1_takeAway_110 ⟨Nat.le_of_ble_eq_true rfl, Nat.le_of_ble_eq_true rfl⟩) (fun f H locs hp_ hI2 => ?_)
          clear hI
          have hI := hI2
          clear hI2
          obtain ⟨g2, hT3, u1, u2, u3⟩ := hp_
          have hT := hT.trans hT3
          rw [f1] at u3
          have m1 := Int.emod_nonneg (wv g pl (nx + 1)) (show dv gx nx ≠ 0 by omega)
          have m2 := Int.emod_lt_of_pos (wv g pl (nx + 1)) hV
          have m3 := wv_nn u1
          have m4 := wv_lt u1
          have f4 : g2 (pl + nx) = 0 := t_zero (bp_pos nx) (by omega) (by omega)
          rw [f4, Int.zero_mul, Int.add_zero] at u3
          refine mv_iinc (k := 0) (lv' := [(10, .int (iI (q + (-1)))), (8, .long (lI (hd_))), (6, .long (lI (un))), (5, .int (iI (((pl : Int)) + ((nx : Int))))), (0, .ref h), (1, .ref x), (2, .long (lI (ld2 gx nx))), (4, .int (iI ((pl : Int))))]) B dX1_takeAway_113 hl rfl (by decide) rfl (fun ls hl => ?_)
          refine mv_iload B dX1_takeAway_116 (lv_at hl 0 rfl) ?_
          have dg1 : dg g2 (pl + nx + 1) := fun i hi => by
            rcases Nat.lt_or_ge i pl with a1 | a1
            · rw [u2 i (Or.inl a1), s2 i (Or.inl a1)]; exact hg i hi
            · rcases Nat.lt_or_ge i (pl + nx) with a2 | a2
              · exact u1 i a1 a2
              · rw [show i = pl + nx by omega, f4]; decide
          exact mw_iret B hQ hrt hI ⟨by rw [f2]; congr 1; omega, g2, hT, dg1, fun i hi => (u2 i hi).trans (s2 i hi), f4, by omega⟩ dX1_takeAway_118
      · refine mv_iconst B dX1_takeAway_85 ?_
        have e0 : wv g pl (nx + 1) / dv gx nx = 0 := by have := Int.ediv_nonneg hU0 (Int.le_of_lt hV); omega
        have e1 := Int.mul_ediv_add_emod (wv g pl (nx + 1)) (dv gx nx)
        rw [e0, Int.mul_zero, Int.zero_add] at e1
        have e2 := Int.emod_lt_of_pos (wv g pl (nx + 1)) hV
        have hdn : dw g pl nx := fun i h1 h2 => hg i (by omega)
        have hwn := wv_nn hdn
        have e3 := wv_s g pl nx
        have hwl := wv_lt hdn
        have e4 : g (pl + nx) = 0 := cy_zero d1.1 (bp_pos nx) (by omega)
        rw [e4, Int.zero_mul, Int.add_zero] at e3
        exact mw_iret B hQ hrt hI ⟨by rw [e0], g, hT, hg, fun _ _ => rfl, e4, by omega⟩ dX1_takeAway_86
    refine mv_lcmp_ne (tgt := 73) B dX1_takeAway_65 dX1_takeAway_66 (by decide) (by omega) (fun hc1 => ?_) (fun hc1 => ?_)
    · refine mv_lload B dX1_takeAway_73 (lv_at hl 0 rfl) ?_
      refine mv_lload_n B dX1_takeAway_75 rfl (lv_at hl 5 rfl) ?_
      refine mv_ldiv B dX1_takeAway_76 (by omega) ?_
      refine mv_l2i B dX1_takeAway_77 ?_
      exact j78 _ rfl
    · exact absurd hc1 (by omega)
  refine mv_icmp_lt (tgt := 28) B dX1_takeAway_12 (by decide) (by omega) (fun hc => ?_) (fun hc => ?_)
  · refine mv_lconst0 B dX1_takeAway_28 ?_
    exact j29 _ (by rw [if_neg (by omega)])
  · have d3 := hg (pl + nx - 2) (by omega)
    refine mv_aload_n B dX1_takeAway_15 rfl (lv_at hl 1 rfl) ?_
    refine ww_parts B hI hT.1 uin_X1 kw_23 dX1_takeAway_16 ?_
    refine mv_iload B dX1_takeAway_19 (lv_at hl 0 rfl) ?_
    refine mv_iconst B dX1_takeAway_21 ?_
    refine mv_isub B dX1_takeAway_22 ?_
    refine mw_iald B hI 0 hT.2.1 rfl (pl + nx - 2) (by omega) (by omega) (by decide) dX1_takeAway_23 ?_
    refine mv_i2l B dX1_takeAway_24 (by omega) ?_
    refine mv_goto (tgt := 29) B dX1_takeAway_25 (by decide) ?_
    exact j29 _ (by rw [if_pos (by omega)])
end
section
abbrev rm_X1_divideBy : Room := { frames := 2, cells := 0, slots := 0, locals := 59 }
set_option maxHeartbeats 4000000 in
set_option maxRecDepth 100000 in
/-- divideBy -/
theorem t_X1_divideBy (l : Launch) (D : va_G) (kA : Nat → ClassId) (sz : Nat) (f0 : mw_M) {h r x rx t rt : Nat} {za zb : Int} (hh : Rp (kA 0) f0 h r za) (hx : Rp (kA 0) f0 x rx zb) (hw : Rw (kA 0) f0 t rt) (x1 : x ≠ h) (x2 : rx ≠ r) (t1 : t ≠ h) (t2 : rt ≠ r) (u1 : t ≠ x) (u2 : rt ≠ rx) (hzb : zb ≠ 0) (ka : (za.natAbs : Int) < 1000000 ^ 103) : mw_Mv l yX1_divideBy (Cond.code yX1_divideBy cX1_divideBy 7 (none) :: gw) rm_X1_divideBy D vwCl (tyL kA) st_S [.ref h, .ref x, .ref t] f0 sz (fun f => Rp (kA 0) f h r (za.tmod zb) ∧ Rp (kA 0) f t rt (za.tdiv zb) ∧ fo2 f0 f h r t rt) 0 0 := by
  refine mw_ofv (cc := cX1_divideBy) (maxL := 7) (ret := none) (by decide) rfl (Nat.le_of_ble_eq_true rfl) ?_
  intro p e s m below meth c A ls Q hQ B hrt hnm hA hI hSt hl
  have hl : lv_has ls 7 [(0, .ref h), (1, .ref x), (2, .ref t)] := hl
  obtain ⟨g, na, b, hh, hr, hz⟩ := hh
  obtain ⟨gx, nx, bx, hx, hxr, hzx⟩ := hx
  obtain ⟨gt, nt, bt, ht, htr⟩ := hw
  have m1 := (hz.size 103).mpr ka
  have m2 := hzx.1
  have q1 := hz.b0
  have q2 := hzx.b0
  have q3 := hz.nat
  have q4 := hzx.nat
  have nx1 : 1 ≤ nx := by have := hzx.zero; omega
  have x3 := wh_ne hx hr
  have x4 := Ne.symm (wh_ne hh hxr)
  have x5 := wh_ne hx htr
  have x6 := Ne.symm (wh_ne ht hxr)
  have i1 := ld2_in hzx.toCn
  have hV : 0 < dv gx nx := by have := hzx.pos (by omega); have := bp_pos (nx - 1); omega
  have hA0 := dv_nn hz.2.1
  have hA1 := dv_lt hz.2.1
  obtain ⟨f, hI, hT⟩ : ∃ f, mw_I D vwCl A s s.heap [] f ∧ d2 (kA 0) f0 h r t rt f g (na : Int) b gt nt bt := ⟨f0, hI, d2.self hh hr ht htr⟩
  refine mv_aload_n B dX1_divideBy_0 rfl (lv_at hl 0 rfl) ?_
  refine ww_size B hI hT.1 uin_X1 kw_25 dX1_divideBy_1 ?_
  refine mv_aload_n B dX1_divideBy_4 rfl (lv_at hl 1 rfl) ?_
  refine ww_size B hI (hT.get hx x1 x3 (Ne.symm u1) x5) uin_X1 kw_25 dX1_divideBy_5 ?_
  refine mv_isub B dX1_divideBy_8 ?_
  refine mv_iconst B dX1_divideBy_9 ?_
  refine mv_iadd B dX1_divideBy_10 ?_
  refine mv_istore_n (lv' := [(3, .int (iI ((((na : Int)) - ((nx : Int))) + (1)))), (0, .ref h), (1, .ref x), (2, .ref t)]) B dX1_divideBy_11 rfl hl (by decide) rfl (fun ls hl => ?_)
  refine mv_aload_n B dX1_divideBy_12 rfl (lv_at hl 2 rfl) ?_
  refine mw_calll hI hA (va_runV (As := []) (rest := []) B.fix (t_X1_leadOfTwo l D kA s.heap.size f (hT.get hx x1 x3 (Ne.symm u1) x5) (hT.get hxr x4 x2 x6 (Ne.symm u2)) hzx.toCn) (cwV 0 B.2.2.2.2.1 (gV kw_199 kw_201 ks_5 kw_2 kw_202) rfl rfl rfl (by decide +kernel) ⟨Nat.le_of_ble_eq_true rfl, Nat.le_of_ble_eq_true rfl⟩) ⟨mw_blind st_S.blind, mw_recv B hI (hT.get hx x1 x3 (Ne.symm u1) x5) rfl, mw_pre B hI (hSt.call hI hA)⟩ rfl rfl hl.1 rfl (lv_room (Nat.le_of_ble_eq_true rfl)) dX1_divideBy_13 ⟨Nat.le_of_ble_eq_true rfl, Nat.le_of_ble_eq_true rfl⟩) (fun r f H locs hp hI2 => ?_)
  clear hI
  have hI := hI2
  clear hI2
  obtain ⟨rfl, rfl⟩ := hp
  refine mv_lstore (lv' := [(4, .long (lI (ld2 gx nx))), (3, .int (iI ((((na : Int)) - ((nx : Int))) + (1)))), (0, .ref h), (1, .ref x), (2, .ref t)]) B dX1_divideBy_16 hl (by decide) rfl (fun ls hl => ?_)
  refine mv_lload B dX1_divideBy_18 (lv_at hl 0 rfl) ?_
  refine mv_lconst0 B dX1_divideBy_20 ?_
  refine mv_lcmp_eq (tgt := 29) B dX1_divideBy_21 dX1_divideBy_22 (by decide) (by omega) (fun hc => ?_) (fun hc => ?_)
  · exact absurd hc (by omega)
  · refine mv_iload_n B dX1_divideBy_25 rfl (lv_at hl 1 rfl) ?_
    refine mv_if_gt (tgt := 35) B dX1_divideBy_26 (by decide) (by omega) (fun hc2 => ?_) (fun hc2 => ?_)
    · refine mv_aload_n B dX1_divideBy_35 rfl (lv_at hl 2 rfl) ?_
      refine ww_parts B hI hT.1 uin_X1 kw_23 dX1_divideBy_36 ?_
      refine mv_aload_n B dX1_divideBy_39 rfl (lv_at hl 2 rfl) ?_
      refine ww_size B hI hT.1 uin_X1 kw_25 dX1_divideBy_40 ?_
      refine mv_iconst B dX1_divideBy_43 ?_
      refine ww_iast B hI (wSt.self hT.1 hT.2.1) (na) (by omega) (by omega) dX1_divideBy_44 (fun f H locs hS hI => ?_)
      have hT := hT.h t1 t2 hS
      obtain ⟨P, hP⟩ : ∃ P : Nat, (P : Int) = (na : Int) - (nx : Int) + 1 := ⟨na + 1 - nx, by omega⟩
      have dg0 : dg (upI g na 0) (na + 1) := hz.2.1.up_s (by decide)
      have ev0 : dv (upI g na 0) (na + 1) = dv g na := by rw [dv_up_s, Int.zero_mul, Int.add_zero]
      refine mv_iload_n B dX1_divideBy_45 rfl (lv_at hl 1 rfl) ?_
      refine mv_iconst B dX1_divideBy_46 ?_
      refine mv_isub B dX1_divideBy_47 ?_
      refine mv_istore (lv' := [(6, .int (iI (((((na : Int)) - ((nx : Int))) + (1)) - (1)))), (4, .long (lI (ld2 gx nx))), (3, .int (iI ((((na : Int)) - ((nx : Int))) + (1)))), (0, .ref h), (1, .ref x), (2, .ref t)]) B dX1_divideBy_48 hl (by decide) rfl (fun ls hl => ?_)
      have loop : ∀ (μ : Nat) (j : Nat) (y : Int) (g' gq : Nat → Int) (f : mw_M) (H : Heap) (locs : List Loc) (ls : Array Slot), j < μ → y = (j : Int) - 1 → j ≤ P → dg g' (na + 1) → (∀ i, j + nx ≤ i → i ≤ na → g' i = 0) → dv g' (na + 1) < dv gx nx * 1000000 ^ j → (∀ i, j ≤ i → i < P → 0 ≤ gq i ∧ gq i < 1000000) → dv g na = (dv gq P - dv gq j) * dv gx nx + dv g' (na + 1) → mw_I D vwCl A s H locs f → d2 (kA 0) f0 h r t rt f g' (na : Int) b gq nt bt → lv_has ls 7 [(6, .int (iI (y))), (4, .long (lI (ld2 gx nx))), (3, .int (iI ((((na : Int)) - ((nx : Int))) + (1)))), (0, .ref h), (1, .ref x), (2, .ref t)] → W p l e rm_X1_divideBy s m ([.ref h, .ref x, .ref t] : List Value).toArray below meth c H locs 0 0 Q (F0 m 50 ls []) := by
        intro μ
        induction μ with
        | zero => intro j y g' gq f H locs ls hμ; exact absurd hμ (Nat.not_lt_zero _)
        | succ μ ih =>
          intro j y g' gq f H locs ls hμ hy hj hg hzr hlt hq hv hI hT hl
          refine mv_iload B dX1_divideBy_50 (lv_at hl 0 rfl) ?_
          refine mv_if_lt (tgt := 77) B dX1_divideBy_52 (by decide) (by omega) (fun hd0 => ?_) (fun hd0 => ?_)
          · obtain rfl : j = 0 := by omega
            rw [dv_0, Int.sub_zero] at hv
            rw [Int.pow_zero, Int.mul_one] at hlt
            have er : dv g' (na + 1) = dv g' nx := dv_trim (by omega) (fun i h1 h2 => hzr i (by omega) (by omega))
            rw [er] at hv hlt
            have hr0 := dv_nn (hg.sub (show nx ≤ na + 1 by omega))
            obtain ⟨eq1, eq2⟩ := (Int.ediv_emod_unique hV).mpr ⟨show dv g' nx + dv gx nx * dv gq P = dv g na by rw [hv, Int.mul_comm (dv gx nx)]; omega, hr0, hlt⟩
            have sg := td_sgn hz hzx eq1 eq2
            have dgq : dg gq P := fun i hi => hq i (by omega) hi
            refine mv_aload_n B dX1_divideBy_77 rfl (lv_at hl 5 rfl) ?_
            refine mv_aload_n B dX1_divideBy_78 rfl (lv_at hl 3 rfl) ?_
            refine ww_below B hI hT.1 uin_X1 kw_27 dX1_divideBy_79 ?_
            refine mv_aload_n B dX1_divideBy_82 rfl (lv_at hl 4 rfl) ?_
            refine ww_below B hI (hT.get hx x1 x3 (Ne.symm u1) x5) uin_X1 kw_27 dX1_divideBy_83 ?_
            have j94 : ∀ (nb : Int), nb = (if b = bx then 0 else 1) → W p l e rm_X1_divideBy s m ([.ref h, .ref x, .ref t] : List Value).toArray below meth c H locs 0 0 Q (F0 m 94 ls [.int (iI (nb)), .ref t]) := by
              intro nb hnb
              refine ww_putb B hI (wSt.self hT.2.2.1 hT.2.2.2.1) (by omega) uin_X1 kw_27 dX1_divideBy_94 (fun f H locs hS hI => ?_)
              have hT := hT.t t1 t2 hS
              refine mv_aload_n B dX1_divideBy_97 rfl (lv_at hl 5 rfl) ?_
              refine mv_iload_n B dX1_divideBy_98 rfl (lv_at hl 2 rfl) ?_
              rw [← hP]
              refine mw_callv hI hA (va_runV (As := [.int (iI ((P : Int)))]) (rest := []) B.fix (t_X1_trimTo l D kA H.size f (k := P) hT.2.2.1 hT.2.2.2.1 (by omega) dgq) (cwV 1 B.2.2.2.2.1 (gV kw_105 kw_106 kw_107 kw_2 kw_108) rfl rfl rfl (by decide +kernel) ⟨Nat.le_of_ble_eq_true rfl, Nat.le_of_ble_eq_true rfl⟩) ⟨mw_blind st_S.blind, mw_recv B hI hT.2.2.1 rfl, mw_pre B hI (hSt.call hI hA)⟩ rfl rfl hl.1 rfl (lv_room (Nat.le_of_ble_eq_true rfl)) dX1_divideBy_99 ⟨Nat.le_of_ble_eq_true rfl, Nat.le_of_ble_eq_true rfl⟩) (fun f H locs hp hI2 => ?_)
              clear hI
              have hI := hI2
              clear hI2
              obtain ⟨nq, a1, a2, a3, hS⟩ := hp
              have hT := hT.t t1 t2 hS
              have e1 := dv_trim a1 a2
              refine mv_aload_n B dX1_divideBy_102 rfl (lv_at hl 3 rfl) ?_
              refine mv_aload_n B dX1_divideBy_103 rfl (lv_at hl 4 rfl) ?_
              refine ww_size B hI (hT.get hx x1 x3 (Ne.symm u1) x5) uin_X1 kw_25 dX1_divideBy_104 ?_
              refine mw_callv hI hA (va_runV (As := [.int (iI ((nx : Int)))]) (rest := []) B.fix (t_X1_trimTo l D kA H.size f (k := nx) hT.1 hT.2.1 (by omega) (hg.sub (by omega))) (cwV 1 B.2.2.2.2.1 (gV kw_105 kw_106 kw_107 kw_2 kw_108) rfl rfl rfl (by decide +kernel) ⟨Nat.le_of_ble_eq_true rfl, Nat.le_of_ble_eq_true rfl⟩) ⟨mw_blind st_S.blind, mw_recv B hI hT.1 rfl, mw_pre B hI (hSt.call hI hA)⟩ rfl rfl hl.1 rfl (lv_room (Nat.le_of_ble_eq_true rfl)) dX1_divideBy_107 ⟨Nat.le_of_ble_eq_true rfl, Nat.le_of_ble_eq_true rfl⟩) (fun f H locs hp hI2 => ?_)
              clear hI
              have hI := hI2
              clear hI2
              obtain ⟨nr, c1, c2, c3, hS⟩ := hp
              have hT := hT.h t1 t2 hS
              have e2 := dv_trim c1 c2
              have hsq : (nb = 0 ∧ za.tdiv zb = dv gq P) ∨ (nb = 1 ∧ za.tdiv zb = -dv gq P) := by
                have k1 := sg.1
                by_cases q : b = bx
                · rw [if_pos q] at hnb; exact Or.inl ⟨hnb, k1.1 q⟩
                · rw [if_neg q] at hnb; exact Or.inr ⟨hnb, k1.2 q⟩
              exact mw_vret B hQ hrt hI ⟨⟨g', nr, _, hT.1, hT.2.1, rp_of ⟨by omega, (hg.sub (by omega)), c3⟩ e2.symm sg.2⟩, ⟨gq, nq, _, hT.2.2.1, hT.2.2.2.1, rp_of ⟨by omega, dgq.sub a1, a3⟩ e1.symm hsq⟩, hT.2.2.2.2⟩ dX1_divideBy_110
            refine mv_icmp_eq (tgt := 93) B dX1_divideBy_86 (by decide) (by omega) (fun hd1 => ?_) (fun hd1 => ?_)
            · refine mv_iconst B dX1_divideBy_93 ?_
              exact j94 _ (by rw [if_pos hd1])
            · refine mv_iconst B dX1_divideBy_89 ?_
              refine mv_goto (tgt := 94) B dX1_divideBy_90 (by decide) ?_
              exact j94 _ (by rw [if_neg hd1])
          · obtain ⟨k, rfl⟩ : ∃ k, j = k + 1 := ⟨j - 1, by omega⟩
            obtain ⟨w1, w2⟩ := dd_win hg (show k + nx ≤ na by omega) hzr hlt
            obtain rfl : y = (k : Int) := by omega
            refine mv_aload_n B dX1_divideBy_55 rfl (lv_at hl 5 rfl) ?_
            refine ww_parts B hI hT.2.2.1 uin_X1 kw_23 dX1_divideBy_56 ?_
            refine mv_iload B dX1_divideBy_59 (lv_at hl 0 rfl) ?_
            refine mv_aload_n B dX1_divideBy_61 rfl (lv_at hl 3 rfl) ?_
            refine mv_aload_n B dX1_divideBy_62 rfl (lv_at hl 4 rfl) ?_
            refine mv_lload B dX1_divideBy_63 (lv_at hl 1 rfl) ?_
            refine mv_iload B dX1_divideBy_65 (lv_at hl 0 rfl) ?_
            refine mw_calli hI hA (va_runV (As := [.ref x, .long (lI (ld2 gx nx)), .int (iI ((k : Int)))]) (rest := [.int (iI ((k : Int))), .ref rt]) B.fix (t_X1_takeAway l D kA H.size f (pl := k) hT.1 hT.2.1 (hT.get hx x1 x3 (Ne.symm u1) x5) (hT.get hxr x4 x2 x6 (Ne.symm u2)) x1 x2 (by omega) nx1 hzx.toCn (hg.sub (by omega)) w1) (cwV 3 B.2.2.2.2.1 (gV kw_204 kw_206 ks_6 kw_2 kw_207) rfl rfl rfl (by decide +kernel) ⟨Nat.le_of_ble_eq_true rfl, Nat.le_of_ble_eq_true rfl⟩) ⟨mw_blind st_S.blind, mw_recv B hI hT.1 rfl, mw_pre B hI (hSt.call hI hA)⟩ rfl rfl hl.1 rfl (lv_room (Nat.le_of_ble_eq_true rfl)) dX1_divideBy_67 ⟨Nat.le_of_ble_eq_true rfl, Nat.le_of_ble_eq_true rfl⟩) (fun r f H locs hp hI2 => ?_)
            clear hI
            have hI := hI2
            clear hI2
            obtain ⟨rfl, g2, hS, a1, a2, a3, a4⟩ := hp
            have hT := hT.h t1 t2 hS
            have wn := wv_nn (show dw g' k (nx + 1) from fun i h1 h2 => hg i (by omega))
            have b1 := Int.ediv_nonneg wn (Int.le_of_lt hV)
            have b2 : wv g' k (nx + 1) / dv gx nx < 1000000 := Int.ediv_lt_of_lt_mul hV (by omega)
            have b3 := Int.emod_lt_of_pos (wv g' k (nx + 1)) hV
            have b4 := Int.mul_ediv_add_emod (wv g' k (nx + 1)) (dv gx nx)
            have hz2 : ∀ i, k + nx ≤ i → i ≤ na → g2 i = 0 := fun i h1 h2 => by
              rcases Nat.lt_or_ge (k + nx) i with q | q
              · rw [a2 i (Or.inr q)]; exact hzr i (by omega) h2
              · rw [show i = k + nx by omega]; exact a3
            have dg2 : dg g2 (na + 1) := fun i hi => by
              rcases Nat.lt_or_ge i (k + nx + 1) with q | q
              · exact a1 i q
              · rw [hz2 i (by omega) (by omega)]; decide
            obtain ⟨l1, l2⟩ := dd_low (show k + nx ≤ na by omega) hg (fun i h1 => a2 i (Or.inl h1)) hz2 a4 b3
            refine ww_iast B hI (wSt.self hT.2.2.1 hT.2.2.2.1) (k) (by omega) (by omega) dX1_divideBy_70 (fun f H locs hS hI => ?_)
            have hT := hT.t t1 t2 hS
            refine mv_iinc (k := 0) (lv' := [(6, .int (iI ((k : Int) + (-1)))), (4, .long (lI (ld2 gx nx))), (3, .int (iI ((((na : Int)) - ((nx : Int))) + (1)))), (0, .ref h), (1, .ref x), (2, .ref t)]) B dX1_divideBy_71 hl rfl (by decide) rfl (fun ls hl => ?_)
            refine mv_goto (tgt := 50) B dX1_divideBy_74 (by decide) ?_
            refine ih k _ g2 _ f H locs ls (by omega) (by omega) (by omega) dg2 hz2 l2 (fun i h1 h2 => ?_) ?_ hI hT (lv_sub hl [0, 1, 2, 3, 4, 5] rfl)
            · by_cases q : i = k
              · rw [q, upI_self]; exact ⟨b1, b2⟩
              · rw [upI_ne _ _ q]; exact hq i (by omega) h2
            · rw [l1, dv_up_ge (Nat.le_refl k)]
              rw [w2] at hv
              exact dd_step (lo2 := 0) hv b4 (dv_s gq k) (dv_up (by omega))
      exact loop (P + 1) P _ _ gt f H locs ls (Nat.lt_succ_self P) (by omega) (Nat.le_refl P) dg0 (fun i h1 h2 => by rw [show i = na by omega, upI_self]) (by rw [ev0]; exact dd_init hzx hA1 (by omega)) (fun i h1 h2 => absurd h1 (by omega)) (by rw [ev0, Int.sub_self, Int.zero_mul, Int.zero_add]) hI hT (lv_sub hl [0, 1, 2, 3, 4, 5] rfl)
    · refine mv_aload_n B dX1_divideBy_29 rfl (lv_at hl 4 rfl) ?_
      refine mv_lconst0 B dX1_divideBy_30 ?_
      refine mw_callv hI hA (va_runV (As := [.long (lI (0))]) (rest := []) B.fix (t_X1_load l D kA H.size f (z := 0) ⟨gt, nt, bt, hT.2.2.1, hT.2.2.2.1⟩ (by decide)) (cwV 1 B.2.2.2.2.1 (gV kw_203 kw_98 kw_99 kw_2 kw_100) rfl rfl rfl (by decide +kernel) ⟨Nat.le_of_ble_eq_true rfl, Nat.le_of_ble_eq_true rfl⟩) ⟨mw_blind st_S.blind, mw_recv B hI hT.2.2.1 rfl, mw_pre B hI (hSt.call hI hA)⟩ rfl rfl hl.1 rfl (lv_room (Nat.le_of_ble_eq_true rfl)) dX1_divideBy_31 ⟨Nat.le_of_ble_eq_true rfl, Nat.le_of_ble_eq_true rfl⟩) (fun f H locs hp hI2 => ?_)
      clear hI
      have hI := hI2
      clear hI2
      obtain ⟨p1, p2⟩ := hp
      have lt1 := hz.toCn.lt hzx.toCn (by omega)
      have sg := td_sgn hz hzx (q := 0) (w := dv g na) (Int.ediv_eq_zero_of_lt hA0 lt1) (Int.emod_eq_of_lt hA0 lt1)
      have ez1 : za.tdiv zb = 0 := by have := sg.1; omega
      have ez2 : za.tmod zb = za := by have := sg.2; omega
      exact mw_vret B hQ hrt hI ⟨by rw [ez2]; exact Rp.keep ⟨g, na, b, hT.1, hT.2.1, hz⟩ p2 ⟨gt, nt, bt, hT.2.2.1, hT.2.2.2.1⟩ (Ne.symm t1) (Ne.symm t2), by rw [ez1]; exact p1, fun q a1 a2 a3 a4 => (p2 q a3 a4).trans (hT.2.2.2.2 q a1 a2 a3 a4)⟩ dX1_divideBy_34
end
section
abbrev rm_X1_lowBits : Room := { frames := 0, cells := 0, slots := 0, locals := 0 }
set_option maxHeartbeats 4000000 in
set_option maxRecDepth 100000 in
/-- lowBits -/
theorem t_X1_lowBits (l : Launch) (D : va_G) (kA : Nat → ClassId) (sz : Nat) (f0 : mw_M) {h r : Nat} {z : Int} (hh : Rp (kA 0) f0 h r z) : mw_Ml l yX1_lowBits (Cond.code yX1_lowBits cX1_lowBits 4 ((some .long)) :: gw) rm_X1_lowBits D vwCl (tyL kA) st_S [.ref h] f0 sz (fun v f => v = lI z ∧ f = f0) 0 0 := by
  refine mw_ofl (cc := cX1_lowBits) (maxL := 4) (ret := (some .long)) (by decide) rfl (Nat.le_of_ble_eq_true rfl) ?_
  intro p e s m below meth c A ls Q hQ B hrt hnm hA hI hSt hl
  have hl : lv_has ls 4 [(0, .ref h)] := hl
  obtain ⟨g, n, b, hh, hr, hz⟩ := hh
  obtain ⟨f, hI, hf⟩ : ∃ f, mw_I D vwCl A s s.heap [] f ∧ f = f0 := ⟨f0, hI, rfl⟩
  have hh1 : f h = some (wh r (n : Int) b) := by rw [hf]; exact hh
  have hr1 : f r = some (mw_ar (kA 0) 104 g) := by rw [hf]; exact hr
  have hn1 := hz.1
  have q1 := hz.b0
  have q3 := hz.nat
  refine mv_lconst0 B dX1_lowBits_0 ?_
  refine mv_lstore_n (lv' := [(1, .long (lI (0))), (0, .ref h)]) B dX1_lowBits_1 rfl hl (by decide) rfl (fun ls hl => ?_)
  refine mv_aload_n B dX1_lowBits_2 rfl (lv_at hl 1 rfl) ?_
  refine ww_size B hI hh1 uin_X1 kw_25 dX1_lowBits_3 ?_
  refine mv_iconst B dX1_lowBits_6 ?_
  refine mv_isub B dX1_lowBits_7 ?_
  refine mv_istore_n (lv' := [(3, .int (iI (((n : Int)) - (1)))), (1, .long (lI (0))), (0, .ref h)]) B dX1_lowBits_8 rfl hl (by decide) rfl (fun ls hl => ?_)
  have loop : ∀ (μ : Nat) (j : Nat) (y t : Int) (ls : Array Slot), j < μ → y = (j : Int) - 1 → j ≤ n → t = wv g j (n - j) → lv_has ls 4 [(3, .int (iI (y))), (1, .long (lI (t))), (0, .ref h)] → W p l e rm_X1_lowBits s m ([.ref h] : List Value).toArray below meth c s.heap [] 0 0 Q (F0 m 9 ls []) := by
    intro μ
    induction μ with
    | zero => intro j y t ls hμ; exact absurd hμ (Nat.not_lt_zero _)
    | succ μ ih =>
      intro j y t ls hμ hy hj ht hl
      refine mv_iload_n B dX1_lowBits_9 rfl (lv_at hl 0 rfl) ?_
      refine mv_if_lt (tgt := 33) B dX1_lowBits_10 (by decide) (by omega) (fun hd0 => ?_) (fun hd0 => ?_)
      · obtain rfl : j = 0 := by omega
        rw [Nat.sub_zero, wv_all] at ht
        refine mv_aload_n B dX1_lowBits_33 rfl (lv_at hl 2 rfl) ?_
        refine ww_below B hI hh1 uin_X1 kw_27 dX1_lowBits_34 ?_
        refine mv_if_eq (tgt := 45) B dX1_lowBits_37 (by decide) (by omega) (fun hd1 => ?_) (fun hd1 => ?_)
        · refine mv_lload_n B dX1_lowBits_45 rfl (lv_at hl 1 rfl) ?_
          exact mw_lret B hQ hrt hI ⟨by congr 1; omega, hf⟩ dX1_lowBits_46
        · refine mv_lload_n B dX1_lowBits_40 rfl (lv_at hl 1 rfl) ?_
          refine mv_lneg B dX1_lowBits_41 ?_
          refine mv_goto (tgt := 46) B dX1_lowBits_42 (by decide) ?_
          exact mw_lret B hQ hrt hI ⟨by congr 1; omega, hf⟩ dX1_lowBits_46
      · obtain ⟨k, rfl⟩ : ∃ k, j = k + 1 := ⟨j - 1, by omega⟩
        have g1 := hz.2.1 k (by omega)
        refine mv_lload_n B dX1_lowBits_13 rfl (lv_at hl 1 rfl) ?_
        refine mv_ldc2 (z := 1000000) B dX1_lowBits_14 kw_101 (by decide) ?_
        refine mv_lmul B dX1_lowBits_17 ?_
        refine mv_aload_n B dX1_lowBits_18 rfl (lv_at hl 2 rfl) ?_
        refine ww_parts B hI hh1 uin_X1 kw_23 dX1_lowBits_19 ?_
        refine mv_iload_n B dX1_lowBits_22 rfl (lv_at hl 0 rfl) ?_
        refine mw_iald B hI 0 hr1 rfl (k) (by omega) (by omega) (by decide) dX1_lowBits_23 ?_
        refine mv_i2l B dX1_lowBits_24 (by omega) ?_
        refine mv_ladd B dX1_lowBits_25 ?_
        refine mv_lstore_n (lv' := [(1, .long (lI (((t) * (1000000)) + (g (k))))), (3, .int (iI (y))), (0, .ref h)]) B dX1_lowBits_26 rfl hl (by decide) rfl (fun ls hl => ?_)
        refine mv_iinc (k := 1) (lv' := [(3, .int (iI (y + (-1)))), (1, .long (lI (((t) * (1000000)) + (g (k))))), (0, .ref h)]) B dX1_lowBits_27 hl rfl (by decide) rfl (fun ls hl => ?_)
        refine mv_goto (tgt := 9) B dX1_lowBits_30 (by decide) ?_
        refine ih k _ _ ls (by omega) (by omega) (by omega) ?_ (lv_sub hl [0, 1, 2] rfl)
        rw [show n - k = (n - (k + 1)) + 1 by omega, wv_cons, ht]
        omega
  exact loop (n + 1) n _ _ ls (Nat.lt_succ_self n) rfl (Nat.le_refl n) (by rw [Nat.sub_self, wv_0]) (lv_sub hl [0, 1, 2] rfl)
abbrev rm_X1_countDigits : Room := { frames := 0, cells := 0, slots := 0, locals := 0 }
set_option maxHeartbeats 4000000 in
set_option maxRecDepth 100000 in
/-- countDigits -/
theorem t_X1_countDigits (l : Launch) (D : va_G) (kA : Nat → ClassId) (sz : Nat) (f0 : mw_M) {h r : Nat} {z : Int} (hh : Rp (kA 0) f0 h r z) : mw_Mi l yX1_countDigits (Cond.code yX1_countDigits cX1_countDigits 3 ((some .int)) :: gw) rm_X1_countDigits D vwCl (tyL kA) st_S [.ref h] f0 sz (fun v f => (∃ k : Nat, isnd (z.natAbs : Int) k ∧ k ≤ 624 ∧ v = iI (k : Int)) ∧ f = f0) 0 0 := by
  refine mw_ofi (cc := cX1_countDigits) (maxL := 3) (ret := (some .int)) (by decide) rfl (Nat.le_of_ble_eq_true rfl) ?_
  intro p e s m below meth c A ls Q hQ B hrt hnm hA hI hSt hl
  have hl : lv_has ls 3 [(0, .ref h)] := hl
  obtain ⟨g, n, b, hh, hr, hz⟩ := hh
  obtain ⟨f, hI, hf⟩ : ∃ f, mw_I D vwCl A s s.heap [] f ∧ f = f0 := ⟨f0, hI, rfl⟩
  have hh1 : f h = some (wh r (n : Int) b) := by rw [hf]; exact hh
  have hr1 : f r = some (mw_ar (kA 0) 104 g) := by rw [hf]; exact hr
  have hn1 := hz.1
  have q1 := hz.b0
  have q3 := hz.nat
  obtain ⟨tb1, hZ1, hV1⟩ := hSt.1
  refine mv_aload_n B dX1_countDigits_0 rfl (lv_at hl 0 rfl) ?_
  refine ww_size B hI hh1 uin_X1 kw_25 dX1_countDigits_1 ?_
  refine mv_if_ne (tgt := 9) B dX1_countDigits_4 (by decide) (by omega) (fun hc => ?_) (fun hc => ?_)
  · have g1 := hz.2.1 (n - 1) (by omega)
    have g2 := hz.2.2.1 (by omega)
    refine mv_aload_n B dX1_countDigits_9 rfl (lv_at hl 0 rfl) ?_
    refine ww_parts B hI hh1 uin_X1 kw_23 dX1_countDigits_10 ?_
    refine mv_aload_n B dX1_countDigits_13 rfl (lv_at hl 0 rfl) ?_
    refine ww_size B hI hh1 uin_X1 kw_25 dX1_countDigits_14 ?_
    refine mv_iconst B dX1_countDigits_17 ?_
    refine mv_isub B dX1_countDigits_18 ?_
    refine mw_iald B hI 0 hr1 rfl (n - 1) (by omega) (by omega) (by decide) dX1_countDigits_19 ?_
    refine mv_istore_n (lv' := [(1, .int (iI (g (n - 1)))), (0, .ref h)]) B dX1_countDigits_20 rfl hl (by decide) rfl (fun ls hl => ?_)
    refine mv_iconst B dX1_countDigits_21 ?_
    refine mv_istore_n (lv' := [(2, .int (iI (1))), (1, .int (iI (g (n - 1)))), (0, .ref h)]) B dX1_countDigits_22 rfl hl (by decide) rfl (fun ls hl => ?_)
    have loop : ∀ (μ : Nat) (j : Nat) (y : Int) (ls : Array Slot), 6 - j < μ → y = (j : Int) → (1 ≤ j ∧ j ≤ 6) → (10 : Int) ^ (j - 1) ≤ g (n - 1) → lv_has ls 3 [(2, .int (iI (y))), (1, .int (iI (g (n - 1)))), (0, .ref h)] → W p l e rm_X1_countDigits s m ([.ref h] : List Value).toArray below meth c s.heap [] 0 0 Q (F0 m 23 ls []) := by
      intro μ
      induction μ with
      | zero => intro j y ls hμ; exact absurd hμ (Nat.not_lt_zero _)
      | succ μ ih =>
        intro j y ls hμ hy hj ht hl
        refine mv_iload_n B dX1_countDigits_23 rfl (lv_at hl 0 rfl) ?_
        refine mv_bipush B dX1_countDigits_24 (by decide) ?_
        refine mv_icmp_ge (tgt := 44) B dX1_countDigits_26 (by decide) (by omega) (fun hd0 => ?_) (fun hd0 => ?_)
        · have t2 : g (n - 1) < 10 ^ j := by rw [show j = 6 by omega]; exact g1.2
          have nd := nd_of hz.toCn (by omega) hj ht t2
          rw [← q3] at nd
          refine mv_aload_n B dX1_countDigits_44 rfl (lv_at hl 2 rfl) ?_
          refine ww_size B hI hh1 uin_X1 kw_25 dX1_countDigits_45 ?_
          refine mv_iconst B dX1_countDigits_48 ?_
          refine mv_isub B dX1_countDigits_49 ?_
          refine mv_bipush B dX1_countDigits_50 (by decide) ?_
          refine mv_imul B dX1_countDigits_52 ?_
          refine mv_iload_n B dX1_countDigits_53 rfl (lv_at hl 0 rfl) ?_
          refine mv_iadd B dX1_countDigits_54 ?_
          exact mw_iret B hQ hrt hI ⟨⟨_, nd, by omega, by congr 1; omega⟩, hf⟩ dX1_countDigits_55
        · have t1 := tn_in j (by omega)
          have t0 := tn_rng j (by omega)
          refine mv_iload_n B dX1_countDigits_29 rfl (lv_at hl 1 rfl) ?_
          refine mv_gets B hI hZ1 hSt.2.2.2.1 dX1_countDigits_30 ?_
          refine mv_iload_n B dX1_countDigits_33 rfl (lv_at hl 0 rfl) ?_
          refine mv_tab B hI hV1 (j) (by omega) (by omega) (by decide) dX1_countDigits_34 ?_
          refine mv_icmp_lt (tgt := 44) B dX1_countDigits_35 (by decide) (by omega) (fun hd1 => ?_) (fun hd1 => ?_)
          · have t2 : g (n - 1) < 10 ^ j := by rw [← t1]; exact hd1
            have nd := nd_of hz.toCn (by omega) hj ht t2
            rw [← q3] at nd
            refine mv_aload_n B dX1_countDigits_44 rfl (lv_at hl 2 rfl) ?_
            refine ww_size B hI hh1 uin_X1 kw_25 dX1_countDigits_45 ?_
            refine mv_iconst B dX1_countDigits_48 ?_
            refine mv_isub B dX1_countDigits_49 ?_
            refine mv_bipush B dX1_countDigits_50 (by decide) ?_
            refine mv_imul B dX1_countDigits_52 ?_
            refine mv_iload_n B dX1_countDigits_53 rfl (lv_at hl 0 rfl) ?_
            refine mv_iadd B dX1_countDigits_54 ?_
            exact mw_iret B hQ hrt hI ⟨⟨_, nd, by omega, by congr 1; omega⟩, hf⟩ dX1_countDigits_55
          · refine mv_iinc (k := 0) (lv' := [(2, .int (iI (y + 1))), (1, .int (iI (g (n - 1)))), (0, .ref h)]) B dX1_countDigits_38 hl rfl (by decide) rfl (fun ls hl => ?_)
            refine mv_goto (tgt := 23) B dX1_countDigits_41 (by decide) ?_
            exact ih (j + 1) _ ls (by omega) (by omega) (by omega) (by rw [Nat.add_sub_cancel, ← t1]; omega) (lv_sub hl [0, 1, 2] rfl)
    exact loop 6 1 _ ls (by omega) rfl (by omega) (by show (1 : Int) ≤ _; omega) (lv_sub hl [0, 1, 2] rfl)
  · refine mv_iconst B dX1_countDigits_7 ?_
    exact mw_iret B hQ hrt hI ⟨⟨1, Or.inl ⟨by have := hz.zero; omega, rfl⟩, by decide, rfl⟩, hf⟩ dX1_countDigits_8
abbrev rm_X1_digitOfPlace : Room := { frames := 1, cells := 0, slots := 0, locals := 21 }
set_option maxHeartbeats 4000000 in
set_option maxRecDepth 100000 in
/-- digitOfPlace -/
theorem t_X1_digitOfPlace (l : Launch) (D : va_G) (kA : Nat → ClassId) (sz : Nat) (f0 : mw_M) {h r : Nat} {z : Int} {q : Nat} (hh : Rp (kA 0) f0 h r z) (hq : q ≤ 1000) : mw_Mi l yX1_digitOfPlace (Cond.code yX1_digitOfPlace cX1_digitOfPlace 2 ((some .int)) :: gw) rm_X1_digitOfPlace D vwCl (tyL kA) st_S [.ref h, .int (iI ((q : Int)))] f0 sz (fun v f => v = iI ((z.natAbs : Int) / 10 ^ q % 10) ∧ f = f0) 0 0 := by
  refine mw_ofi (cc := cX1_digitOfPlace) (maxL := 2) (ret := (some .int)) (by decide) rfl (Nat.le_of_ble_eq_true rfl) ?_
  intro p e s m below meth c A ls Q hQ B hrt hnm hA hI hSt hl
  have hl : lv_has ls 2 [(0, .ref h), (1, .int (iI ((q : Int))))] := hl
  obtain ⟨g, n, b, hh, hr, hz⟩ := hh
  obtain ⟨f, hI, hf⟩ : ∃ f, mw_I D vwCl A s s.heap [] f ∧ f = f0 := ⟨f0, hI, rfl⟩
  have hh1 : f h = some (wh r (n : Int) b) := by rw [hf]; exact hh
  have hr1 : f r = some (mw_ar (kA 0) 104 g) := by rw [hf]; exact hr
  have hn1 := hz.1
  have q1 := hz.b0
  have q3 := hz.nat
  obtain ⟨tb1, hZ1, hV1⟩ := hSt.1
  have e1 : (q : Int) / 6 = ((q / 6 : Nat) : Int) := by omega
  have e2 : (q : Int) % 6 = ((q % 6 : Nat) : Int) := by omega
  have pd := pz_dg hz.2.1 (q / 6 + 1) (q / 6) (by omega)
  have t1 := tn_in (q % 6) (by omega)
  have t0 := tn_rng (q % 6) (by omega)
  refine mv_aload_n B dX1_digitOfPlace_0 rfl (lv_at hl 0 rfl) ?_
  refine mv_iload_n B dX1_digitOfPlace_1 rfl (lv_at hl 1 rfl) ?_
  refine mv_bipush B dX1_digitOfPlace_2 (by decide) ?_
  refine mv_idiv B dX1_digitOfPlace_4 (by omega) ?_
  rw [e1]
  refine mw_calli hI hA (va_runV (As := [.int (iI (((q / 6 : Nat) : Int)))]) (rest := []) B.fix (t_X1_partOrZero l D kA s.heap.size f hh1 hr1 hn1 (by omega)) (cwV 1 B.2.2.2.2.1 (gV kw_136 kw_137 kw_138 kw_2 kw_139) rfl rfl rfl (by decide +kernel) ⟨Nat.le_of_ble_eq_true rfl, Nat.le_of_ble_eq_true rfl⟩) ⟨mw_blind st_S.blind, mw_recv B hI hh1 rfl, mw_pre B hI (hSt.call hI hA)⟩ rfl rfl hl.1 rfl (lv_room (Nat.le_of_ble_eq_true rfl)) dX1_digitOfPlace_5 ⟨Nat.le_of_ble_eq_true rfl, Nat.le_of_ble_eq_true rfl⟩) (fun r f H locs hp hI2 => ?_)
  clear hI
  have hI := hI2
  clear hI2
  obtain ⟨rfl, rfl⟩ := hp
  rw [if_neg (by omega), show (((q / 6 : Nat) : Int)).toNat = q / 6 by omega]
  refine mv_gets B hI hZ1 hSt.2.2.2.1 dX1_digitOfPlace_8 ?_
  refine mv_iload_n B dX1_digitOfPlace_11 rfl (lv_at hl 1 rfl) ?_
  refine mv_bipush B dX1_digitOfPlace_12 (by decide) ?_
  refine mv_irem B dX1_digitOfPlace_14 (by omega) ?_
  rw [e2]
  refine mv_tab B hI hV1 (q % 6) (by omega) (by omega) (by decide) dX1_digitOfPlace_15 ?_
  refine mv_idiv B dX1_digitOfPlace_16 (by omega) ?_
  have dn : 0 ≤ pz g n (q / 6) / tn_ (q % 6) ∧ pz g n (q / 6) / tn_ (q % 6) ≤ pz g n (q / 6) := ⟨Int.ediv_nonneg pd.1 (by omega), Int.ediv_le_self _ pd.1⟩
  refine mv_bipush B dX1_digitOfPlace_17 (by decide) ?_
  refine mv_irem B dX1_digitOfPlace_19 (by omega) ?_
  exact mw_iret B hQ hrt hI ⟨by rw [t1, dig_at hz.2.1, q3], hf⟩ dX1_digitOfPlace_20
abbrev rm_X1_remainder : Room := { frames := 0, cells := 0, slots := 0, locals := 0 }
set_option maxHeartbeats 4000000 in
set_option maxRecDepth 100000 in
/-- remainder -/
theorem t_X1_remainder (l : Launch) (D : va_G) (kA : Nat → ClassId) (sz : Nat) (f0 : mw_M) {h r : Nat} {z m_ : Int} (hh : Rp (kA 0) f0 h r z) (hm : 1 ≤ m_ ∧ m_ ≤ 1152921504606846976) : mw_Ml l yX1_remainder (Cond.code yX1_remainder cX1_remainder 10 ((some .long)) :: gw) rm_X1_remainder D vwCl (tyL kA) st_S [.ref h, .long (lI (m_))] f0 sz (fun v f => v = lI (z % m_) ∧ f = f0) 0 0 := by
  refine mw_ofl (cc := cX1_remainder) (maxL := 10) (ret := (some .long)) (by decide) rfl (Nat.le_of_ble_eq_true rfl) ?_
  intro p e s m below meth c A ls Q hQ B hrt hnm hA hI hSt hl
  have hl : lv_has ls 10 [(0, .ref h), (1, .long (lI (m_)))] := hl
  obtain ⟨g, n, b, hh, hr, hz⟩ := hh
  obtain ⟨f, hI, hf⟩ : ∃ f, mw_I D vwCl A s s.heap [] f ∧ f = f0 := ⟨f0, hI, rfl⟩
  have hh1 : f h = some (wh r (n : Int) b) := by rw [hf]; exact hh
  have hr1 : f r = some (mw_ar (kA 0) 104 g) := by rw [hf]; exact hr
  have hn1 := hz.1
  have q1 := hz.b0
  have q3 := hz.nat
  obtain ⟨tb2, hZ2, hV2⟩ := hSt.2.1
  refine mv_lconst0 B dX1_remainder_0 ?_
  refine mv_lstore_n (lv' := [(3, .long (lI (0))), (0, .ref h), (1, .long (lI (m_)))]) B dX1_remainder_1 rfl hl (by decide) rfl (fun ls hl => ?_)
  refine mv_aload_n B dX1_remainder_2 rfl (lv_at hl 1 rfl) ?_
  refine ww_size B hI hh1 uin_X1 kw_25 dX1_remainder_3 ?_
  refine mv_iconst B dX1_remainder_6 ?_
  refine mv_isub B dX1_remainder_7 ?_
  refine mv_istore (lv' := [(5, .int (iI (((n : Int)) - (1)))), (3, .long (lI (0))), (0, .ref h), (1, .long (lI (m_)))]) B dX1_remainder_8 hl (by decide) rfl (fun ls hl => ?_)
  have loop : ∀ (μ : Nat) (j : Nat) (y t : Int) (ls : Array Slot), j < μ → y = (j : Int) - 1 → j ≤ n → t = wv g j (n - j) % m_ → lv_has ls 10 [(5, .int (iI (y))), (3, .long (lI (t))), (0, .ref h), (1, .long (lI (m_)))] → W p l e rm_X1_remainder s m ([.ref h, .long (lI (m_))] : List Value).toArray below meth c s.heap [] 0 0 Q (F0 m 10 ls []) := by
    intro μ
    induction μ with
    | zero => intro j y t ls hμ; exact absurd hμ (Nat.not_lt_zero _)
    | succ μ ih =>
      intro j y t ls hμ hy hj ht hl
      have t1 := Int.emod_nonneg (wv g j (n - j)) (show m_ ≠ 0 by omega)
      have t2 := Int.emod_lt_of_pos (wv g j (n - j)) (show 0 < m_ by omega)
      rw [← ht] at t1 t2
      refine mv_iload B dX1_remainder_10 (lv_at hl 0 rfl) ?_
      refine mv_if_lt (tgt := 75) B dX1_remainder_12 (by decide) (by omega) (fun hd0 => ?_) (fun hd0 => ?_)
      · obtain rfl : j = 0 := by omega
        rw [Nat.sub_zero, wv_all] at ht
        refine mv_aload_n B dX1_remainder_75 rfl (lv_at hl 2 rfl) ?_
        refine ww_below B hI hh1 uin_X1 kw_27 dX1_remainder_76 ?_
        refine mv_if_eq (tgt := 94) B dX1_remainder_79 (by decide) (by omega) (fun hd1 => ?_) (fun hd1 => ?_)
        · refine mv_lload_n B dX1_remainder_94 rfl (lv_at hl 1 rfl) ?_
          exact mw_lret B hQ hrt hI ⟨by rw [ht, show dv g n = z by omega], hf⟩ dX1_remainder_95
        · refine mv_lload_n B dX1_remainder_82 rfl (lv_at hl 1 rfl) ?_
          refine mv_lconst0 B dX1_remainder_83 ?_
          refine mv_lcmp_eq (tgt := 94) B dX1_remainder_84 dX1_remainder_85 (by decide) (by omega) (fun hd2 => ?_) (fun hd2 => ?_)
          · refine mv_lload_n B dX1_remainder_94 rfl (lv_at hl 1 rfl) ?_
            exact mw_lret B hQ hrt hI ⟨by rw [neg_mod0 (show z = -dv g n by omega) (by omega)]; rw [hd2], hf⟩ dX1_remainder_95
          · refine mv_lload_n B dX1_remainder_88 rfl (lv_at hl 3 rfl) ?_
            refine mv_lload_n B dX1_remainder_89 rfl (lv_at hl 1 rfl) ?_
            refine mv_lsub B dX1_remainder_90 ?_
            refine mv_goto (tgt := 95) B dX1_remainder_91 (by decide) ?_
            exact mw_lret B hQ hrt hI ⟨by rw [neg_mod1 (show z = -dv g n by omega) (by omega) (by omega), ht], hf⟩ dX1_remainder_95
      · obtain ⟨k, rfl⟩ : ∃ k, j = k + 1 := ⟨j - 1, by omega⟩
        have g1 := hz.2.1 k (by omega)
        refine mv_gets B hI hZ2 hSt.2.2.2.2 dX1_remainder_15 ?_
        refine mv_astore (lv' := [(6, .ref tb2), (5, .int (iI (y))), (3, .long (lI (t))), (0, .ref h), (1, .long (lI (m_)))]) B dX1_remainder_18 hl (by decide) rfl (fun ls hl => ?_)
        refine mv_aload B dX1_remainder_20 (lv_at hl 0 rfl) ?_
        refine mv_tlen B hI hV2 dX1_remainder_22 ?_
        refine mv_istore (lv' := [(7, .int (iI (((8 : Nat) : Int)))), (6, .ref tb2), (5, .int (iI (y))), (3, .long (lI (t))), (0, .ref h), (1, .long (lI (m_)))]) B dX1_remainder_23 hl (by decide) rfl (fun ls hl => ?_)
        refine mv_iconst B dX1_remainder_25 ?_
        refine mv_istore (lv' := [(8, .int (iI (0))), (7, .int (iI (((8 : Nat) : Int)))), (6, .ref tb2), (5, .int (iI (y))), (3, .long (lI (t))), (0, .ref h), (1, .long (lI (m_)))]) B dX1_remainder_26 hl (by decide) rfl (fun ls hl => ?_)
        have loop2 : ∀ (μ : Nat) (i : Nat) (u x : Int) (ls : Array Slot), 8 - i < μ → u = (i : Int) → i ≤ 8 → x = (t * fp_ i) % m_ → lv_has ls 10 [(8, .int (iI (u))), (3, .long (lI (x))), (7, .int (iI (((8 : Nat) : Int)))), (6, .ref tb2), (5, .int (iI (y))), (0, .ref h), (1, .long (lI (m_)))] → W p l e rm_X1_remainder s m ([.ref h, .long (lI (m_))] : List Value).toArray below meth c s.heap [] 0 0 Q (F0 m 28 ls []) := by
          intro μ
          induction μ with
          | zero => intro i u x ls hμ; exact absurd hμ (Nat.not_lt_zero _)
          | succ μ ih2 =>
            intro i u x ls hμ hu hi hx hl
            have x1 := Int.emod_nonneg (t * fp_ i) (show m_ ≠ 0 by omega)
            have x2 := Int.emod_lt_of_pos (t * fp_ i) (show 0 < m_ by omega)
            rw [← hx] at x1 x2
            refine mv_iload B dX1_remainder_28 (lv_at hl 0 rfl) ?_
            refine mv_iload B dX1_remainder_30 (lv_at hl 2 rfl) ?_
            refine mv_icmp_ge (tgt := 56) B dX1_remainder_32 (by decide) (by omega) (fun he0 => ?_) (fun he0 => ?_)
            · obtain rfl : i = 8 := by omega
              refine mv_lload_n B dX1_remainder_56 rfl (lv_at hl 1 rfl) ?_
              refine mv_aload_n B dX1_remainder_57 rfl (lv_at hl 5 rfl) ?_
              refine ww_parts B hI hh1 uin_X1 kw_23 dX1_remainder_58 ?_
              refine mv_iload B dX1_remainder_61 (lv_at hl 4 rfl) ?_
              refine mw_iald B hI 0 hr1 rfl (k) (by omega) (by omega) (by decide) dX1_remainder_63 ?_
              refine mv_i2l B dX1_remainder_64 (by omega) ?_
              refine mv_ladd B dX1_remainder_65 ?_
              refine mv_lload_n B dX1_remainder_66 rfl (lv_at hl 6 rfl) ?_
              refine mv_lrem B dX1_remainder_67 (by omega) ?_
              refine mv_lstore_n (lv' := [(3, .long (lI (((x) + (g (k))) % (m_)))), (8, .int (iI (u))), (7, .int (iI (((8 : Nat) : Int)))), (6, .ref tb2), (5, .int (iI (y))), (0, .ref h), (1, .long (lI (m_)))]) B dX1_remainder_68 rfl hl (by decide) rfl (fun ls hl => ?_)
              refine mv_iinc (k := 4) (lv' := [(5, .int (iI (y + (-1)))), (3, .long (lI (((x) + (g (k))) % (m_)))), (8, .int (iI (u))), (7, .int (iI (((8 : Nat) : Int)))), (6, .ref tb2), (0, .ref h), (1, .long (lI (m_)))]) B dX1_remainder_69 hl rfl (by decide) rfl (fun ls hl => ?_)
              refine mv_goto (tgt := 10) B dX1_remainder_72 (by decide) ?_
              refine ih k _ _ ls (by omega) (by omega) (by omega) ?_ (lv_sub hl [0, 1, 5, 6] rfl)
              rw [show n - k = (n - (k + 1)) + 1 by omega, wv_cons, hx, ht]
              exact mod_horner _ _ _
            · have c1 := fc_in i (by omega)
              have x3 : 0 ≤ x * fc_ i ∧ x * fc_ i ≤ 1152921504606846976 * 8 - 8 := mul_rng x1 (by omega) c1
              refine mv_aload B dX1_remainder_35 (lv_at hl 3 rfl) ?_
              refine mv_iload B dX1_remainder_37 (lv_at hl 0 rfl) ?_
              refine mv_tab B hI hV2 (i) (by omega) (by omega) (by decide) dX1_remainder_39 ?_
              refine mv_istore (lv' := [(9, .int (iI (fc_ (i)))), (8, .int (iI (u))), (3, .long (lI (x))), (7, .int (iI (((8 : Nat) : Int)))), (6, .ref tb2), (5, .int (iI (y))), (0, .ref h), (1, .long (lI (m_)))]) B dX1_remainder_40 hl (by decide) rfl (fun ls hl => ?_)
              refine mv_lload_n B dX1_remainder_42 rfl (lv_at hl 2 rfl) ?_
              refine mv_iload B dX1_remainder_43 (lv_at hl 0 rfl) ?_
              refine mv_i2l B dX1_remainder_45 (by omega) ?_
              refine mv_lmul B dX1_remainder_46 ?_
              refine mv_lload_n B dX1_remainder_47 rfl (lv_at hl 7 rfl) ?_
              refine mv_lrem B dX1_remainder_48 (by omega) ?_
              refine mv_lstore_n (lv' := [(3, .long (lI (((x) * (fc_ (i))) % (m_)))), (9, .int (iI (fc_ (i)))), (8, .int (iI (u))), (7, .int (iI (((8 : Nat) : Int)))), (6, .ref tb2), (5, .int (iI (y))), (0, .ref h), (1, .long (lI (m_)))]) B dX1_remainder_49 rfl hl (by decide) rfl (fun ls hl => ?_)
              refine mv_iinc (k := 2) (lv' := [(8, .int (iI (u + 1))), (3, .long (lI (((x) * (fc_ (i))) % (m_)))), (9, .int (iI (fc_ (i)))), (7, .int (iI (((8 : Nat) : Int)))), (6, .ref tb2), (5, .int (iI (y))), (0, .ref h), (1, .long (lI (m_)))]) B dX1_remainder_50 hl rfl (by decide) rfl (fun ls hl => ?_)
              refine mv_goto (tgt := 28) B dX1_remainder_53 (by decide) ?_
              refine ih2 (i + 1) _ _ ls (by omega) (by omega) (by omega) ?_ (lv_sub hl [0, 1, 3, 4, 5, 6, 7] rfl)
              rw [hx, fp_s]
              exact mod_mul _ _ _ _
        exact loop2 9 0 _ _ ls (by omega) rfl (by omega) (by rw [fp_0, Int.mul_one, Int.emod_eq_of_lt t1 t2]) (lv_sub hl [0, 4, 1, 2, 3, 5, 6] rfl)
  exact loop (n + 1) n _ _ ls (Nat.lt_succ_self n) rfl (Nat.le_refl n) (by rw [Nat.sub_self, wv_0]; simp) (lv_sub hl [0, 1, 2, 3] rfl)
end
section
/-! WHAT IS MADE -/
section ALLOC
variable {p : Program} {l : Launch} {e : Env} {R : Room} {s : State} {m : MethodId} {args : Array Value} {below : List Frame} {meth : Method} {c : Code} {H : Heap} {locs : List Loc} {cells slots : Nat} {Q : State → Prop}
variable {cc : ByteArray} {nL : Nat} {own : String} {Ts : List Cond} {pc : Nat} {ls : Array Slot} {rest : List Value} {D : va_G} {cl : List vw_C} {tys : List (ClassId × FieldType)} {A : Nat → Prop} {f : mw_M} {a : Nat} {index : Nat}
theorem mw_fresh {ws : va_W} {q : Nat} {e1 : va_E} (hR : mw_R f ws) (hD : va_D A (ws ++ [(q, e1)])) : f q = none := by
  cases hq : f q with
  | none => rfl
  | some e2 =>
    obtain ⟨k, hk⟩ := (hR q e2).mp hq
    have hlt : k < ws.length := (List.getElem?_eq_some_iff.mp hk).1
    have h1 : (ws ++ [(q, e1)])[k]? = some (q, e2) := by rw [List.getElem?_append_left hlt]; exact hk
    have h2 : (ws ++ [(q, e1)])[ws.length]? = some (q, e1) := by rw [List.getElem?_append_right (Nat.le_refl _), Nat.sub_self]; rfl
    have := hD.1 k ws.length _ _ h1 h2 rfl
    omega
theorem tys_last {U : State} {cA cB : ClassId} {ty : FieldType} {t0 : Nat} (hK : va_K D cl (tys ++ [(cA, ty)]) U) (ht : tys[t0]? = some (cB, ty)) : cA = cB := by
  have hlt : t0 < tys.length := (List.getElem?_eq_some_iff.mp ht).1
  have h1 := (hK.2 t0 (cB, ty) (by rw [List.getElem?_append_left hlt]; exact ht)).2
  have h2 := (hK.2 tys.length (cA, ty) (by rw [List.getElem?_append_right (Nat.le_refl _), Nat.sub_self]; rfl)).2
  cases ty with
  | object C =>
    obtain ⟨_, _, _, _, _, q1⟩ := h1
    obtain ⟨_, _, _, _, _, q2⟩ := h2
    exact Option.some.inj (q2.symm.trans q1)
  | _ => exact Option.some.inj (h2.symm.trans h1)
theorem mw_newi (B : mw_C p s m args meth c cc nL own Ts D cl tys) (hI : mw_I D cl A s H locs f) (hA : ∀ q, s.heap.size ≤ q → A q) (harr : Cond.arrayClass .int ∈ Ts) (t0 : Nat) {cI : ClassId} (ht : tys[t0]? = some (cI, .int)) {N : Nat} (hN : N ≤ 100000) (hcells : cells + 1 ≤ R.cells) (hslots : slots + N ≤ R.slots) (hdg : decode cc pc = .ok (.newarray .int, 2))
    (kk : ∀ (q : Nat) (H1 : Heap), f q = none → mw_I D cl A s H1 locs (mw_set f q (mw_ar cI N (fun _ => 0))) → W p l e R s m args below meth c H1 locs (cells + 1) (slots + N) Q (F0 m (pc + 2) ls (.ref q :: rest))) : W p l e R s m args below meth c H locs cells slots Q (F0 m pc ls (.int (iI (N : Int)) :: rest)) := by
  obtain ⟨ws, hP, hD, hS, hR⟩ := hI
  refine va_newa (atype := .int) (ty := .int) (N' := N) (a0 := (N, .inl (fun _ => iI 0))) B.1 B.2.1 (B.2.2.2.2.1 _ harr) rfl B.2.2.2.2.2.2 hP hD hS hA (fun cA => rfl) (iI_pos (by omega)) (iI_clamp (by omega)) ?_ hcells hslots hdg (fun q cA H1 hK1 hP1 hD1 hS1 => ?_)
  · show N * 4 ≤ 536870912; omega
  · have e1 := tys_last hK1 ht
    subst e1
    exact kk q H1 (mw_fresh hR hD1) ⟨_, hP1, hD1, hS1, hR.push hD1⟩
theorem mw_newl (B : mw_C p s m args meth c cc nL own Ts D cl tys) (hI : mw_I D cl A s H locs f) (hA : ∀ q, s.heap.size ≤ q → A q) (harr : Cond.arrayClass .long ∈ Ts) (t0 : Nat) {cI : ClassId} (ht : tys[t0]? = some (cI, .long)) {N : Nat} (hN : N ≤ 100000) (hcells : cells + 1 ≤ R.cells) (hslots : slots + N ≤ R.slots) (hdg : decode cc pc = .ok (.newarray .long, 2))
    (kk : ∀ (q : Nat) (H1 : Heap), f q = none → mw_I D cl A s H1 locs (mw_set f q (.inl (cI, N, .inr (.inl (fun _ => lI 0))))) → W p l e R s m args below meth c H1 locs (cells + 1) (slots + N) Q (F0 m (pc + 2) ls (.ref q :: rest))) : W p l e R s m args below meth c H locs cells slots Q (F0 m pc ls (.int (iI (N : Int)) :: rest)) := by
  obtain ⟨ws, hP, hD, hS, hR⟩ := hI
  refine va_newa (atype := .long) (ty := .long) (N' := N) (a0 := (N, .inr (.inl (fun _ => lI 0)))) B.1 B.2.1 (B.2.2.2.2.1 _ harr) rfl B.2.2.2.2.2.2 hP hD hS hA (fun cA => rfl) (iI_pos (by omega)) (iI_clamp (by omega)) ?_ hcells hslots hdg (fun q cA H1 hK1 hP1 hD1 hS1 => ?_)
  · show N * 8 ≤ 536870912; omega
  · have e1 := tys_last hK1 ht
    subst e1
    exact kk q H1 (mw_fresh hR hD1) ⟨_, hP1, hD1, hS1, hR.push hD1⟩
theorem mw_newq {C : String} (B : mw_C p s m args meth c cc nL own Ts D cl tys) (hI : mw_I D cl A s H locs f) (hA : ∀ q, s.heap.size ≤ q → A q) (hlink : Cond.classLink own index C ∈ Ts) (hover : va_AO C s) (t0 : Nat) {cI : ClassId} (ht : tys[t0]? = some (cI, .object C)) {N : Nat} (hN : N ≤ 100000) (hcells : cells + 1 ≤ R.cells) (hslots : slots + N ≤ R.slots) (hdg : decode cc pc = .ok (.anewarray index, 3))
    (kk : ∀ (q : Nat) (H1 : Heap), f q = none → mw_I D cl A s H1 locs (mw_set f q (mw_qr cI N (fun _ => none))) → W p l e R s m args below meth c H1 locs (cells + 1) (slots + N) Q (F0 m (pc + 3) ls (.ref q :: rest))) : W p l e R s m args below meth c H locs cells slots Q (F0 m pc ls (.int (iI (N : Int)) :: rest)) := by
  obtain ⟨ws, hP, hD, hS, hR⟩ := hI
  refine va_newq (N' := N) B.1 B.2.1 B.2.2.2.1 (B.2.2.2.2.1 _ hlink) hover B.2.2.2.2.2.2 hP hD hS hA (iI_pos (by omega)) (iI_clamp (by omega)) (by omega) hcells hslots hdg (fun q cA H1 hK1 hP1 hD1 hS1 => ?_)
  have e1 := tys_last hK1 ht
  subst e1
  exact kk q H1 (mw_fresh hR hD1) ⟨_, hP1, hD1, hS1, hR.push hD1⟩
theorem mw_new {C : String} {T : u_T} {N ci : Nat} (B : mw_C p s m args meth c cc nL own Ts D cl tys) (hI : mw_I D cl A s H locs f) (hA : ∀ q, s.heap.size ≤ q → A q) (hin : ∀ w ∈ u_ws C T N, w ∈ Ts) (ty : Nat → FieldType) (hty : ∀ k, k < N → parseFieldDescriptor (T k).2.2.1 = some (ty k)) (h1 : Cond.classLink own index C ∈ Ts) (h2 : Cond.instantiable C N ∈ Ts) (h3 : Cond.initialized C ∈ Ts) (hc : cl[ci]? = some (C, T, N)) (fs : List Value) (hfs : ∀ j, j < N → defaultValue (ty j) = vp_V fs j) (hcells : cells + 1 ≤ R.cells) (hslots : slots + N ≤ R.slots) (hdg : decode cc pc = .ok (.new index, 3))
    (kk : ∀ (q : Nat) (H1 : Heap), f q = none → mw_I D cl A s H1 locs (mw_set f q (.inr (ci, fs))) → W p l e R s m args below meth c H1 locs (cells + 1) (slots + N) Q (F0 m (pc + 3) ls (.ref q :: rest))) : W p l e R s m args below meth c H locs cells slots Q (F0 m pc ls rest) := by
  obtain ⟨ws, hP, hD, hS, hR⟩ := hI
  refine va_new (fs := fs) B.1 B.2.1 B.2.2.2.2.1 hin ty hty B.2.2.2.1 (B.2.2.2.2.1 _ h1) (B.2.2.2.2.1 _ h2) (B.2.2.2.2.1 _ h3) B.2.2.2.2.2.2 hP hD hS hA hc hfs hcells hslots hdg (fun q H1 hP1 hD1 hS1 => ?_)
  exact kk q H1 (mw_fresh hR hD1) ⟨_, hP1, hD1, hS1, hR.push hD1⟩
theorem mw_obj (B : mw_C p s m args meth c cc nL own Ts D cl tys) (hls : ls.size = nL) (h1 : Cond.methodLink own index objectInit ∈ Ts) (h2 : Cond.instanceMethod objectInit ∈ Ts) (h3 : Cond.code objectInit ⟨#[0xb1]⟩ 1 none ∈ Ts) (hfr : 1 ≤ R.frames) (hlo : (rest.map fun v => v.category).sum + 12 ≤ R.locals) (hdg : decode cc pc = .ok (.invokespecial index, 3)) (kk : W p l e R s m args below meth c H locs cells slots Q (F0 m (pc + 3) ls rest)) : W p l e R s m args below meth c H locs cells slots Q (F0 m pc ls (.ref a :: rest)) :=
  W.objInit B.1 B.2.1 B.2.2.2.1 (B.2.2.2.2.1 _ h1) (B.2.2.2.2.1 _ h2) (B.2.2.2.2.1 _ h3) rfl (by rw [B.2.2.1]; exact hls) rfl hdg hfr (by show 2 * 0 + _ + 12 ≤ _; omega) kk
/-- an object's field is put: what it holds, and that all else stays -/
theorem mw_put2 (B : mw_C p s m args meth c cc nL own Ts D cl tys) (hI : mw_I D cl A s H locs f) {C : String} {T : u_T} {N ci index : Nat} {fs : List Value} (ha : f a = some (.inr (ci, fs))) (hin : ∀ w ∈ u_ws C T N, w ∈ Ts) (ty0 : Nat → FieldType) (hty : ∀ k, k < N → parseFieldDescriptor (T k).2.2.1 = some (ty0 k)) (hnm : ∀ a, a < N → ∀ b, b < N → a ≠ b → (T a).2.1 ≠ (T b).2.1) (hc : cl[ci]? = some (C, T, N)) (k : Nat) (hk : k < N) (hl : Cond.fieldLink own index (T k).1 (T k).2.1 (T k).2.2.1 ∈ Ts) (hfin : (T k).2.2.2 = false) {v : Value} (hn : narrow (ty0 k) v = v) (hfit : fits (ty0 k) v = true) (hlen : k < fs.length) (hdg : decode cc pc = .ok (.putfield index, 3))
    (kk : ∀ (f1 : mw_M) (H1 : Heap) (locs1 : List Loc), f1 a = some (.inr (ci, fs.set k v)) → (∀ q, q ≠ a → f1 q = f q) → mw_I D cl A s H1 locs1 f1 → W p l e R s m args below meth c H1 locs1 cells slots Q (F0 m (pc + 3) ls rest)) : W p l e R s m args below meth c H locs cells slots Q (F0 m pc ls (v :: .ref a :: rest)) :=
  mw_put B hI ha hin ty0 hty hnm hc k hk hl hfin hn hfit hlen hdg (fun H1 locs1 h => kk _ H1 locs1 (mw_set_self _ _ _) (fun q hq => mw_set_ne _ _ hq) h)
theorem mw_putF2 (B : mw_C p s m args meth c cc nL own Ts D cl tys) (hI : mw_I D cl A s H locs f) {C : String} {T : u_T} {N ci index : Nat} {fs : List Value} (ha : f a = some (.inr (ci, fs))) (hin : ∀ w ∈ u_ws C T N, w ∈ Ts) (ty0 : Nat → FieldType) (hty : ∀ k, k < N → parseFieldDescriptor (T k).2.2.1 = some (ty0 k)) (hnm : ∀ a, a < N → ∀ b, b < N → a ≠ b → (T a).2.1 ≠ (T b).2.1) (hc : cl[ci]? = some (C, T, N)) (k : Nat) (hk : k < N) (hl : Cond.fieldLink own index (T k).1 (T k).2.1 (T k).2.2.1 ∈ Ts) (hfin : (T k).2.2.2 = true) (hin2 : meth.name = "<init>") (hdecl : (T k).1 = own) {v : Value} (hn : narrow (ty0 k) v = v) (hfit : fits (ty0 k) v = true) (hlen : k < fs.length) (hdg : decode cc pc = .ok (.putfield index, 3))
    (kk : ∀ (f1 : mw_M) (H1 : Heap) (locs1 : List Loc), f1 a = some (.inr (ci, fs.set k v)) → (∀ q, q ≠ a → f1 q = f q) → mw_I D cl A s H1 locs1 f1 → W p l e R s m args below meth c H1 locs1 cells slots Q (F0 m (pc + 3) ls rest)) : W p l e R s m args below meth c H locs cells slots Q (F0 m pc ls (v :: .ref a :: rest)) :=
  mw_putF B hI ha hin ty0 hty hnm hc k hk hl hfin hin2 hdecl hn hfit hlen hdg (fun H1 locs1 h => kk _ H1 locs1 (mw_set_self _ _ _) (fun q hq => mw_set_ne _ _ hq) h)
theorem lI_shr1 {x : Int} (h : 0 ≤ x ∧ x ≤ 4611686018427387903) : lI x >>> ((iI 1).toInt64 &&& 63) = lI (x / 2) := by
  apply Int64.toInt_inj.mp
  have hD : (((iI 1).toInt64 &&& 63).toBitVec.smod 64).toNat = 1 := by decide
  have e1 : (lI x >>> ((iI 1).toInt64 &&& 63)).toInt = (lI x).toInt >>> 1 := by
    rw [← hD]
    exact BitVec.toInt_sshiftRight ..
  rw [e1, Int.shiftRight_eq_div_pow, lI_toInt ⟨by omega, by omega⟩, lI_toInt ⟨by omega, by omega⟩]
  rfl
theorem mv_lshr1 {x : Int} (B : mw_C p s m args meth c cc nL own Ts D cl tys) (hdg : decode cc pc = .ok (.lshr, 1)) (h : 0 ≤ x ∧ x ≤ 4611686018427387903) (k : W p l e R s m args below meth c H locs cells slots Q (F0 m (pc + 1) ls (.long (lI (x / 2)) :: rest))) : W p l e R s m args below meth c H locs cells slots Q (F0 m pc ls (.int (iI 1) :: .long (lI x) :: rest)) := lv_lshr B.1 B.2.1 hdg (lI_shr1 h) k
end ALLOC
end
section
/-! pure rows for roots of leading parts -/
def bt_ : Nat → Int
  | 0 => 0
  | k + 1 => 2 ^ k
theorem p2_le {a b : Nat} (h : a ≤ b) : (2 : Int) ^ a ≤ 2 ^ b := by
  induction h with
  | refl => exact Int.le_refl _
  | step h ih =>
    rename_i k
    have e : (2 : Int) ^ (k + 1) = 2 ^ k * 2 := Int.pow_succ _ _
    have h2 : (0 : Int) < 2 ^ k := Int.pow_pos (by decide)
    show (2 : Int) ^ a ≤ 2 ^ (k + 1)
    omega
theorem bt_in (j : Nat) (hj : j ≤ 30) : 0 ≤ bt_ j ∧ bt_ j ≤ 536870912 ∧ (bt_ j ≤ 0 ↔ j = 0) := by
  rcases j with _ | k
  · exact ⟨by decide, by decide, by decide⟩
  · show 0 ≤ (2 : Int) ^ k ∧ (2 : Int) ^ k ≤ 536870912 ∧ ((2 : Int) ^ k ≤ 0 ↔ k + 1 = 0)
    have p0 : (0 : Int) < 2 ^ k := Int.pow_pos (by decide)
    have p1 : (2 : Int) ^ k ≤ 2 ^ 29 := p2_le (by omega)
    have p2 : (2 : Int) ^ 29 = 536870912 := by decide
    omega
theorem bt_half (k : Nat) : (2 : Int) ^ k / 2 = bt_ k := by
  rcases k with _ | k
  · rfl
  · show (2 : Int) ^ (k + 1) / 2 = 2 ^ k
    rw [Int.pow_succ]
    omega
theorem wSt.row {cI : ClassId} {f0 f f1 : mw_M} {h r : Nat} {g g1 : Nat → Int} {n b : Int} (hT : wSt cI f0 h r f g n b) (h1 : f1 r = some (mw_ar cI 104 g1)) (h2 : ∀ q, q ≠ r → f1 q = f q) : wSt cI f0 h r f1 g1 n b :=
  ⟨by rw [h2 h hT.ne]; exact hT.1, h1, fun q a1 a2 => by rw [h2 q a2]; exact hT.2.2 q a1 a2⟩
theorem lead_in {g : Nat → Int} {n ct : Nat} (h : cn g n) (hn : 1 ≤ n) (hct : ct = if n < 2 then 0 else (n - 2) / 2 * 2) : 0 ≤ wv g ct (n - ct) ∧ wv g ct (n - ct) < 1000000000000000000 := by
  have hle : ct ≤ n ∧ n - ct ≤ 3 := by
    by_cases q : n < 2
    · rw [if_pos q] at hct; omega
    · rw [if_neg q] at hct; omega
  have hd : dw g ct (n - ct) := fun i h1 h2 => h.2.1 i (by omega)
  have h1 := wv_nn hd
  have h2 := wv_lt hd
  have h3 := bp_le hle.2
  have h4 : (1000000 : Int) ^ 3 = 1000000000000000000 := by decide
  omega
theorem ab_row {g : Nat → Int} {k : Nat} {ab : Int} (hab : 0 ≤ ab ∧ ab < 1000000000000) (hz : ∀ i, i < k → g i = 0) : dg (upI (upI g k (ab % 1000000)) (k + 1) (ab / 1000000)) (k + 2) ∧ dv (upI (upI g k (ab % 1000000)) (k + 1) (ab / 1000000)) (k + 2) = ab * 1000000 ^ k := by
  have d0 : dg g k := fun i hi => by rw [hz i hi]; decide
  have v0 : dv g k = 0 := by rw [dv_trim (Nat.zero_le k) (fun i _ hi => hz i hi), dv_0]
  refine ⟨(d0.up_s (by omega)).up_s (by omega), ?_⟩
  rw [show k + 2 = (k + 1) + 1 from rfl, dv_up_s, dv_up_s, v0, bp_s]
  have e := Int.mul_ediv_add_emod ab 1000000
  generalize ab / 1000000 = q at e ⊢
  generalize ab % 1000000 = w at e ⊢
  rw [← e]
  grind
theorem sq_lt {a b : Int} (ha : 0 ≤ a) (hb : 0 ≤ b) (h : a * a < b * b) : a < b := by
  rcases Int.lt_or_le a b with q | q
  · exact q
  · have := Int.mul_le_mul q q hb ha
    omega
/-- the start is above the root, and right in three digits -/
theorem above_root {g : Nat → Int} {n ct : Nat} {z t u ab : Int} (h : cn g n) (hn : 1 ≤ n) (hn2 : n ≤ 50) (hct : ct = if n < 2 then 0 else (n - 2) / 2 * 2) (ht : t = wv g ct (n - ct)) (u0 : 0 ≤ u) (u1 : u * u ≤ t) (u2 : t < (u + 1) * (u + 1)) (hab : ab = u + 1) (hz : z = dv g n) : ab * 1000000 ^ (ct / 2) < 1000000 ^ 27 ∧ ∀ s, 0 ≤ s → s * s ≤ z → z < (s + 1) * (s + 1) → s < ab * 1000000 ^ (ct / 2) ∧ 1000 * (ab * 1000000 ^ (ct / 2) - s - 2) ≤ s := by
  have l1 := lead_in h hn hct
  rw [← ht] at l1
  have hev : ct = ct / 2 + ct / 2 ∧ ct ≤ n ∧ ct / 2 ≤ 24 := by
    by_cases q : n < 2
    · rw [if_pos q] at hct; omega
    · rw [if_neg q] at hct; omega
  obtain ⟨P, hP⟩ : ∃ P : Int, P = 1000000 ^ (ct / 2) := ⟨_, rfl⟩
  have hPP : (1000000 : Int) ^ ct = P * P := by rw [hP, ← bp_add, ← hev.1]
  have hP0 : 0 < P := by rw [hP]; exact bp_pos _
  have e1 : z = dv g ct + P * P * t := by
    rw [hz, ht, ← hPP, ← dv_wv]
    congr 1
    omega
  have d0 := dv_nn (h.2.1.sub hev.2.1)
  have d1 := dv_lt (h.2.1.sub hev.2.1)
  rw [hPP] at d1
  rw [← hP]
  have u9 : u < 1000000000 := by
    refine sq_lt u0 (by decide) ?_
    have : (1000000000 : Int) * 1000000000 = 1000000000000000000 := by decide
    omega
  refine ⟨?_, fun s s0 s1 s2 => ?_⟩
  · have a1 : ab * P ≤ 1000000000 * P := Int.mul_le_mul_of_nonneg_right (by omega) (by omega)
    have a2 : P ≤ 1000000 ^ 24 := by rw [hP]; exact bp_le hev.2.2
    have a3 : (1000000 : Int) ^ 27 = 1000000 ^ 24 * 1000000000000000000 := by decide
    have a4 : (0 : Int) < 1000000 ^ 24 := bp_pos 24
    omega
  · have hPn := Int.mul_nonneg (Int.le_of_lt hP0) (Int.le_of_lt hP0)
    have t1 : (t + 1) * (P * P) ≤ ((u + 1) * (u + 1)) * (P * P) := Int.mul_le_mul_of_nonneg_right (by omega) hPn
    have t2 : (t + 1) * (P * P) = P * P * t + P * P := by grind
    have t3 : ((u + 1) * (u + 1)) * (P * P) = (ab * P) * (ab * P) := by rw [hab]; grind
    have abn : 0 ≤ ab * P := Int.mul_nonneg (by omega) (by omega)
    refine ⟨sq_lt s0 abn (by omega), ?_⟩
    have t4 : (u * u) * (P * P) ≤ t * (P * P) := Int.mul_le_mul_of_nonneg_right u1 hPn
    have t5 : (u * u) * (P * P) = (u * P) * (u * P) := by grind
    have t6 : t * (P * P) = P * P * t := Int.mul_comm _ _
    have upn : 0 ≤ u * P := Int.mul_nonneg u0 (by omega)
    have t7 : u * P < s + 1 := sq_lt upn (by omega) (by omega)
    have t8 : ab * P = u * P + P := by rw [hab]; grind
    by_cases q : n < 2
    · have c0 : ct = 0 := by rw [if_pos q] at hct; exact hct
      have P1 : P = 1 := by rw [hP, c0]; rfl
      omega
    · have tb : 1000000 ≤ t := by
        rw [if_neg q] at hct
        obtain ⟨k, hk⟩ : ∃ k, n - ct = k + 1 := ⟨n - ct - 1, by omega⟩
        have k1 : 1 ≤ k := by omega
        have hd : dw g ct k := fun i h1 h2 => h.2.1 i (by omega)
        have w1 := wv_nn hd
        have w2 := h.2.2 (by omega)
        have w3 := h.2.1 (n - 1) (by omega)
        have w4 : 1 * 1000000 ^ k ≤ g (ct + k) * 1000000 ^ k := Int.mul_le_mul_of_nonneg_right (by rw [show ct + k = n - 1 by omega]; omega) (Int.le_of_lt (bp_pos k))
        have w5 := bp_le k1
        rw [ht, hk, wv_s]
        have w6 : (1000000 : Int) ^ 1 = 1000000 := by decide
        omega
      have u1000 : 1000 ≤ u := by
        have q9 : (1000 : Int) < u + 1 := sq_lt (a := 1000) (b := u + 1) (by decide) (by omega) (by omega)
        omega
      have f1 : 1000 * P ≤ u * P := Int.mul_le_mul_of_nonneg_right u1000 (by omega)
      omega
end
section
theorem dXA_fill_0 : decode cXA_fill 0 = .ok (.aload_n 0, 1) := by decide +kernel
theorem dXA_fill_1 : decode cXA_fill 1 = .ok (.arraylength, 1) := by decide +kernel
theorem dXA_fill_2 : decode cXA_fill 2 = .ok (.iload_n 1, 1) := by decide +kernel
theorem dXA_fill_3 : decode cXA_fill 3 = .ok (.iload_n 2, 1) := by decide +kernel
theorem dXA_fill_4 : decode cXA_fill 4 = .ok (.invokestatic 13, 3) := by decide +kernel
theorem dXA_fill_7 : decode cXA_fill 7 = .ok (.iload_n 1, 1) := by decide +kernel
theorem dXA_fill_8 : decode cXA_fill 8 = .ok (.istore 4, 2) := by decide +kernel
theorem dXA_fill_10 : decode cXA_fill 10 = .ok (.iload 4, 2) := by decide +kernel
theorem dXA_fill_12 : decode cXA_fill 12 = .ok (.iload_n 2, 1) := by decide +kernel
theorem dXA_fill_13 : decode cXA_fill 13 = .ok (.if_icmp .ge 14, 3) := by decide +kernel
theorem dXA_fill_16 : decode cXA_fill 16 = .ok (.aload_n 0, 1) := by decide +kernel
theorem dXA_fill_17 : decode cXA_fill 17 = .ok (.iload 4, 2) := by decide +kernel
theorem dXA_fill_19 : decode cXA_fill 19 = .ok (.iload_n 3, 1) := by decide +kernel
theorem dXA_fill_20 : decode cXA_fill 20 = .ok (.iastore, 1) := by decide +kernel
theorem dXA_fill_21 : decode cXA_fill 21 = .ok (.iinc 4 1, 3) := by decide +kernel
theorem dXA_fill_24 : decode cXA_fill 24 = .ok (.goto (-14), 3) := by decide +kernel
theorem dXA_fill_27 : decode cXA_fill 27 = .ok (.return_, 1) := by decide +kernel
theorem dXA_rangeCheck_0 : decode cXA_rangeCheck 0 = .ok (.iload_n 1, 1) := by decide +kernel
theorem dXA_rangeCheck_1 : decode cXA_rangeCheck 1 = .ok (.iload_n 2, 1) := by decide +kernel
theorem dXA_rangeCheck_2 : decode cXA_rangeCheck 2 = .ok (.if_icmp .le 44, 3) := by decide +kernel
theorem dXA_rangeCheck_5 : decode cXA_rangeCheck 5 = .ok (.new 43, 3) := by decide +kernel
theorem dXA_rangeCheck_8 : decode cXA_rangeCheck 8 = .ok (.dup, 1) := by decide +kernel
theorem dXA_rangeCheck_9 : decode cXA_rangeCheck 9 = .ok (.new 45, 3) := by decide +kernel
theorem dXA_rangeCheck_12 : decode cXA_rangeCheck 12 = .ok (.dup, 1) := by decide +kernel
theorem dXA_rangeCheck_13 : decode cXA_rangeCheck 13 = .ok (.invokespecial 47, 3) := by decide +kernel
theorem dXA_rangeCheck_16 : decode cXA_rangeCheck 16 = .ok (.ldc 48, 2) := by decide +kernel
theorem dXA_rangeCheck_18 : decode cXA_rangeCheck 18 = .ok (.invokevirtual 50, 3) := by decide +kernel
theorem dXA_rangeCheck_21 : decode cXA_rangeCheck 21 = .ok (.iload_n 1, 1) := by decide +kernel
theorem dXA_rangeCheck_22 : decode cXA_rangeCheck 22 = .ok (.invokevirtual 54, 3) := by decide +kernel
theorem dXA_rangeCheck_25 : decode cXA_rangeCheck 25 = .ok (.ldc 57, 2) := by decide +kernel
theorem dXA_rangeCheck_27 : decode cXA_rangeCheck 27 = .ok (.invokevirtual 50, 3) := by decide +kernel
theorem dXA_rangeCheck_30 : decode cXA_rangeCheck 30 = .ok (.iload_n 2, 1) := by decide +kernel
theorem dXA_rangeCheck_31 : decode cXA_rangeCheck 31 = .ok (.invokevirtual 54, 3) := by decide +kernel
theorem dXA_rangeCheck_34 : decode cXA_rangeCheck 34 = .ok (.ldc 59, 2) := by decide +kernel
theorem dXA_rangeCheck_36 : decode cXA_rangeCheck 36 = .ok (.invokevirtual 50, 3) := by decide +kernel
theorem dXA_rangeCheck_39 : decode cXA_rangeCheck 39 = .ok (.invokevirtual 61, 3) := by decide +kernel
theorem dXA_rangeCheck_42 : decode cXA_rangeCheck 42 = .ok (.invokespecial 65, 3) := by decide +kernel
theorem dXA_rangeCheck_45 : decode cXA_rangeCheck 45 = .ok (.athrow, 1) := by decide +kernel
theorem dXA_rangeCheck_46 : decode cXA_rangeCheck 46 = .ok (.iload_n 1, 1) := by decide +kernel
theorem dXA_rangeCheck_47 : decode cXA_rangeCheck 47 = .ok (.ifCond .ge 12, 3) := by decide +kernel
theorem dXA_rangeCheck_50 : decode cXA_rangeCheck 50 = .ok (.new 68, 3) := by decide +kernel
theorem dXA_rangeCheck_53 : decode cXA_rangeCheck 53 = .ok (.dup, 1) := by decide +kernel
theorem dXA_rangeCheck_54 : decode cXA_rangeCheck 54 = .ok (.iload_n 1, 1) := by decide +kernel
theorem dXA_rangeCheck_55 : decode cXA_rangeCheck 55 = .ok (.invokespecial 70, 3) := by decide +kernel
theorem dXA_rangeCheck_58 : decode cXA_rangeCheck 58 = .ok (.athrow, 1) := by decide +kernel
theorem dXA_rangeCheck_59 : decode cXA_rangeCheck 59 = .ok (.iload_n 2, 1) := by decide +kernel
theorem dXA_rangeCheck_60 : decode cXA_rangeCheck 60 = .ok (.iload_n 0, 1) := by decide +kernel
theorem dXA_rangeCheck_61 : decode cXA_rangeCheck 61 = .ok (.if_icmp .le 12, 3) := by decide +kernel
theorem dXA_rangeCheck_64 : decode cXA_rangeCheck 64 = .ok (.new 68, 3) := by decide +kernel
theorem dXA_rangeCheck_67 : decode cXA_rangeCheck 67 = .ok (.dup, 1) := by decide +kernel
theorem dXA_rangeCheck_68 : decode cXA_rangeCheck 68 = .ok (.iload_n 2, 1) := by decide +kernel
theorem dXA_rangeCheck_69 : decode cXA_rangeCheck 69 = .ok (.invokespecial 70, 3) := by decide +kernel
theorem dXA_rangeCheck_72 : decode cXA_rangeCheck 72 = .ok (.athrow, 1) := by decide +kernel
theorem dXA_rangeCheck_73 : decode cXA_rangeCheck 73 = .ok (.return_, 1) := by decide +kernel
theorem dX0_init_0 : decode cX0_init 0 = .ok (.aload_n 0, 1) := by decide +kernel
theorem dX0_init_1 : decode cX0_init 1 = .ok (.invokespecial 3, 3) := by decide +kernel
theorem dX0_init_4 : decode cX0_init 4 = .ok (.aload_n 0, 1) := by decide +kernel
theorem dX0_init_5 : decode cX0_init 5 = .ok (.new 9, 3) := by decide +kernel
theorem dX0_init_8 : decode cX0_init 8 = .ok (.dup, 1) := by decide +kernel
theorem dX0_init_9 : decode cX0_init 9 = .ok (.invokespecial 11, 3) := by decide +kernel
theorem dX0_init_12 : decode cX0_init 12 = .ok (.putfield 12, 3) := by decide +kernel
theorem dX0_init_15 : decode cX0_init 15 = .ok (.aload_n 0, 1) := by decide +kernel
theorem dX0_init_16 : decode cX0_init 16 = .ok (.new 9, 3) := by decide +kernel
theorem dX0_init_19 : decode cX0_init 19 = .ok (.dup, 1) := by decide +kernel
theorem dX0_init_20 : decode cX0_init 20 = .ok (.invokespecial 11, 3) := by decide +kernel
theorem dX0_init_23 : decode cX0_init 23 = .ok (.putfield 18, 3) := by decide +kernel
theorem dX0_init_26 : decode cX0_init 26 = .ok (.aload_n 0, 1) := by decide +kernel
theorem dX0_init_27 : decode cX0_init 27 = .ok (.new 9, 3) := by decide +kernel
theorem dX0_init_30 : decode cX0_init 30 = .ok (.dup, 1) := by decide +kernel
theorem dX0_init_31 : decode cX0_init 31 = .ok (.invokespecial 11, 3) := by decide +kernel
theorem dX0_init_34 : decode cX0_init 34 = .ok (.putfield 21, 3) := by decide +kernel
theorem dX0_init_37 : decode cX0_init 37 = .ok (.return_, 1) := by decide +kernel
theorem dX0_commonDivisor_0 : decode cX0_commonDivisor 0 = .ok (.aload_n 0, 1) := by decide +kernel
theorem dX0_commonDivisor_1 : decode cX0_commonDivisor 1 = .ok (.getfield 18, 3) := by decide +kernel
theorem dX0_commonDivisor_4 : decode cX0_commonDivisor 4 = .ok (.aload_n 1, 1) := by decide +kernel
theorem dX0_commonDivisor_5 : decode cX0_commonDivisor 5 = .ok (.invokevirtual 24, 3) := by decide +kernel
theorem dX0_commonDivisor_8 : decode cX0_commonDivisor 8 = .ok (.aload_n 0, 1) := by decide +kernel
theorem dX0_commonDivisor_9 : decode cX0_commonDivisor 9 = .ok (.getfield 21, 3) := by decide +kernel
theorem dX0_commonDivisor_12 : decode cX0_commonDivisor 12 = .ok (.aload_n 2, 1) := by decide +kernel
theorem dX0_commonDivisor_13 : decode cX0_commonDivisor 13 = .ok (.invokevirtual 24, 3) := by decide +kernel
theorem dX0_commonDivisor_16 : decode cX0_commonDivisor 16 = .ok (.aload_n 0, 1) := by decide +kernel
theorem dX0_commonDivisor_17 : decode cX0_commonDivisor 17 = .ok (.getfield 18, 3) := by decide +kernel
theorem dX0_commonDivisor_20 : decode cX0_commonDivisor 20 = .ok (.iconst 0, 1) := by decide +kernel
theorem dX0_commonDivisor_21 : decode cX0_commonDivisor 21 = .ok (.putfield 28, 3) := by decide +kernel
theorem dX0_commonDivisor_24 : decode cX0_commonDivisor 24 = .ok (.aload_n 0, 1) := by decide +kernel
theorem dX0_commonDivisor_25 : decode cX0_commonDivisor 25 = .ok (.getfield 21, 3) := by decide +kernel
theorem dX0_commonDivisor_28 : decode cX0_commonDivisor 28 = .ok (.iconst 0, 1) := by decide +kernel
theorem dX0_commonDivisor_29 : decode cX0_commonDivisor 29 = .ok (.putfield 28, 3) := by decide +kernel
theorem dX0_commonDivisor_32 : decode cX0_commonDivisor 32 = .ok (.aload_n 0, 1) := by decide +kernel
theorem dX0_commonDivisor_33 : decode cX0_commonDivisor 33 = .ok (.getfield 18, 3) := by decide +kernel
theorem dX0_commonDivisor_36 : decode cX0_commonDivisor 36 = .ok (.aload_n 0, 1) := by decide +kernel
theorem dX0_commonDivisor_37 : decode cX0_commonDivisor 37 = .ok (.getfield 21, 3) := by decide +kernel
theorem dX0_commonDivisor_40 : decode cX0_commonDivisor 40 = .ok (.invokevirtual 32, 3) := by decide +kernel
theorem dX0_commonDivisor_43 : decode cX0_commonDivisor 43 = .ok (.ifCond .ge 7, 3) := by decide +kernel
theorem dX0_commonDivisor_46 : decode cX0_commonDivisor 46 = .ok (.aload_n 0, 1) := by decide +kernel
theorem dX0_commonDivisor_47 : decode cX0_commonDivisor 47 = .ok (.invokevirtual 36, 3) := by decide +kernel
theorem dX0_commonDivisor_50 : decode cX0_commonDivisor 50 = .ok (.iconst 0, 1) := by decide +kernel
theorem dX0_commonDivisor_51 : decode cX0_commonDivisor 51 = .ok (.istore_n 3, 1) := by decide +kernel
theorem dX0_commonDivisor_52 : decode cX0_commonDivisor 52 = .ok (.iload_n 3, 1) := by decide +kernel
theorem dX0_commonDivisor_53 : decode cX0_commonDivisor 53 = .ok (.sipush 10000, 3) := by decide +kernel
theorem dX0_commonDivisor_56 : decode cX0_commonDivisor 56 = .ok (.if_icmp .ge 58, 3) := by decide +kernel
theorem dX0_commonDivisor_59 : decode cX0_commonDivisor 59 = .ok (.aload_n 0, 1) := by decide +kernel
theorem dX0_commonDivisor_60 : decode cX0_commonDivisor 60 = .ok (.getfield 21, 3) := by decide +kernel
theorem dX0_commonDivisor_63 : decode cX0_commonDivisor 63 = .ok (.invokevirtual 39, 3) := by decide +kernel
theorem dX0_commonDivisor_66 : decode cX0_commonDivisor 66 = .ok (.ifCond .ne 48, 3) := by decide +kernel
theorem dX0_commonDivisor_69 : decode cX0_commonDivisor 69 = .ok (.aload_n 0, 1) := by decide +kernel
theorem dX0_commonDivisor_70 : decode cX0_commonDivisor 70 = .ok (.invokevirtual 43, 3) := by decide +kernel
theorem dX0_commonDivisor_73 : decode cX0_commonDivisor 73 = .ok (.aload_n 0, 1) := by decide +kernel
theorem dX0_commonDivisor_74 : decode cX0_commonDivisor 74 = .ok (.getfield 46, 3) := by decide +kernel
theorem dX0_commonDivisor_77 : decode cX0_commonDivisor 77 = .ok (.lconst 0, 1) := by decide +kernel
theorem dX0_commonDivisor_78 : decode cX0_commonDivisor 78 = .ok (.lcmp, 1) := by decide +kernel
theorem dX0_commonDivisor_79 : decode cX0_commonDivisor 79 = .ok (.ifCond .ne 25, 3) := by decide +kernel
theorem dX0_commonDivisor_82 : decode cX0_commonDivisor 82 = .ok (.aload_n 0, 1) := by decide +kernel
theorem dX0_commonDivisor_83 : decode cX0_commonDivisor 83 = .ok (.getfield 18, 3) := by decide +kernel
theorem dX0_commonDivisor_86 : decode cX0_commonDivisor 86 = .ok (.aload_n 0, 1) := by decide +kernel
theorem dX0_commonDivisor_87 : decode cX0_commonDivisor 87 = .ok (.getfield 21, 3) := by decide +kernel
theorem dX0_commonDivisor_90 : decode cX0_commonDivisor 90 = .ok (.aload_n 0, 1) := by decide +kernel
theorem dX0_commonDivisor_91 : decode cX0_commonDivisor 91 = .ok (.getfield 12, 3) := by decide +kernel
theorem dX0_commonDivisor_94 : decode cX0_commonDivisor 94 = .ok (.invokevirtual 50, 3) := by decide +kernel
theorem dX0_commonDivisor_97 : decode cX0_commonDivisor 97 = .ok (.aload_n 0, 1) := by decide +kernel
theorem dX0_commonDivisor_98 : decode cX0_commonDivisor 98 = .ok (.invokevirtual 36, 3) := by decide +kernel
theorem dX0_commonDivisor_101 : decode cX0_commonDivisor 101 = .ok (.goto 7, 3) := by decide +kernel
theorem dX0_commonDivisor_104 : decode cX0_commonDivisor 104 = .ok (.aload_n 0, 1) := by decide +kernel
theorem dX0_commonDivisor_105 : decode cX0_commonDivisor 105 = .ok (.invokevirtual 54, 3) := by decide +kernel
theorem dX0_commonDivisor_108 : decode cX0_commonDivisor 108 = .ok (.iinc 3 1, 3) := by decide +kernel
theorem dX0_commonDivisor_111 : decode cX0_commonDivisor 111 = .ok (.goto (-59), 3) := by decide +kernel
theorem dX0_commonDivisor_114 : decode cX0_commonDivisor 114 = .ok (.aload_n 0, 1) := by decide +kernel
theorem dX0_commonDivisor_115 : decode cX0_commonDivisor 115 = .ok (.getfield 18, 3) := by decide +kernel
theorem dX0_commonDivisor_118 : decode cX0_commonDivisor 118 = .ok (.areturn, 1) := by decide +kernel
theorem dX0_change_0 : decode cX0_change 0 = .ok (.aload_n 0, 1) := by decide +kernel
theorem dX0_change_1 : decode cX0_change 1 = .ok (.getfield 18, 3) := by decide +kernel
theorem dX0_change_4 : decode cX0_change 4 = .ok (.astore_n 1, 1) := by decide +kernel
theorem dX0_change_5 : decode cX0_change 5 = .ok (.aload_n 0, 1) := by decide +kernel
theorem dX0_change_6 : decode cX0_change 6 = .ok (.aload_n 0, 1) := by decide +kernel
theorem dX0_change_7 : decode cX0_change 7 = .ok (.getfield 21, 3) := by decide +kernel
theorem dX0_change_10 : decode cX0_change 10 = .ok (.putfield 18, 3) := by decide +kernel
theorem dX0_change_13 : decode cX0_change 13 = .ok (.aload_n 0, 1) := by decide +kernel
theorem dX0_change_14 : decode cX0_change 14 = .ok (.aload_n 1, 1) := by decide +kernel
theorem dX0_change_15 : decode cX0_change 15 = .ok (.putfield 21, 3) := by decide +kernel
theorem dX0_change_18 : decode cX0_change 18 = .ok (.return_, 1) := by decide +kernel
theorem dX0_foretellSteps_0 : decode cX0_foretellSteps 0 = .ok (.aload_n 0, 1) := by decide +kernel
theorem dX0_foretellSteps_1 : decode cX0_foretellSteps 1 = .ok (.aload_n 0, 1) := by decide +kernel
theorem dX0_foretellSteps_2 : decode cX0_foretellSteps 2 = .ok (.getfield 18, 3) := by decide +kernel
theorem dX0_foretellSteps_5 : decode cX0_foretellSteps 5 = .ok (.invokevirtual 57, 3) := by decide +kernel
theorem dX0_foretellSteps_8 : decode cX0_foretellSteps 8 = .ok (.lstore_n 1, 1) := by decide +kernel
theorem dX0_foretellSteps_9 : decode cX0_foretellSteps 9 = .ok (.aload_n 0, 1) := by decide +kernel
theorem dX0_foretellSteps_10 : decode cX0_foretellSteps 10 = .ok (.aload_n 0, 1) := by decide +kernel
theorem dX0_foretellSteps_11 : decode cX0_foretellSteps 11 = .ok (.getfield 21, 3) := by decide +kernel
theorem dX0_foretellSteps_14 : decode cX0_foretellSteps 14 = .ok (.invokevirtual 57, 3) := by decide +kernel
theorem dX0_foretellSteps_17 : decode cX0_foretellSteps 17 = .ok (.lstore_n 3, 1) := by decide +kernel
theorem dX0_foretellSteps_18 : decode cX0_foretellSteps 18 = .ok (.aload_n 0, 1) := by decide +kernel
theorem dX0_foretellSteps_19 : decode cX0_foretellSteps 19 = .ok (.lconst 1, 1) := by decide +kernel
theorem dX0_foretellSteps_20 : decode cX0_foretellSteps 20 = .ok (.putfield 61, 3) := by decide +kernel
theorem dX0_foretellSteps_23 : decode cX0_foretellSteps 23 = .ok (.aload_n 0, 1) := by decide +kernel
theorem dX0_foretellSteps_24 : decode cX0_foretellSteps 24 = .ok (.lconst 0, 1) := by decide +kernel
theorem dX0_foretellSteps_25 : decode cX0_foretellSteps 25 = .ok (.putfield 46, 3) := by decide +kernel
theorem dX0_foretellSteps_28 : decode cX0_foretellSteps 28 = .ok (.aload_n 0, 1) := by decide +kernel
theorem dX0_foretellSteps_29 : decode cX0_foretellSteps 29 = .ok (.lconst 0, 1) := by decide +kernel
theorem dX0_foretellSteps_30 : decode cX0_foretellSteps 30 = .ok (.putfield 64, 3) := by decide +kernel
theorem dX0_foretellSteps_33 : decode cX0_foretellSteps 33 = .ok (.aload_n 0, 1) := by decide +kernel
theorem dX0_foretellSteps_34 : decode cX0_foretellSteps 34 = .ok (.lconst 1, 1) := by decide +kernel
theorem dX0_foretellSteps_35 : decode cX0_foretellSteps 35 = .ok (.putfield 67, 3) := by decide +kernel
theorem dX0_foretellSteps_38 : decode cX0_foretellSteps 38 = .ok (.iconst 0, 1) := by decide +kernel
theorem dX0_foretellSteps_39 : decode cX0_foretellSteps 39 = .ok (.istore 5, 2) := by decide +kernel
theorem dX0_foretellSteps_41 : decode cX0_foretellSteps 41 = .ok (.iload 5, 2) := by decide +kernel
theorem dX0_foretellSteps_43 : decode cX0_foretellSteps 43 = .ok (.bipush 64, 2) := by decide +kernel
theorem dX0_foretellSteps_45 : decode cX0_foretellSteps 45 = .ok (.if_icmp .ge 136, 3) := by decide +kernel
theorem dX0_foretellSteps_48 : decode cX0_foretellSteps 48 = .ok (.lload_n 3, 1) := by decide +kernel
theorem dX0_foretellSteps_49 : decode cX0_foretellSteps 49 = .ok (.aload_n 0, 1) := by decide +kernel
theorem dX0_foretellSteps_50 : decode cX0_foretellSteps 50 = .ok (.getfield 64, 3) := by decide +kernel
theorem dX0_foretellSteps_53 : decode cX0_foretellSteps 53 = .ok (.ladd, 1) := by decide +kernel
theorem dX0_foretellSteps_54 : decode cX0_foretellSteps 54 = .ok (.lstore 6, 2) := by decide +kernel
theorem dX0_foretellSteps_56 : decode cX0_foretellSteps 56 = .ok (.lload_n 3, 1) := by decide +kernel
theorem dX0_foretellSteps_57 : decode cX0_foretellSteps 57 = .ok (.aload_n 0, 1) := by decide +kernel
theorem dX0_foretellSteps_58 : decode cX0_foretellSteps 58 = .ok (.getfield 67, 3) := by decide +kernel
theorem dX0_foretellSteps_61 : decode cX0_foretellSteps 61 = .ok (.ladd, 1) := by decide +kernel
theorem dX0_foretellSteps_62 : decode cX0_foretellSteps 62 = .ok (.lstore 8, 2) := by decide +kernel
theorem dX0_foretellSteps_64 : decode cX0_foretellSteps 64 = .ok (.lload 6, 2) := by decide +kernel
theorem dX0_foretellSteps_66 : decode cX0_foretellSteps 66 = .ok (.lconst 0, 1) := by decide +kernel
theorem dX0_foretellSteps_67 : decode cX0_foretellSteps 67 = .ok (.lcmp, 1) := by decide +kernel
theorem dX0_foretellSteps_68 : decode cX0_foretellSteps 68 = .ok (.ifCond .le 10, 3) := by decide +kernel
theorem dX0_foretellSteps_71 : decode cX0_foretellSteps 71 = .ok (.lload 8, 2) := by decide +kernel
theorem dX0_foretellSteps_73 : decode cX0_foretellSteps 73 = .ok (.lconst 0, 1) := by decide +kernel
theorem dX0_foretellSteps_74 : decode cX0_foretellSteps 74 = .ok (.lcmp, 1) := by decide +kernel
theorem dX0_foretellSteps_75 : decode cX0_foretellSteps 75 = .ok (.ifCond .gt 4, 3) := by decide +kernel
theorem dX0_foretellSteps_78 : decode cX0_foretellSteps 78 = .ok (.return_, 1) := by decide +kernel
theorem dX0_foretellSteps_79 : decode cX0_foretellSteps 79 = .ok (.lload_n 1, 1) := by decide +kernel
theorem dX0_foretellSteps_80 : decode cX0_foretellSteps 80 = .ok (.aload_n 0, 1) := by decide +kernel
theorem dX0_foretellSteps_81 : decode cX0_foretellSteps 81 = .ok (.getfield 61, 3) := by decide +kernel
theorem dX0_foretellSteps_84 : decode cX0_foretellSteps 84 = .ok (.ladd, 1) := by decide +kernel
theorem dX0_foretellSteps_85 : decode cX0_foretellSteps 85 = .ok (.lload 6, 2) := by decide +kernel
theorem dX0_foretellSteps_87 : decode cX0_foretellSteps 87 = .ok (.ldiv, 1) := by decide +kernel
theorem dX0_foretellSteps_88 : decode cX0_foretellSteps 88 = .ok (.lstore 10, 2) := by decide +kernel
theorem dX0_foretellSteps_90 : decode cX0_foretellSteps 90 = .ok (.lload 10, 2) := by decide +kernel
theorem dX0_foretellSteps_92 : decode cX0_foretellSteps 92 = .ok (.lload_n 1, 1) := by decide +kernel
theorem dX0_foretellSteps_93 : decode cX0_foretellSteps 93 = .ok (.aload_n 0, 1) := by decide +kernel
theorem dX0_foretellSteps_94 : decode cX0_foretellSteps 94 = .ok (.getfield 46, 3) := by decide +kernel
theorem dX0_foretellSteps_97 : decode cX0_foretellSteps 97 = .ok (.ladd, 1) := by decide +kernel
theorem dX0_foretellSteps_98 : decode cX0_foretellSteps 98 = .ok (.lload 8, 2) := by decide +kernel
theorem dX0_foretellSteps_100 : decode cX0_foretellSteps 100 = .ok (.ldiv, 1) := by decide +kernel
theorem dX0_foretellSteps_101 : decode cX0_foretellSteps 101 = .ok (.lcmp, 1) := by decide +kernel
theorem dX0_foretellSteps_102 : decode cX0_foretellSteps 102 = .ok (.ifCond .eq 4, 3) := by decide +kernel
theorem dX0_foretellSteps_105 : decode cX0_foretellSteps 105 = .ok (.return_, 1) := by decide +kernel
theorem dX0_foretellSteps_106 : decode cX0_foretellSteps 106 = .ok (.lload_n 1, 1) := by decide +kernel
theorem dX0_foretellSteps_107 : decode cX0_foretellSteps 107 = .ok (.lload 10, 2) := by decide +kernel
theorem dX0_foretellSteps_109 : decode cX0_foretellSteps 109 = .ok (.lload_n 3, 1) := by decide +kernel
theorem dX0_foretellSteps_110 : decode cX0_foretellSteps 110 = .ok (.lmul, 1) := by decide +kernel
theorem dX0_foretellSteps_111 : decode cX0_foretellSteps 111 = .ok (.lsub, 1) := by decide +kernel
theorem dX0_foretellSteps_112 : decode cX0_foretellSteps 112 = .ok (.lstore 12, 2) := by decide +kernel
theorem dX0_foretellSteps_114 : decode cX0_foretellSteps 114 = .ok (.lload_n 3, 1) := by decide +kernel
theorem dX0_foretellSteps_115 : decode cX0_foretellSteps 115 = .ok (.lstore_n 1, 1) := by decide +kernel
theorem dX0_foretellSteps_116 : decode cX0_foretellSteps 116 = .ok (.lload 12, 2) := by decide +kernel
theorem dX0_foretellSteps_118 : decode cX0_foretellSteps 118 = .ok (.lstore_n 3, 1) := by decide +kernel
theorem dX0_foretellSteps_119 : decode cX0_foretellSteps 119 = .ok (.aload_n 0, 1) := by decide +kernel
theorem dX0_foretellSteps_120 : decode cX0_foretellSteps 120 = .ok (.getfield 61, 3) := by decide +kernel
theorem dX0_foretellSteps_123 : decode cX0_foretellSteps 123 = .ok (.lload 10, 2) := by decide +kernel
theorem dX0_foretellSteps_125 : decode cX0_foretellSteps 125 = .ok (.aload_n 0, 1) := by decide +kernel
theorem dX0_foretellSteps_126 : decode cX0_foretellSteps 126 = .ok (.getfield 64, 3) := by decide +kernel
theorem dX0_foretellSteps_129 : decode cX0_foretellSteps 129 = .ok (.lmul, 1) := by decide +kernel
theorem dX0_foretellSteps_130 : decode cX0_foretellSteps 130 = .ok (.lsub, 1) := by decide +kernel
theorem dX0_foretellSteps_131 : decode cX0_foretellSteps 131 = .ok (.lstore 12, 2) := by decide +kernel
theorem dX0_foretellSteps_133 : decode cX0_foretellSteps 133 = .ok (.aload_n 0, 1) := by decide +kernel
theorem dX0_foretellSteps_134 : decode cX0_foretellSteps 134 = .ok (.aload_n 0, 1) := by decide +kernel
theorem dX0_foretellSteps_135 : decode cX0_foretellSteps 135 = .ok (.getfield 64, 3) := by decide +kernel
theorem dX0_foretellSteps_138 : decode cX0_foretellSteps 138 = .ok (.putfield 61, 3) := by decide +kernel
theorem dX0_foretellSteps_141 : decode cX0_foretellSteps 141 = .ok (.aload_n 0, 1) := by decide +kernel
theorem dX0_foretellSteps_142 : decode cX0_foretellSteps 142 = .ok (.lload 12, 2) := by decide +kernel
theorem dX0_foretellSteps_144 : decode cX0_foretellSteps 144 = .ok (.putfield 64, 3) := by decide +kernel
theorem dX0_foretellSteps_147 : decode cX0_foretellSteps 147 = .ok (.aload_n 0, 1) := by decide +kernel
theorem dX0_foretellSteps_148 : decode cX0_foretellSteps 148 = .ok (.getfield 46, 3) := by decide +kernel
theorem dX0_foretellSteps_151 : decode cX0_foretellSteps 151 = .ok (.lload 10, 2) := by decide +kernel
theorem dX0_foretellSteps_153 : decode cX0_foretellSteps 153 = .ok (.aload_n 0, 1) := by decide +kernel
theorem dX0_foretellSteps_154 : decode cX0_foretellSteps 154 = .ok (.getfield 67, 3) := by decide +kernel
theorem dX0_foretellSteps_157 : decode cX0_foretellSteps 157 = .ok (.lmul, 1) := by decide +kernel
theorem dX0_foretellSteps_158 : decode cX0_foretellSteps 158 = .ok (.lsub, 1) := by decide +kernel
theorem dX0_foretellSteps_159 : decode cX0_foretellSteps 159 = .ok (.lstore 12, 2) := by decide +kernel
theorem dX0_foretellSteps_161 : decode cX0_foretellSteps 161 = .ok (.aload_n 0, 1) := by decide +kernel
theorem dX0_foretellSteps_162 : decode cX0_foretellSteps 162 = .ok (.aload_n 0, 1) := by decide +kernel
theorem dX0_foretellSteps_163 : decode cX0_foretellSteps 163 = .ok (.getfield 67, 3) := by decide +kernel
theorem dX0_foretellSteps_166 : decode cX0_foretellSteps 166 = .ok (.putfield 46, 3) := by decide +kernel
theorem dX0_foretellSteps_169 : decode cX0_foretellSteps 169 = .ok (.aload_n 0, 1) := by decide +kernel
theorem dX0_foretellSteps_170 : decode cX0_foretellSteps 170 = .ok (.lload 12, 2) := by decide +kernel
theorem dX0_foretellSteps_172 : decode cX0_foretellSteps 172 = .ok (.putfield 67, 3) := by decide +kernel
theorem dX0_foretellSteps_175 : decode cX0_foretellSteps 175 = .ok (.iinc 5 1, 3) := by decide +kernel
theorem dX0_foretellSteps_178 : decode cX0_foretellSteps 178 = .ok (.goto (-137), 3) := by decide +kernel
theorem dX0_foretellSteps_181 : decode cX0_foretellSteps 181 = .ok (.return_, 1) := by decide +kernel
theorem dX0_leadOfThree_0 : decode cX0_leadOfThree 0 = .ok (.aload_n 0, 1) := by decide +kernel
theorem dX0_leadOfThree_1 : decode cX0_leadOfThree 1 = .ok (.getfield 18, 3) := by decide +kernel
theorem dX0_leadOfThree_4 : decode cX0_leadOfThree 4 = .ok (.getfield 70, 3) := by decide +kernel
theorem dX0_leadOfThree_7 : decode cX0_leadOfThree 7 = .ok (.iconst 1, 1) := by decide +kernel
theorem dX0_leadOfThree_8 : decode cX0_leadOfThree 8 = .ok (.isub, 1) := by decide +kernel
theorem dX0_leadOfThree_9 : decode cX0_leadOfThree 9 = .ok (.istore_n 2, 1) := by decide +kernel
theorem dX0_leadOfThree_10 : decode cX0_leadOfThree 10 = .ok (.aload_n 1, 1) := by decide +kernel
theorem dX0_leadOfThree_11 : decode cX0_leadOfThree 11 = .ok (.iload_n 2, 1) := by decide +kernel
theorem dX0_leadOfThree_12 : decode cX0_leadOfThree 12 = .ok (.invokevirtual 74, 3) := by decide +kernel
theorem dX0_leadOfThree_15 : decode cX0_leadOfThree 15 = .ok (.i2l, 1) := by decide +kernel
theorem dX0_leadOfThree_16 : decode cX0_leadOfThree 16 = .ok (.ldc2_w 78, 3) := by decide +kernel
theorem dX0_leadOfThree_19 : decode cX0_leadOfThree 19 = .ok (.lmul, 1) := by decide +kernel
theorem dX0_leadOfThree_20 : decode cX0_leadOfThree 20 = .ok (.aload_n 1, 1) := by decide +kernel
theorem dX0_leadOfThree_21 : decode cX0_leadOfThree 21 = .ok (.iload_n 2, 1) := by decide +kernel
theorem dX0_leadOfThree_22 : decode cX0_leadOfThree 22 = .ok (.iconst 1, 1) := by decide +kernel
theorem dX0_leadOfThree_23 : decode cX0_leadOfThree 23 = .ok (.isub, 1) := by decide +kernel
theorem dX0_leadOfThree_24 : decode cX0_leadOfThree 24 = .ok (.invokevirtual 74, 3) := by decide +kernel
theorem dX0_leadOfThree_27 : decode cX0_leadOfThree 27 = .ok (.i2l, 1) := by decide +kernel
theorem dX0_leadOfThree_28 : decode cX0_leadOfThree 28 = .ok (.ladd, 1) := by decide +kernel
theorem dX0_leadOfThree_29 : decode cX0_leadOfThree 29 = .ok (.lstore_n 3, 1) := by decide +kernel
theorem dX0_leadOfThree_30 : decode cX0_leadOfThree 30 = .ok (.lload_n 3, 1) := by decide +kernel
theorem dX0_leadOfThree_31 : decode cX0_leadOfThree 31 = .ok (.ldc2_w 78, 3) := by decide +kernel
theorem dX0_leadOfThree_34 : decode cX0_leadOfThree 34 = .ok (.lmul, 1) := by decide +kernel
theorem dX0_leadOfThree_35 : decode cX0_leadOfThree 35 = .ok (.aload_n 1, 1) := by decide +kernel
theorem dX0_leadOfThree_36 : decode cX0_leadOfThree 36 = .ok (.iload_n 2, 1) := by decide +kernel
theorem dX0_leadOfThree_37 : decode cX0_leadOfThree 37 = .ok (.iconst 2, 1) := by decide +kernel
theorem dX0_leadOfThree_38 : decode cX0_leadOfThree 38 = .ok (.isub, 1) := by decide +kernel
theorem dX0_leadOfThree_39 : decode cX0_leadOfThree 39 = .ok (.invokevirtual 74, 3) := by decide +kernel
theorem dX0_leadOfThree_42 : decode cX0_leadOfThree 42 = .ok (.i2l, 1) := by decide +kernel
theorem dX0_leadOfThree_43 : decode cX0_leadOfThree 43 = .ok (.ladd, 1) := by decide +kernel
theorem dX0_leadOfThree_44 : decode cX0_leadOfThree 44 = .ok (.lreturn, 1) := by decide +kernel
theorem dX0_takeForetoldSteps_0 : decode cX0_takeForetoldSteps 0 = .ok (.aload_n 0, 1) := by decide +kernel
theorem dX0_takeForetoldSteps_1 : decode cX0_takeForetoldSteps 1 = .ok (.getfield 18, 3) := by decide +kernel
theorem dX0_takeForetoldSteps_4 : decode cX0_takeForetoldSteps 4 = .ok (.getfield 70, 3) := by decide +kernel
theorem dX0_takeForetoldSteps_7 : decode cX0_takeForetoldSteps 7 = .ok (.istore_n 1, 1) := by decide +kernel
theorem dX0_takeForetoldSteps_8 : decode cX0_takeForetoldSteps 8 = .ok (.aload_n 0, 1) := by decide +kernel
theorem dX0_takeForetoldSteps_9 : decode cX0_takeForetoldSteps 9 = .ok (.getfield 18, 3) := by decide +kernel
theorem dX0_takeForetoldSteps_12 : decode cX0_takeForetoldSteps 12 = .ok (.getfield 80, 3) := by decide +kernel
theorem dX0_takeForetoldSteps_15 : decode cX0_takeForetoldSteps 15 = .ok (.astore_n 2, 1) := by decide +kernel
theorem dX0_takeForetoldSteps_16 : decode cX0_takeForetoldSteps 16 = .ok (.aload_n 0, 1) := by decide +kernel
theorem dX0_takeForetoldSteps_17 : decode cX0_takeForetoldSteps 17 = .ok (.getfield 21, 3) := by decide +kernel
theorem dX0_takeForetoldSteps_20 : decode cX0_takeForetoldSteps 20 = .ok (.getfield 80, 3) := by decide +kernel
theorem dX0_takeForetoldSteps_23 : decode cX0_takeForetoldSteps 23 = .ok (.astore_n 3, 1) := by decide +kernel
theorem dX0_takeForetoldSteps_24 : decode cX0_takeForetoldSteps 24 = .ok (.lconst 0, 1) := by decide +kernel
theorem dX0_takeForetoldSteps_25 : decode cX0_takeForetoldSteps 25 = .ok (.lstore 4, 2) := by decide +kernel
theorem dX0_takeForetoldSteps_27 : decode cX0_takeForetoldSteps 27 = .ok (.lconst 0, 1) := by decide +kernel
theorem dX0_takeForetoldSteps_28 : decode cX0_takeForetoldSteps 28 = .ok (.lstore 6, 2) := by decide +kernel
theorem dX0_takeForetoldSteps_30 : decode cX0_takeForetoldSteps 30 = .ok (.aload_n 3, 1) := by decide +kernel
theorem dX0_takeForetoldSteps_31 : decode cX0_takeForetoldSteps 31 = .ok (.aload_n 0, 1) := by decide +kernel
theorem dX0_takeForetoldSteps_32 : decode cX0_takeForetoldSteps 32 = .ok (.getfield 21, 3) := by decide +kernel
theorem dX0_takeForetoldSteps_35 : decode cX0_takeForetoldSteps 35 = .ok (.getfield 70, 3) := by decide +kernel
theorem dX0_takeForetoldSteps_38 : decode cX0_takeForetoldSteps 38 = .ok (.iload_n 1, 1) := by decide +kernel
theorem dX0_takeForetoldSteps_39 : decode cX0_takeForetoldSteps 39 = .ok (.iconst 0, 1) := by decide +kernel
theorem dX0_takeForetoldSteps_40 : decode cX0_takeForetoldSteps 40 = .ok (.invokestatic 84, 3) := by decide +kernel
theorem dX0_takeForetoldSteps_43 : decode cX0_takeForetoldSteps 43 = .ok (.iconst 0, 1) := by decide +kernel
theorem dX0_takeForetoldSteps_44 : decode cX0_takeForetoldSteps 44 = .ok (.istore 8, 2) := by decide +kernel
theorem dX0_takeForetoldSteps_46 : decode cX0_takeForetoldSteps 46 = .ok (.iload 8, 2) := by decide +kernel
theorem dX0_takeForetoldSteps_48 : decode cX0_takeForetoldSteps 48 = .ok (.iload_n 1, 1) := by decide +kernel
theorem dX0_takeForetoldSteps_49 : decode cX0_takeForetoldSteps 49 = .ok (.if_icmp .ge 117, 3) := by decide +kernel
theorem dX0_takeForetoldSteps_52 : decode cX0_takeForetoldSteps 52 = .ok (.aload_n 2, 1) := by decide +kernel
theorem dX0_takeForetoldSteps_53 : decode cX0_takeForetoldSteps 53 = .ok (.iload 8, 2) := by decide +kernel
theorem dX0_takeForetoldSteps_55 : decode cX0_takeForetoldSteps 55 = .ok (.iaload, 1) := by decide +kernel
theorem dX0_takeForetoldSteps_56 : decode cX0_takeForetoldSteps 56 = .ok (.i2l, 1) := by decide +kernel
theorem dX0_takeForetoldSteps_57 : decode cX0_takeForetoldSteps 57 = .ok (.lstore 9, 2) := by decide +kernel
theorem dX0_takeForetoldSteps_59 : decode cX0_takeForetoldSteps 59 = .ok (.aload_n 3, 1) := by decide +kernel
theorem dX0_takeForetoldSteps_60 : decode cX0_takeForetoldSteps 60 = .ok (.iload 8, 2) := by decide +kernel
theorem dX0_takeForetoldSteps_62 : decode cX0_takeForetoldSteps 62 = .ok (.iaload, 1) := by decide +kernel
theorem dX0_takeForetoldSteps_63 : decode cX0_takeForetoldSteps 63 = .ok (.i2l, 1) := by decide +kernel
theorem dX0_takeForetoldSteps_64 : decode cX0_takeForetoldSteps 64 = .ok (.lstore 11, 2) := by decide +kernel
theorem dX0_takeForetoldSteps_66 : decode cX0_takeForetoldSteps 66 = .ok (.aload_n 0, 1) := by decide +kernel
theorem dX0_takeForetoldSteps_67 : decode cX0_takeForetoldSteps 67 = .ok (.getfield 61, 3) := by decide +kernel
theorem dX0_takeForetoldSteps_70 : decode cX0_takeForetoldSteps 70 = .ok (.lload 9, 2) := by decide +kernel
theorem dX0_takeForetoldSteps_72 : decode cX0_takeForetoldSteps 72 = .ok (.lmul, 1) := by decide +kernel
theorem dX0_takeForetoldSteps_73 : decode cX0_takeForetoldSteps 73 = .ok (.aload_n 0, 1) := by decide +kernel
theorem dX0_takeForetoldSteps_74 : decode cX0_takeForetoldSteps 74 = .ok (.getfield 46, 3) := by decide +kernel
theorem dX0_takeForetoldSteps_77 : decode cX0_takeForetoldSteps 77 = .ok (.lload 11, 2) := by decide +kernel
theorem dX0_takeForetoldSteps_79 : decode cX0_takeForetoldSteps 79 = .ok (.lmul, 1) := by decide +kernel
theorem dX0_takeForetoldSteps_80 : decode cX0_takeForetoldSteps 80 = .ok (.ladd, 1) := by decide +kernel
theorem dX0_takeForetoldSteps_81 : decode cX0_takeForetoldSteps 81 = .ok (.lload 4, 2) := by decide +kernel
theorem dX0_takeForetoldSteps_83 : decode cX0_takeForetoldSteps 83 = .ok (.ladd, 1) := by decide +kernel
theorem dX0_takeForetoldSteps_84 : decode cX0_takeForetoldSteps 84 = .ok (.ldc2_w 90, 3) := by decide +kernel
theorem dX0_takeForetoldSteps_87 : decode cX0_takeForetoldSteps 87 = .ok (.ladd, 1) := by decide +kernel
theorem dX0_takeForetoldSteps_88 : decode cX0_takeForetoldSteps 88 = .ok (.lstore 13, 2) := by decide +kernel
theorem dX0_takeForetoldSteps_90 : decode cX0_takeForetoldSteps 90 = .ok (.aload_n 0, 1) := by decide +kernel
theorem dX0_takeForetoldSteps_91 : decode cX0_takeForetoldSteps 91 = .ok (.getfield 64, 3) := by decide +kernel
theorem dX0_takeForetoldSteps_94 : decode cX0_takeForetoldSteps 94 = .ok (.lload 9, 2) := by decide +kernel
theorem dX0_takeForetoldSteps_96 : decode cX0_takeForetoldSteps 96 = .ok (.lmul, 1) := by decide +kernel
theorem dX0_takeForetoldSteps_97 : decode cX0_takeForetoldSteps 97 = .ok (.aload_n 0, 1) := by decide +kernel
theorem dX0_takeForetoldSteps_98 : decode cX0_takeForetoldSteps 98 = .ok (.getfield 67, 3) := by decide +kernel
theorem dX0_takeForetoldSteps_101 : decode cX0_takeForetoldSteps 101 = .ok (.lload 11, 2) := by decide +kernel
theorem dX0_takeForetoldSteps_103 : decode cX0_takeForetoldSteps 103 = .ok (.lmul, 1) := by decide +kernel
theorem dX0_takeForetoldSteps_104 : decode cX0_takeForetoldSteps 104 = .ok (.ladd, 1) := by decide +kernel
theorem dX0_takeForetoldSteps_105 : decode cX0_takeForetoldSteps 105 = .ok (.lload 6, 2) := by decide +kernel
theorem dX0_takeForetoldSteps_107 : decode cX0_takeForetoldSteps 107 = .ok (.ladd, 1) := by decide +kernel
theorem dX0_takeForetoldSteps_108 : decode cX0_takeForetoldSteps 108 = .ok (.ldc2_w 90, 3) := by decide +kernel
theorem dX0_takeForetoldSteps_111 : decode cX0_takeForetoldSteps 111 = .ok (.ladd, 1) := by decide +kernel
theorem dX0_takeForetoldSteps_112 : decode cX0_takeForetoldSteps 112 = .ok (.lstore 15, 2) := by decide +kernel
theorem dX0_takeForetoldSteps_114 : decode cX0_takeForetoldSteps 114 = .ok (.lload 13, 2) := by decide +kernel
theorem dX0_takeForetoldSteps_116 : decode cX0_takeForetoldSteps 116 = .ok (.ldc2_w 78, 3) := by decide +kernel
theorem dX0_takeForetoldSteps_119 : decode cX0_takeForetoldSteps 119 = .ok (.ldiv, 1) := by decide +kernel
theorem dX0_takeForetoldSteps_120 : decode cX0_takeForetoldSteps 120 = .ok (.ldc2_w 92, 3) := by decide +kernel
theorem dX0_takeForetoldSteps_123 : decode cX0_takeForetoldSteps 123 = .ok (.lsub, 1) := by decide +kernel
theorem dX0_takeForetoldSteps_124 : decode cX0_takeForetoldSteps 124 = .ok (.lstore 4, 2) := by decide +kernel
theorem dX0_takeForetoldSteps_126 : decode cX0_takeForetoldSteps 126 = .ok (.lload 15, 2) := by decide +kernel
theorem dX0_takeForetoldSteps_128 : decode cX0_takeForetoldSteps 128 = .ok (.ldc2_w 78, 3) := by decide +kernel
theorem dX0_takeForetoldSteps_131 : decode cX0_takeForetoldSteps 131 = .ok (.ldiv, 1) := by decide +kernel
theorem dX0_takeForetoldSteps_132 : decode cX0_takeForetoldSteps 132 = .ok (.ldc2_w 92, 3) := by decide +kernel
theorem dX0_takeForetoldSteps_135 : decode cX0_takeForetoldSteps 135 = .ok (.lsub, 1) := by decide +kernel
theorem dX0_takeForetoldSteps_136 : decode cX0_takeForetoldSteps 136 = .ok (.lstore 6, 2) := by decide +kernel
theorem dX0_takeForetoldSteps_138 : decode cX0_takeForetoldSteps 138 = .ok (.aload_n 2, 1) := by decide +kernel
theorem dX0_takeForetoldSteps_139 : decode cX0_takeForetoldSteps 139 = .ok (.iload 8, 2) := by decide +kernel
theorem dX0_takeForetoldSteps_141 : decode cX0_takeForetoldSteps 141 = .ok (.lload 13, 2) := by decide +kernel
theorem dX0_takeForetoldSteps_143 : decode cX0_takeForetoldSteps 143 = .ok (.ldc2_w 78, 3) := by decide +kernel
theorem dX0_takeForetoldSteps_146 : decode cX0_takeForetoldSteps 146 = .ok (.lrem, 1) := by decide +kernel
theorem dX0_takeForetoldSteps_147 : decode cX0_takeForetoldSteps 147 = .ok (.l2i, 1) := by decide +kernel
theorem dX0_takeForetoldSteps_148 : decode cX0_takeForetoldSteps 148 = .ok (.iastore, 1) := by decide +kernel
theorem dX0_takeForetoldSteps_149 : decode cX0_takeForetoldSteps 149 = .ok (.aload_n 3, 1) := by decide +kernel
theorem dX0_takeForetoldSteps_150 : decode cX0_takeForetoldSteps 150 = .ok (.iload 8, 2) := by decide +kernel
theorem dX0_takeForetoldSteps_152 : decode cX0_takeForetoldSteps 152 = .ok (.lload 15, 2) := by decide +kernel
theorem dX0_takeForetoldSteps_154 : decode cX0_takeForetoldSteps 154 = .ok (.ldc2_w 78, 3) := by decide +kernel
theorem dX0_takeForetoldSteps_157 : decode cX0_takeForetoldSteps 157 = .ok (.lrem, 1) := by decide +kernel
theorem dX0_takeForetoldSteps_158 : decode cX0_takeForetoldSteps 158 = .ok (.l2i, 1) := by decide +kernel
theorem dX0_takeForetoldSteps_159 : decode cX0_takeForetoldSteps 159 = .ok (.iastore, 1) := by decide +kernel
theorem dX0_takeForetoldSteps_160 : decode cX0_takeForetoldSteps 160 = .ok (.iinc 8 1, 3) := by decide +kernel
theorem dX0_takeForetoldSteps_163 : decode cX0_takeForetoldSteps 163 = .ok (.goto (-117), 3) := by decide +kernel
theorem dX0_takeForetoldSteps_166 : decode cX0_takeForetoldSteps 166 = .ok (.aload_n 0, 1) := by decide +kernel
theorem dX0_takeForetoldSteps_167 : decode cX0_takeForetoldSteps 167 = .ok (.getfield 18, 3) := by decide +kernel
theorem dX0_takeForetoldSteps_170 : decode cX0_takeForetoldSteps 170 = .ok (.iload_n 1, 1) := by decide +kernel
theorem dX0_takeForetoldSteps_171 : decode cX0_takeForetoldSteps 171 = .ok (.invokevirtual 94, 3) := by decide +kernel
theorem dX0_takeForetoldSteps_174 : decode cX0_takeForetoldSteps 174 = .ok (.aload_n 0, 1) := by decide +kernel
theorem dX0_takeForetoldSteps_175 : decode cX0_takeForetoldSteps 175 = .ok (.getfield 21, 3) := by decide +kernel
theorem dX0_takeForetoldSteps_178 : decode cX0_takeForetoldSteps 178 = .ok (.iload_n 1, 1) := by decide +kernel
theorem dX0_takeForetoldSteps_179 : decode cX0_takeForetoldSteps 179 = .ok (.invokevirtual 94, 3) := by decide +kernel
theorem dX0_takeForetoldSteps_182 : decode cX0_takeForetoldSteps 182 = .ok (.return_, 1) := by decide +kernel
theorem dX2_init_0 : decode cX2_init 0 = .ok (.aload_n 0, 1) := by decide +kernel
theorem dX2_init_1 : decode cX2_init 1 = .ok (.invokespecial 1, 3) := by decide +kernel
theorem dX2_init_4 : decode cX2_init 4 = .ok (.aload_n 0, 1) := by decide +kernel
theorem dX2_init_5 : decode cX2_init 5 = .ok (.bipush 16, 2) := by decide +kernel
theorem dX2_init_7 : decode cX2_init 7 = .ok (.anewarray 9, 3) := by decide +kernel
theorem dX2_init_10 : decode cX2_init 10 = .ok (.putfield 11, 3) := by decide +kernel
theorem dX2_init_13 : decode cX2_init 13 = .ok (.iconst 0, 1) := by decide +kernel
theorem dX2_init_14 : decode cX2_init 14 = .ok (.istore_n 1, 1) := by decide +kernel
theorem dX2_init_15 : decode cX2_init 15 = .ok (.iload_n 1, 1) := by decide +kernel
theorem dX2_init_16 : decode cX2_init 16 = .ok (.bipush 16, 2) := by decide +kernel
theorem dX2_init_18 : decode cX2_init 18 = .ok (.if_icmp .ge 22, 3) := by decide +kernel
theorem dX2_init_21 : decode cX2_init 21 = .ok (.aload_n 0, 1) := by decide +kernel
theorem dX2_init_22 : decode cX2_init 22 = .ok (.getfield 11, 3) := by decide +kernel
theorem dX2_init_25 : decode cX2_init 25 = .ok (.iload_n 1, 1) := by decide +kernel
theorem dX2_init_26 : decode cX2_init 26 = .ok (.new 9, 3) := by decide +kernel
theorem dX2_init_29 : decode cX2_init 29 = .ok (.dup, 1) := by decide +kernel
theorem dX2_init_30 : decode cX2_init 30 = .ok (.invokespecial 15, 3) := by decide +kernel
theorem dX2_init_33 : decode cX2_init 33 = .ok (.aastore, 1) := by decide +kernel
theorem dX2_init_34 : decode cX2_init 34 = .ok (.iinc 1 1, 3) := by decide +kernel
theorem dX2_init_37 : decode cX2_init 37 = .ok (.goto (-22), 3) := by decide +kernel
theorem dX2_init_40 : decode cX2_init 40 = .ok (.aload_n 0, 1) := by decide +kernel
theorem dX2_init_41 : decode cX2_init 41 = .ok (.new 9, 3) := by decide +kernel
theorem dX2_init_44 : decode cX2_init 44 = .ok (.dup, 1) := by decide +kernel
theorem dX2_init_45 : decode cX2_init 45 = .ok (.invokespecial 15, 3) := by decide +kernel
theorem dX2_init_48 : decode cX2_init 48 = .ok (.putfield 16, 3) := by decide +kernel
theorem dX2_init_51 : decode cX2_init 51 = .ok (.aload_n 0, 1) := by decide +kernel
theorem dX2_init_52 : decode cX2_init 52 = .ok (.new 9, 3) := by decide +kernel
theorem dX2_init_55 : decode cX2_init 55 = .ok (.dup, 1) := by decide +kernel
theorem dX2_init_56 : decode cX2_init 56 = .ok (.invokespecial 15, 3) := by decide +kernel
theorem dX2_init_59 : decode cX2_init 59 = .ok (.putfield 20, 3) := by decide +kernel
theorem dX2_init_62 : decode cX2_init 62 = .ok (.aload_n 0, 1) := by decide +kernel
theorem dX2_init_63 : decode cX2_init 63 = .ok (.new 9, 3) := by decide +kernel
theorem dX2_init_66 : decode cX2_init 66 = .ok (.dup, 1) := by decide +kernel
theorem dX2_init_67 : decode cX2_init 67 = .ok (.invokespecial 15, 3) := by decide +kernel
theorem dX2_init_70 : decode cX2_init 70 = .ok (.putfield 23, 3) := by decide +kernel
theorem dX2_init_73 : decode cX2_init 73 = .ok (.aload_n 0, 1) := by decide +kernel
theorem dX2_init_74 : decode cX2_init 74 = .ok (.new 9, 3) := by decide +kernel
theorem dX2_init_77 : decode cX2_init 77 = .ok (.dup, 1) := by decide +kernel
theorem dX2_init_78 : decode cX2_init 78 = .ok (.invokespecial 15, 3) := by decide +kernel
theorem dX2_init_81 : decode cX2_init 81 = .ok (.putfield 26, 3) := by decide +kernel
theorem dX2_init_84 : decode cX2_init 84 = .ok (.aload_n 0, 1) := by decide +kernel
theorem dX2_init_85 : decode cX2_init 85 = .ok (.new 9, 3) := by decide +kernel
theorem dX2_init_88 : decode cX2_init 88 = .ok (.dup, 1) := by decide +kernel
theorem dX2_init_89 : decode cX2_init 89 = .ok (.invokespecial 15, 3) := by decide +kernel
theorem dX2_init_92 : decode cX2_init 92 = .ok (.putfield 29, 3) := by decide +kernel
theorem dX2_init_95 : decode cX2_init 95 = .ok (.aload_n 0, 1) := by decide +kernel
theorem dX2_init_96 : decode cX2_init 96 = .ok (.new 32, 3) := by decide +kernel
theorem dX2_init_99 : decode cX2_init 99 = .ok (.dup, 1) := by decide +kernel
theorem dX2_init_100 : decode cX2_init 100 = .ok (.invokespecial 34, 3) := by decide +kernel
theorem dX2_init_103 : decode cX2_init 103 = .ok (.putfield 35, 3) := by decide +kernel
theorem dX2_init_106 : decode cX2_init 106 = .ok (.return_, 1) := by decide +kernel
theorem dX2_set_0 : decode cX2_set 0 = .ok (.iload_n 1, 1) := by decide +kernel
theorem dX2_set_1 : decode cX2_set 1 = .ok (.invokestatic 39, 3) := by decide +kernel
theorem dX2_set_4 : decode cX2_set 4 = .ok (.ifCond .ne 5, 3) := by decide +kernel
theorem dX2_set_7 : decode cX2_set 7 = .ok (.iconst (-1), 1) := by decide +kernel
theorem dX2_set_8 : decode cX2_set 8 = .ok (.ireturn, 1) := by decide +kernel
theorem dX2_set_9 : decode cX2_set 9 = .ok (.aload_n 0, 1) := by decide +kernel
theorem dX2_set_10 : decode cX2_set 10 = .ok (.getfield 11, 3) := by decide +kernel
theorem dX2_set_13 : decode cX2_set 13 = .ok (.iload_n 1, 1) := by decide +kernel
theorem dX2_set_14 : decode cX2_set 14 = .ok (.aaload, 1) := by decide +kernel
theorem dX2_set_15 : decode cX2_set 15 = .ok (.lload_n 2, 1) := by decide +kernel
theorem dX2_set_16 : decode cX2_set 16 = .ok (.invokevirtual 43, 3) := by decide +kernel
theorem dX2_set_19 : decode cX2_set 19 = .ok (.iconst 1, 1) := by decide +kernel
theorem dX2_set_20 : decode cX2_set 20 = .ok (.ireturn, 1) := by decide +kernel
theorem dX2_digit_0 : decode cX2_digit 0 = .ok (.iload_n 1, 1) := by decide +kernel
theorem dX2_digit_1 : decode cX2_digit 1 = .ok (.invokestatic 39, 3) := by decide +kernel
theorem dX2_digit_4 : decode cX2_digit 4 = .ok (.ifCond .eq 13, 3) := by decide +kernel
theorem dX2_digit_7 : decode cX2_digit 7 = .ok (.iload_n 2, 1) := by decide +kernel
theorem dX2_digit_8 : decode cX2_digit 8 = .ok (.ifCond .lt 9, 3) := by decide +kernel
theorem dX2_digit_11 : decode cX2_digit 11 = .ok (.iload_n 2, 1) := by decide +kernel
theorem dX2_digit_12 : decode cX2_digit 12 = .ok (.bipush 9, 2) := by decide +kernel
theorem dX2_digit_14 : decode cX2_digit 14 = .ok (.if_icmp .le 5, 3) := by decide +kernel
theorem dX2_digit_17 : decode cX2_digit 17 = .ok (.iconst (-1), 1) := by decide +kernel
theorem dX2_digit_18 : decode cX2_digit 18 = .ok (.ireturn, 1) := by decide +kernel
theorem dX2_digit_19 : decode cX2_digit 19 = .ok (.aload_n 0, 1) := by decide +kernel
theorem dX2_digit_20 : decode cX2_digit 20 = .ok (.getfield 26, 3) := by decide +kernel
theorem dX2_digit_23 : decode cX2_digit 23 = .ok (.ldc2_w 47, 3) := by decide +kernel
theorem dX2_digit_26 : decode cX2_digit 26 = .ok (.invokevirtual 43, 3) := by decide +kernel
theorem dX2_digit_29 : decode cX2_digit 29 = .ok (.aload_n 0, 1) := by decide +kernel
theorem dX2_digit_30 : decode cX2_digit 30 = .ok (.getfield 23, 3) := by decide +kernel
theorem dX2_digit_33 : decode cX2_digit 33 = .ok (.aload_n 0, 1) := by decide +kernel
theorem dX2_digit_34 : decode cX2_digit 34 = .ok (.getfield 11, 3) := by decide +kernel
theorem dX2_digit_37 : decode cX2_digit 37 = .ok (.iload_n 1, 1) := by decide +kernel
theorem dX2_digit_38 : decode cX2_digit 38 = .ok (.aaload, 1) := by decide +kernel
theorem dX2_digit_39 : decode cX2_digit 39 = .ok (.aload_n 0, 1) := by decide +kernel
theorem dX2_digit_40 : decode cX2_digit 40 = .ok (.getfield 26, 3) := by decide +kernel
theorem dX2_digit_43 : decode cX2_digit 43 = .ok (.invokevirtual 49, 3) := by decide +kernel
theorem dX2_digit_46 : decode cX2_digit 46 = .ok (.aload_n 0, 1) := by decide +kernel
theorem dX2_digit_47 : decode cX2_digit 47 = .ok (.getfield 26, 3) := by decide +kernel
theorem dX2_digit_50 : decode cX2_digit 50 = .ok (.iload_n 2, 1) := by decide +kernel
theorem dX2_digit_51 : decode cX2_digit 51 = .ok (.i2l, 1) := by decide +kernel
theorem dX2_digit_52 : decode cX2_digit 52 = .ok (.invokevirtual 43, 3) := by decide +kernel
theorem dX2_digit_55 : decode cX2_digit 55 = .ok (.aload_n 0, 1) := by decide +kernel
theorem dX2_digit_56 : decode cX2_digit 56 = .ok (.getfield 16, 3) := by decide +kernel
theorem dX2_digit_59 : decode cX2_digit 59 = .ok (.aload_n 0, 1) := by decide +kernel
theorem dX2_digit_60 : decode cX2_digit 60 = .ok (.getfield 23, 3) := by decide +kernel
theorem dX2_digit_63 : decode cX2_digit 63 = .ok (.aload_n 0, 1) := by decide +kernel
theorem dX2_digit_64 : decode cX2_digit 64 = .ok (.getfield 26, 3) := by decide +kernel
theorem dX2_digit_67 : decode cX2_digit 67 = .ok (.iconst 0, 1) := by decide +kernel
theorem dX2_digit_68 : decode cX2_digit 68 = .ok (.invokevirtual 53, 3) := by decide +kernel
theorem dX2_digit_71 : decode cX2_digit 71 = .ok (.aload_n 0, 1) := by decide +kernel
theorem dX2_digit_72 : decode cX2_digit 72 = .ok (.aload_n 0, 1) := by decide +kernel
theorem dX2_digit_73 : decode cX2_digit 73 = .ok (.getfield 16, 3) := by decide +kernel
theorem dX2_digit_76 : decode cX2_digit 76 = .ok (.iload_n 1, 1) := by decide +kernel
theorem dX2_digit_77 : decode cX2_digit 77 = .ok (.invokevirtual 57, 3) := by decide +kernel
theorem dX2_digit_80 : decode cX2_digit 80 = .ok (.ireturn, 1) := by decide +kernel
theorem dX2_copy_0 : decode cX2_copy 0 = .ok (.iload_n 1, 1) := by decide +kernel
theorem dX2_copy_1 : decode cX2_copy 1 = .ok (.iload_n 2, 1) := by decide +kernel
theorem dX2_copy_2 : decode cX2_copy 2 = .ok (.invokestatic 61, 3) := by decide +kernel
theorem dX2_copy_5 : decode cX2_copy 5 = .ok (.ifCond .ne 5, 3) := by decide +kernel
theorem dX2_copy_8 : decode cX2_copy 8 = .ok (.iconst (-1), 1) := by decide +kernel
theorem dX2_copy_9 : decode cX2_copy 9 = .ok (.ireturn, 1) := by decide +kernel
theorem dX2_copy_10 : decode cX2_copy 10 = .ok (.aload_n 0, 1) := by decide +kernel
theorem dX2_copy_11 : decode cX2_copy 11 = .ok (.aload_n 0, 1) := by decide +kernel
theorem dX2_copy_12 : decode cX2_copy 12 = .ok (.getfield 11, 3) := by decide +kernel
theorem dX2_copy_15 : decode cX2_copy 15 = .ok (.iload_n 1, 1) := by decide +kernel
theorem dX2_copy_16 : decode cX2_copy 16 = .ok (.aaload, 1) := by decide +kernel
theorem dX2_copy_17 : decode cX2_copy 17 = .ok (.iload_n 2, 1) := by decide +kernel
theorem dX2_copy_18 : decode cX2_copy 18 = .ok (.invokevirtual 57, 3) := by decide +kernel
theorem dX2_copy_21 : decode cX2_copy 21 = .ok (.ireturn, 1) := by decide +kernel
theorem dX2_sum_0 : decode cX2_sum 0 = .ok (.aload_n 0, 1) := by decide +kernel
theorem dX2_sum_1 : decode cX2_sum 1 = .ok (.iload_n 1, 1) := by decide +kernel
theorem dX2_sum_2 : decode cX2_sum 2 = .ok (.iload_n 2, 1) := by decide +kernel
theorem dX2_sum_3 : decode cX2_sum 3 = .ok (.iload_n 3, 1) := by decide +kernel
theorem dX2_sum_4 : decode cX2_sum 4 = .ok (.iconst 0, 1) := by decide +kernel
theorem dX2_sum_5 : decode cX2_sum 5 = .ok (.invokevirtual 65, 3) := by decide +kernel
theorem dX2_sum_8 : decode cX2_sum 8 = .ok (.ireturn, 1) := by decide +kernel
theorem dX2_less_0 : decode cX2_less 0 = .ok (.aload_n 0, 1) := by decide +kernel
theorem dX2_less_1 : decode cX2_less 1 = .ok (.iload_n 1, 1) := by decide +kernel
theorem dX2_less_2 : decode cX2_less 2 = .ok (.iload_n 2, 1) := by decide +kernel
theorem dX2_less_3 : decode cX2_less 3 = .ok (.iload_n 3, 1) := by decide +kernel
theorem dX2_less_4 : decode cX2_less 4 = .ok (.iconst 1, 1) := by decide +kernel
theorem dX2_less_5 : decode cX2_less 5 = .ok (.invokevirtual 65, 3) := by decide +kernel
theorem dX2_less_8 : decode cX2_less 8 = .ok (.ireturn, 1) := by decide +kernel
theorem dX2_product_0 : decode cX2_product 0 = .ok (.iload_n 1, 1) := by decide +kernel
theorem dX2_product_1 : decode cX2_product 1 = .ok (.iload_n 2, 1) := by decide +kernel
theorem dX2_product_2 : decode cX2_product 2 = .ok (.invokestatic 61, 3) := by decide +kernel
theorem dX2_product_5 : decode cX2_product 5 = .ok (.ifCond .eq 10, 3) := by decide +kernel
theorem dX2_product_8 : decode cX2_product 8 = .ok (.iload_n 3, 1) := by decide +kernel
theorem dX2_product_9 : decode cX2_product 9 = .ok (.invokestatic 39, 3) := by decide +kernel
theorem dX2_product_12 : decode cX2_product 12 = .ok (.ifCond .ne 5, 3) := by decide +kernel
theorem dX2_product_15 : decode cX2_product 15 = .ok (.iconst (-1), 1) := by decide +kernel
theorem dX2_product_16 : decode cX2_product 16 = .ok (.ireturn, 1) := by decide +kernel
theorem dX2_product_17 : decode cX2_product 17 = .ok (.aload_n 0, 1) := by decide +kernel
theorem dX2_product_18 : decode cX2_product 18 = .ok (.getfield 16, 3) := by decide +kernel
theorem dX2_product_21 : decode cX2_product 21 = .ok (.aload_n 0, 1) := by decide +kernel
theorem dX2_product_22 : decode cX2_product 22 = .ok (.getfield 11, 3) := by decide +kernel
theorem dX2_product_25 : decode cX2_product 25 = .ok (.iload_n 1, 1) := by decide +kernel
theorem dX2_product_26 : decode cX2_product 26 = .ok (.aaload, 1) := by decide +kernel
theorem dX2_product_27 : decode cX2_product 27 = .ok (.aload_n 0, 1) := by decide +kernel
theorem dX2_product_28 : decode cX2_product 28 = .ok (.getfield 11, 3) := by decide +kernel
theorem dX2_product_31 : decode cX2_product 31 = .ok (.iload_n 2, 1) := by decide +kernel
theorem dX2_product_32 : decode cX2_product 32 = .ok (.aaload, 1) := by decide +kernel
theorem dX2_product_33 : decode cX2_product 33 = .ok (.invokevirtual 49, 3) := by decide +kernel
theorem dX2_product_36 : decode cX2_product 36 = .ok (.aload_n 0, 1) := by decide +kernel
theorem dX2_product_37 : decode cX2_product 37 = .ok (.aload_n 0, 1) := by decide +kernel
theorem dX2_product_38 : decode cX2_product 38 = .ok (.getfield 16, 3) := by decide +kernel
theorem dX2_product_41 : decode cX2_product 41 = .ok (.iload_n 3, 1) := by decide +kernel
theorem dX2_product_42 : decode cX2_product 42 = .ok (.invokevirtual 57, 3) := by decide +kernel
theorem dX2_product_45 : decode cX2_product 45 = .ok (.ireturn, 1) := by decide +kernel
theorem dX2_over_0 : decode cX2_over 0 = .ok (.iload_n 3, 1) := by decide +kernel
theorem dX2_over_1 : decode cX2_over 1 = .ok (.invokestatic 39, 3) := by decide +kernel
theorem dX2_over_4 : decode cX2_over 4 = .ok (.ifCond .eq 12, 3) := by decide +kernel
theorem dX2_over_7 : decode cX2_over 7 = .ok (.aload_n 0, 1) := by decide +kernel
theorem dX2_over_8 : decode cX2_over 8 = .ok (.iload_n 1, 1) := by decide +kernel
theorem dX2_over_9 : decode cX2_over 9 = .ok (.iload_n 2, 1) := by decide +kernel
theorem dX2_over_10 : decode cX2_over 10 = .ok (.invokevirtual 69, 3) := by decide +kernel
theorem dX2_over_13 : decode cX2_over 13 = .ok (.ifCond .ne 5, 3) := by decide +kernel
theorem dX2_over_16 : decode cX2_over 16 = .ok (.iconst (-1), 1) := by decide +kernel
theorem dX2_over_17 : decode cX2_over 17 = .ok (.ireturn, 1) := by decide +kernel
theorem dX2_over_18 : decode cX2_over 18 = .ok (.aload_n 0, 1) := by decide +kernel
theorem dX2_over_19 : decode cX2_over 19 = .ok (.aload_n 0, 1) := by decide +kernel
theorem dX2_over_20 : decode cX2_over 20 = .ok (.getfield 29, 3) := by decide +kernel
theorem dX2_over_23 : decode cX2_over 23 = .ok (.iload_n 3, 1) := by decide +kernel
theorem dX2_over_24 : decode cX2_over 24 = .ok (.invokevirtual 57, 3) := by decide +kernel
theorem dX2_over_27 : decode cX2_over 27 = .ok (.ireturn, 1) := by decide +kernel
theorem dX2_left_0 : decode cX2_left 0 = .ok (.iload_n 3, 1) := by decide +kernel
theorem dX2_left_1 : decode cX2_left 1 = .ok (.invokestatic 39, 3) := by decide +kernel
theorem dX2_left_4 : decode cX2_left 4 = .ok (.ifCond .eq 12, 3) := by decide +kernel
theorem dX2_left_7 : decode cX2_left 7 = .ok (.aload_n 0, 1) := by decide +kernel
theorem dX2_left_8 : decode cX2_left 8 = .ok (.iload_n 1, 1) := by decide +kernel
theorem dX2_left_9 : decode cX2_left 9 = .ok (.iload_n 2, 1) := by decide +kernel
theorem dX2_left_10 : decode cX2_left 10 = .ok (.invokevirtual 69, 3) := by decide +kernel
theorem dX2_left_13 : decode cX2_left 13 = .ok (.ifCond .ne 5, 3) := by decide +kernel
theorem dX2_left_16 : decode cX2_left 16 = .ok (.iconst (-1), 1) := by decide +kernel
theorem dX2_left_17 : decode cX2_left 17 = .ok (.ireturn, 1) := by decide +kernel
theorem dX2_left_18 : decode cX2_left 18 = .ok (.aload_n 0, 1) := by decide +kernel
theorem dX2_left_19 : decode cX2_left 19 = .ok (.aload_n 0, 1) := by decide +kernel
theorem dX2_left_20 : decode cX2_left 20 = .ok (.getfield 16, 3) := by decide +kernel
theorem dX2_left_23 : decode cX2_left 23 = .ok (.iload_n 3, 1) := by decide +kernel
theorem dX2_left_24 : decode cX2_left 24 = .ok (.invokevirtual 57, 3) := by decide +kernel
theorem dX2_left_27 : decode cX2_left 27 = .ok (.ireturn, 1) := by decide +kernel
theorem dX2_divisor_0 : decode cX2_divisor 0 = .ok (.iload_n 1, 1) := by decide +kernel
theorem dX2_divisor_1 : decode cX2_divisor 1 = .ok (.iload_n 2, 1) := by decide +kernel
theorem dX2_divisor_2 : decode cX2_divisor 2 = .ok (.invokestatic 61, 3) := by decide +kernel
theorem dX2_divisor_5 : decode cX2_divisor 5 = .ok (.ifCond .eq 10, 3) := by decide +kernel
theorem dX2_divisor_8 : decode cX2_divisor 8 = .ok (.iload_n 3, 1) := by decide +kernel
theorem dX2_divisor_9 : decode cX2_divisor 9 = .ok (.invokestatic 39, 3) := by decide +kernel
theorem dX2_divisor_12 : decode cX2_divisor 12 = .ok (.ifCond .ne 5, 3) := by decide +kernel
theorem dX2_divisor_15 : decode cX2_divisor 15 = .ok (.iconst (-1), 1) := by decide +kernel
theorem dX2_divisor_16 : decode cX2_divisor 16 = .ok (.ireturn, 1) := by decide +kernel
theorem dX2_divisor_17 : decode cX2_divisor 17 = .ok (.aload_n 0, 1) := by decide +kernel
theorem dX2_divisor_18 : decode cX2_divisor 18 = .ok (.aload_n 0, 1) := by decide +kernel
theorem dX2_divisor_19 : decode cX2_divisor 19 = .ok (.getfield 35, 3) := by decide +kernel
theorem dX2_divisor_22 : decode cX2_divisor 22 = .ok (.aload_n 0, 1) := by decide +kernel
theorem dX2_divisor_23 : decode cX2_divisor 23 = .ok (.getfield 11, 3) := by decide +kernel
theorem dX2_divisor_26 : decode cX2_divisor 26 = .ok (.iload_n 1, 1) := by decide +kernel
theorem dX2_divisor_27 : decode cX2_divisor 27 = .ok (.aaload, 1) := by decide +kernel
theorem dX2_divisor_28 : decode cX2_divisor 28 = .ok (.aload_n 0, 1) := by decide +kernel
theorem dX2_divisor_29 : decode cX2_divisor 29 = .ok (.getfield 11, 3) := by decide +kernel
theorem dX2_divisor_32 : decode cX2_divisor 32 = .ok (.iload_n 2, 1) := by decide +kernel
theorem dX2_divisor_33 : decode cX2_divisor 33 = .ok (.aaload, 1) := by decide +kernel
theorem dX2_divisor_34 : decode cX2_divisor 34 = .ok (.invokevirtual 72, 3) := by decide +kernel
theorem dX2_divisor_37 : decode cX2_divisor 37 = .ok (.iload_n 3, 1) := by decide +kernel
theorem dX2_divisor_38 : decode cX2_divisor 38 = .ok (.invokevirtual 57, 3) := by decide +kernel
theorem dX2_divisor_41 : decode cX2_divisor 41 = .ok (.ireturn, 1) := by decide +kernel
theorem dX2_root_0 : decode cX2_root 0 = .ok (.iload_n 1, 1) := by decide +kernel
theorem dX2_root_1 : decode cX2_root 1 = .ok (.iload_n 2, 1) := by decide +kernel
theorem dX2_root_2 : decode cX2_root 2 = .ok (.invokestatic 61, 3) := by decide +kernel
theorem dX2_root_5 : decode cX2_root 5 = .ok (.ifCond .eq 15, 3) := by decide +kernel
theorem dX2_root_8 : decode cX2_root 8 = .ok (.aload_n 0, 1) := by decide +kernel
theorem dX2_root_9 : decode cX2_root 9 = .ok (.getfield 11, 3) := by decide +kernel
theorem dX2_root_12 : decode cX2_root 12 = .ok (.iload_n 1, 1) := by decide +kernel
theorem dX2_root_13 : decode cX2_root 13 = .ok (.aaload, 1) := by decide +kernel
theorem dX2_root_14 : decode cX2_root 14 = .ok (.getfield 76, 3) := by decide +kernel
theorem dX2_root_17 : decode cX2_root 17 = .ok (.ifCond .eq 5, 3) := by decide +kernel
theorem dX2_root_20 : decode cX2_root 20 = .ok (.iconst (-1), 1) := by decide +kernel
theorem dX2_root_21 : decode cX2_root 21 = .ok (.ireturn, 1) := by decide +kernel
theorem dX2_root_22 : decode cX2_root 22 = .ok (.aload_n 0, 1) := by decide +kernel
theorem dX2_root_23 : decode cX2_root 23 = .ok (.aload_n 0, 1) := by decide +kernel
theorem dX2_root_24 : decode cX2_root 24 = .ok (.aload_n 0, 1) := by decide +kernel
theorem dX2_root_25 : decode cX2_root 25 = .ok (.getfield 11, 3) := by decide +kernel
theorem dX2_root_28 : decode cX2_root 28 = .ok (.iload_n 1, 1) := by decide +kernel
theorem dX2_root_29 : decode cX2_root 29 = .ok (.aaload, 1) := by decide +kernel
theorem dX2_root_30 : decode cX2_root 30 = .ok (.invokevirtual 80, 3) := by decide +kernel
theorem dX2_root_33 : decode cX2_root 33 = .ok (.iload_n 2, 1) := by decide +kernel
theorem dX2_root_34 : decode cX2_root 34 = .ok (.invokevirtual 57, 3) := by decide +kernel
theorem dX2_root_37 : decode cX2_root 37 = .ok (.ireturn, 1) := by decide +kernel
theorem dX2_power_0 : decode cX2_power 0 = .ok (.iload_n 1, 1) := by decide +kernel
theorem dX2_power_1 : decode cX2_power 1 = .ok (.iload_n 3, 1) := by decide +kernel
theorem dX2_power_2 : decode cX2_power 2 = .ok (.invokestatic 61, 3) := by decide +kernel
theorem dX2_power_5 : decode cX2_power 5 = .ok (.ifCond .eq 14, 3) := by decide +kernel
theorem dX2_power_8 : decode cX2_power 8 = .ok (.iload_n 2, 1) := by decide +kernel
theorem dX2_power_9 : decode cX2_power 9 = .ok (.ifCond .lt 10, 3) := by decide +kernel
theorem dX2_power_12 : decode cX2_power 12 = .ok (.iload_n 2, 1) := by decide +kernel
theorem dX2_power_13 : decode cX2_power 13 = .ok (.sipush 1000, 3) := by decide +kernel
theorem dX2_power_16 : decode cX2_power 16 = .ok (.if_icmp .le 5, 3) := by decide +kernel
theorem dX2_power_19 : decode cX2_power 19 = .ok (.iconst (-1), 1) := by decide +kernel
theorem dX2_power_20 : decode cX2_power 20 = .ok (.ireturn, 1) := by decide +kernel
theorem dX2_power_21 : decode cX2_power 21 = .ok (.aload_n 0, 1) := by decide +kernel
theorem dX2_power_22 : decode cX2_power 22 = .ok (.getfield 23, 3) := by decide +kernel
theorem dX2_power_25 : decode cX2_power 25 = .ok (.astore 4, 2) := by decide +kernel
theorem dX2_power_27 : decode cX2_power 27 = .ok (.aload_n 0, 1) := by decide +kernel
theorem dX2_power_28 : decode cX2_power 28 = .ok (.getfield 26, 3) := by decide +kernel
theorem dX2_power_31 : decode cX2_power 31 = .ok (.astore 5, 2) := by decide +kernel
theorem dX2_power_33 : decode cX2_power 33 = .ok (.aload 4, 2) := by decide +kernel
theorem dX2_power_35 : decode cX2_power 35 = .ok (.lconst 1, 1) := by decide +kernel
theorem dX2_power_36 : decode cX2_power 36 = .ok (.invokevirtual 43, 3) := by decide +kernel
theorem dX2_power_39 : decode cX2_power 39 = .ok (.sipush 512, 3) := by decide +kernel
theorem dX2_power_42 : decode cX2_power 42 = .ok (.istore 6, 2) := by decide +kernel
theorem dX2_power_44 : decode cX2_power 44 = .ok (.iload 6, 2) := by decide +kernel
theorem dX2_power_46 : decode cX2_power 46 = .ok (.ifCond .le 76, 3) := by decide +kernel
theorem dX2_power_49 : decode cX2_power 49 = .ok (.aload 5, 2) := by decide +kernel
theorem dX2_power_51 : decode cX2_power 51 = .ok (.aload 4, 2) := by decide +kernel
theorem dX2_power_53 : decode cX2_power 53 = .ok (.aload 4, 2) := by decide +kernel
theorem dX2_power_55 : decode cX2_power 55 = .ok (.invokevirtual 49, 3) := by decide +kernel
theorem dX2_power_58 : decode cX2_power 58 = .ok (.aload 5, 2) := by decide +kernel
theorem dX2_power_60 : decode cX2_power 60 = .ok (.invokevirtual 84, 3) := by decide +kernel
theorem dX2_power_63 : decode cX2_power 63 = .ok (.ifCond .eq 5, 3) := by decide +kernel
theorem dX2_power_66 : decode cX2_power 66 = .ok (.iconst (-1), 1) := by decide +kernel
theorem dX2_power_67 : decode cX2_power 67 = .ok (.ireturn, 1) := by decide +kernel
theorem dX2_power_68 : decode cX2_power 68 = .ok (.iload_n 2, 1) := by decide +kernel
theorem dX2_power_69 : decode cX2_power 69 = .ok (.iload 6, 2) := by decide +kernel
theorem dX2_power_71 : decode cX2_power 71 = .ok (.iand, 1) := by decide +kernel
theorem dX2_power_72 : decode cX2_power 72 = .ok (.ifCond .ne 18, 3) := by decide +kernel
theorem dX2_power_75 : decode cX2_power 75 = .ok (.aload 4, 2) := by decide +kernel
theorem dX2_power_77 : decode cX2_power 77 = .ok (.astore 7, 2) := by decide +kernel
theorem dX2_power_79 : decode cX2_power 79 = .ok (.aload 5, 2) := by decide +kernel
theorem dX2_power_81 : decode cX2_power 81 = .ok (.astore 4, 2) := by decide +kernel
theorem dX2_power_83 : decode cX2_power 83 = .ok (.aload 7, 2) := by decide +kernel
theorem dX2_power_85 : decode cX2_power 85 = .ok (.astore 5, 2) := by decide +kernel
theorem dX2_power_87 : decode cX2_power 87 = .ok (.goto 16, 3) := by decide +kernel
theorem dX2_power_90 : decode cX2_power 90 = .ok (.aload 4, 2) := by decide +kernel
theorem dX2_power_92 : decode cX2_power 92 = .ok (.aload 5, 2) := by decide +kernel
theorem dX2_power_94 : decode cX2_power 94 = .ok (.aload_n 0, 1) := by decide +kernel
theorem dX2_power_95 : decode cX2_power 95 = .ok (.getfield 11, 3) := by decide +kernel
theorem dX2_power_98 : decode cX2_power 98 = .ok (.iload_n 1, 1) := by decide +kernel
theorem dX2_power_99 : decode cX2_power 99 = .ok (.aaload, 1) := by decide +kernel
theorem dX2_power_100 : decode cX2_power 100 = .ok (.invokevirtual 49, 3) := by decide +kernel
theorem dX2_power_103 : decode cX2_power 103 = .ok (.aload 4, 2) := by decide +kernel
theorem dX2_power_105 : decode cX2_power 105 = .ok (.invokevirtual 84, 3) := by decide +kernel
theorem dX2_power_108 : decode cX2_power 108 = .ok (.ifCond .eq 5, 3) := by decide +kernel
theorem dX2_power_111 : decode cX2_power 111 = .ok (.iconst (-1), 1) := by decide +kernel
theorem dX2_power_112 : decode cX2_power 112 = .ok (.ireturn, 1) := by decide +kernel
theorem dX2_power_113 : decode cX2_power 113 = .ok (.iload 6, 2) := by decide +kernel
theorem dX2_power_115 : decode cX2_power 115 = .ok (.iconst 1, 1) := by decide +kernel
theorem dX2_power_116 : decode cX2_power 116 = .ok (.ishr, 1) := by decide +kernel
theorem dX2_power_117 : decode cX2_power 117 = .ok (.istore 6, 2) := by decide +kernel
theorem dX2_power_119 : decode cX2_power 119 = .ok (.goto (-75), 3) := by decide +kernel
theorem dX2_power_122 : decode cX2_power 122 = .ok (.aload_n 0, 1) := by decide +kernel
theorem dX2_power_123 : decode cX2_power 123 = .ok (.aload 4, 2) := by decide +kernel
theorem dX2_power_125 : decode cX2_power 125 = .ok (.iload_n 3, 1) := by decide +kernel
theorem dX2_power_126 : decode cX2_power 126 = .ok (.invokevirtual 57, 3) := by decide +kernel
theorem dX2_power_129 : decode cX2_power 129 = .ok (.ireturn, 1) := by decide +kernel
theorem dX2_lowest_0 : decode cX2_lowest 0 = .ok (.iload_n 1, 1) := by decide +kernel
theorem dX2_lowest_1 : decode cX2_lowest 1 = .ok (.iload_n 2, 1) := by decide +kernel
theorem dX2_lowest_2 : decode cX2_lowest 2 = .ok (.invokestatic 61, 3) := by decide +kernel
theorem dX2_lowest_5 : decode cX2_lowest 5 = .ok (.ifCond .eq 20, 3) := by decide +kernel
theorem dX2_lowest_8 : decode cX2_lowest 8 = .ok (.iload_n 1, 1) := by decide +kernel
theorem dX2_lowest_9 : decode cX2_lowest 9 = .ok (.iload_n 2, 1) := by decide +kernel
theorem dX2_lowest_10 : decode cX2_lowest 10 = .ok (.if_icmp .eq 15, 3) := by decide +kernel
theorem dX2_lowest_13 : decode cX2_lowest 13 = .ok (.aload_n 0, 1) := by decide +kernel
theorem dX2_lowest_14 : decode cX2_lowest 14 = .ok (.getfield 11, 3) := by decide +kernel
theorem dX2_lowest_17 : decode cX2_lowest 17 = .ok (.iload_n 2, 1) := by decide +kernel
theorem dX2_lowest_18 : decode cX2_lowest 18 = .ok (.aaload, 1) := by decide +kernel
theorem dX2_lowest_19 : decode cX2_lowest 19 = .ok (.invokevirtual 88, 3) := by decide +kernel
theorem dX2_lowest_22 : decode cX2_lowest 22 = .ok (.ifCond .eq 5, 3) := by decide +kernel
theorem dX2_lowest_25 : decode cX2_lowest 25 = .ok (.iconst (-1), 1) := by decide +kernel
theorem dX2_lowest_26 : decode cX2_lowest 26 = .ok (.ireturn, 1) := by decide +kernel
theorem dX2_lowest_27 : decode cX2_lowest 27 = .ok (.aload_n 0, 1) := by decide +kernel
theorem dX2_lowest_28 : decode cX2_lowest 28 = .ok (.getfield 16, 3) := by decide +kernel
theorem dX2_lowest_31 : decode cX2_lowest 31 = .ok (.aload_n 0, 1) := by decide +kernel
theorem dX2_lowest_32 : decode cX2_lowest 32 = .ok (.getfield 11, 3) := by decide +kernel
theorem dX2_lowest_35 : decode cX2_lowest 35 = .ok (.iload_n 1, 1) := by decide +kernel
theorem dX2_lowest_36 : decode cX2_lowest 36 = .ok (.aaload, 1) := by decide +kernel
theorem dX2_lowest_37 : decode cX2_lowest 37 = .ok (.invokevirtual 91, 3) := by decide +kernel
theorem dX2_lowest_40 : decode cX2_lowest 40 = .ok (.aload_n 0, 1) := by decide +kernel
theorem dX2_lowest_41 : decode cX2_lowest 41 = .ok (.getfield 20, 3) := by decide +kernel
theorem dX2_lowest_44 : decode cX2_lowest 44 = .ok (.aload_n 0, 1) := by decide +kernel
theorem dX2_lowest_45 : decode cX2_lowest 45 = .ok (.getfield 11, 3) := by decide +kernel
theorem dX2_lowest_48 : decode cX2_lowest 48 = .ok (.iload_n 2, 1) := by decide +kernel
theorem dX2_lowest_49 : decode cX2_lowest 49 = .ok (.aaload, 1) := by decide +kernel
theorem dX2_lowest_50 : decode cX2_lowest 50 = .ok (.invokevirtual 91, 3) := by decide +kernel
theorem dX2_lowest_53 : decode cX2_lowest 53 = .ok (.aload_n 0, 1) := by decide +kernel
theorem dX2_lowest_54 : decode cX2_lowest 54 = .ok (.iload_n 1, 1) := by decide +kernel
theorem dX2_lowest_55 : decode cX2_lowest 55 = .ok (.iload_n 2, 1) := by decide +kernel
theorem dX2_lowest_56 : decode cX2_lowest 56 = .ok (.invokevirtual 95, 3) := by decide +kernel
theorem dX2_lowest_59 : decode cX2_lowest 59 = .ok (.ireturn, 1) := by decide +kernel
theorem dX2_fraction_0 : decode cX2_fraction 0 = .ok (.aload_n 0, 1) := by decide +kernel
theorem dX2_fraction_1 : decode cX2_fraction 1 = .ok (.iload_n 1, 1) := by decide +kernel
theorem dX2_fraction_2 : decode cX2_fraction 2 = .ok (.iload_n 2, 1) := by decide +kernel
theorem dX2_fraction_3 : decode cX2_fraction 3 = .ok (.iload_n 3, 1) := by decide +kernel
theorem dX2_fraction_4 : decode cX2_fraction 4 = .ok (.iload 4, 2) := by decide +kernel
theorem dX2_fraction_6 : decode cX2_fraction 6 = .ok (.invokevirtual 99, 3) := by decide +kernel
theorem dX2_fraction_9 : decode cX2_fraction 9 = .ok (.ifCond .eq 8, 3) := by decide +kernel
theorem dX2_fraction_12 : decode cX2_fraction 12 = .ok (.iload_n 1, 1) := by decide +kernel
theorem dX2_fraction_13 : decode cX2_fraction 13 = .ok (.iload_n 2, 1) := by decide +kernel
theorem dX2_fraction_14 : decode cX2_fraction 14 = .ok (.if_icmp .ne 5, 3) := by decide +kernel
theorem dX2_fraction_17 : decode cX2_fraction 17 = .ok (.iconst (-1), 1) := by decide +kernel
theorem dX2_fraction_18 : decode cX2_fraction 18 = .ok (.ireturn, 1) := by decide +kernel
theorem dX2_fraction_19 : decode cX2_fraction 19 = .ok (.aload_n 0, 1) := by decide +kernel
theorem dX2_fraction_20 : decode cX2_fraction 20 = .ok (.getfield 23, 3) := by decide +kernel
theorem dX2_fraction_23 : decode cX2_fraction 23 = .ok (.aload_n 0, 1) := by decide +kernel
theorem dX2_fraction_24 : decode cX2_fraction 24 = .ok (.getfield 11, 3) := by decide +kernel
theorem dX2_fraction_27 : decode cX2_fraction 27 = .ok (.iload_n 1, 1) := by decide +kernel
theorem dX2_fraction_28 : decode cX2_fraction 28 = .ok (.aaload, 1) := by decide +kernel
theorem dX2_fraction_29 : decode cX2_fraction 29 = .ok (.aload_n 0, 1) := by decide +kernel
theorem dX2_fraction_30 : decode cX2_fraction 30 = .ok (.getfield 11, 3) := by decide +kernel
theorem dX2_fraction_33 : decode cX2_fraction 33 = .ok (.iload 4, 2) := by decide +kernel
theorem dX2_fraction_35 : decode cX2_fraction 35 = .ok (.aaload, 1) := by decide +kernel
theorem dX2_fraction_36 : decode cX2_fraction 36 = .ok (.invokevirtual 49, 3) := by decide +kernel
theorem dX2_fraction_39 : decode cX2_fraction 39 = .ok (.aload_n 0, 1) := by decide +kernel
theorem dX2_fraction_40 : decode cX2_fraction 40 = .ok (.getfield 26, 3) := by decide +kernel
theorem dX2_fraction_43 : decode cX2_fraction 43 = .ok (.aload_n 0, 1) := by decide +kernel
theorem dX2_fraction_44 : decode cX2_fraction 44 = .ok (.getfield 11, 3) := by decide +kernel
theorem dX2_fraction_47 : decode cX2_fraction 47 = .ok (.iload_n 3, 1) := by decide +kernel
theorem dX2_fraction_48 : decode cX2_fraction 48 = .ok (.aaload, 1) := by decide +kernel
theorem dX2_fraction_49 : decode cX2_fraction 49 = .ok (.aload_n 0, 1) := by decide +kernel
theorem dX2_fraction_50 : decode cX2_fraction 50 = .ok (.getfield 11, 3) := by decide +kernel
theorem dX2_fraction_53 : decode cX2_fraction 53 = .ok (.iload_n 2, 1) := by decide +kernel
theorem dX2_fraction_54 : decode cX2_fraction 54 = .ok (.aaload, 1) := by decide +kernel
theorem dX2_fraction_55 : decode cX2_fraction 55 = .ok (.invokevirtual 49, 3) := by decide +kernel
theorem dX2_fraction_58 : decode cX2_fraction 58 = .ok (.aload_n 0, 1) := by decide +kernel
theorem dX2_fraction_59 : decode cX2_fraction 59 = .ok (.getfield 16, 3) := by decide +kernel
theorem dX2_fraction_62 : decode cX2_fraction 62 = .ok (.aload_n 0, 1) := by decide +kernel
theorem dX2_fraction_63 : decode cX2_fraction 63 = .ok (.getfield 23, 3) := by decide +kernel
theorem dX2_fraction_66 : decode cX2_fraction 66 = .ok (.aload_n 0, 1) := by decide +kernel
theorem dX2_fraction_67 : decode cX2_fraction 67 = .ok (.getfield 26, 3) := by decide +kernel
theorem dX2_fraction_70 : decode cX2_fraction 70 = .ok (.iconst 0, 1) := by decide +kernel
theorem dX2_fraction_71 : decode cX2_fraction 71 = .ok (.invokevirtual 53, 3) := by decide +kernel
theorem dX2_fraction_74 : decode cX2_fraction 74 = .ok (.aload_n 0, 1) := by decide +kernel
theorem dX2_fraction_75 : decode cX2_fraction 75 = .ok (.getfield 20, 3) := by decide +kernel
theorem dX2_fraction_78 : decode cX2_fraction 78 = .ok (.aload_n 0, 1) := by decide +kernel
theorem dX2_fraction_79 : decode cX2_fraction 79 = .ok (.getfield 11, 3) := by decide +kernel
theorem dX2_fraction_82 : decode cX2_fraction 82 = .ok (.iload_n 2, 1) := by decide +kernel
theorem dX2_fraction_83 : decode cX2_fraction 83 = .ok (.aaload, 1) := by decide +kernel
theorem dX2_fraction_84 : decode cX2_fraction 84 = .ok (.aload_n 0, 1) := by decide +kernel
theorem dX2_fraction_85 : decode cX2_fraction 85 = .ok (.getfield 11, 3) := by decide +kernel
theorem dX2_fraction_88 : decode cX2_fraction 88 = .ok (.iload 4, 2) := by decide +kernel
theorem dX2_fraction_90 : decode cX2_fraction 90 = .ok (.aaload, 1) := by decide +kernel
theorem dX2_fraction_91 : decode cX2_fraction 91 = .ok (.invokevirtual 49, 3) := by decide +kernel
theorem dX2_fraction_94 : decode cX2_fraction 94 = .ok (.aload_n 0, 1) := by decide +kernel
theorem dX2_fraction_95 : decode cX2_fraction 95 = .ok (.iload_n 1, 1) := by decide +kernel
theorem dX2_fraction_96 : decode cX2_fraction 96 = .ok (.iload_n 2, 1) := by decide +kernel
theorem dX2_fraction_97 : decode cX2_fraction 97 = .ok (.invokevirtual 95, 3) := by decide +kernel
theorem dX2_fraction_100 : decode cX2_fraction 100 = .ok (.ireturn, 1) := by decide +kernel
theorem dX2_order_0 : decode cX2_order 0 = .ok (.iload_n 1, 1) := by decide +kernel
theorem dX2_order_1 : decode cX2_order 1 = .ok (.iload_n 2, 1) := by decide +kernel
theorem dX2_order_2 : decode cX2_order 2 = .ok (.invokestatic 61, 3) := by decide +kernel
theorem dX2_order_5 : decode cX2_order 5 = .ok (.ifCond .ne 5, 3) := by decide +kernel
theorem dX2_order_8 : decode cX2_order 8 = .ok (.iconst (-1), 1) := by decide +kernel
theorem dX2_order_9 : decode cX2_order 9 = .ok (.ireturn, 1) := by decide +kernel
theorem dX2_order_10 : decode cX2_order 10 = .ok (.iconst 1, 1) := by decide +kernel
theorem dX2_order_11 : decode cX2_order 11 = .ok (.aload_n 0, 1) := by decide +kernel
theorem dX2_order_12 : decode cX2_order 12 = .ok (.getfield 11, 3) := by decide +kernel
theorem dX2_order_15 : decode cX2_order 15 = .ok (.iload_n 1, 1) := by decide +kernel
theorem dX2_order_16 : decode cX2_order 16 = .ok (.aaload, 1) := by decide +kernel
theorem dX2_order_17 : decode cX2_order 17 = .ok (.aload_n 0, 1) := by decide +kernel
theorem dX2_order_18 : decode cX2_order 18 = .ok (.getfield 11, 3) := by decide +kernel
theorem dX2_order_21 : decode cX2_order 21 = .ok (.iload_n 2, 1) := by decide +kernel
theorem dX2_order_22 : decode cX2_order 22 = .ok (.aaload, 1) := by decide +kernel
theorem dX2_order_23 : decode cX2_order 23 = .ok (.invokevirtual 103, 3) := by decide +kernel
theorem dX2_order_26 : decode cX2_order 26 = .ok (.iadd, 1) := by decide +kernel
theorem dX2_order_27 : decode cX2_order 27 = .ok (.ireturn, 1) := by decide +kernel
theorem dX2_ratio_0 : decode cX2_ratio 0 = .ok (.aload_n 0, 1) := by decide +kernel
theorem dX2_ratio_1 : decode cX2_ratio 1 = .ok (.iload_n 1, 1) := by decide +kernel
theorem dX2_ratio_2 : decode cX2_ratio 2 = .ok (.iload_n 2, 1) := by decide +kernel
theorem dX2_ratio_3 : decode cX2_ratio 3 = .ok (.iload_n 3, 1) := by decide +kernel
theorem dX2_ratio_4 : decode cX2_ratio 4 = .ok (.iload 4, 2) := by decide +kernel
theorem dX2_ratio_6 : decode cX2_ratio 6 = .ok (.invokevirtual 99, 3) := by decide +kernel
theorem dX2_ratio_9 : decode cX2_ratio 9 = .ok (.ifCond .ne 5, 3) := by decide +kernel
theorem dX2_ratio_12 : decode cX2_ratio 12 = .ok (.iconst (-1), 1) := by decide +kernel
theorem dX2_ratio_13 : decode cX2_ratio 13 = .ok (.ireturn, 1) := by decide +kernel
theorem dX2_ratio_14 : decode cX2_ratio 14 = .ok (.aload_n 0, 1) := by decide +kernel
theorem dX2_ratio_15 : decode cX2_ratio 15 = .ok (.getfield 23, 3) := by decide +kernel
theorem dX2_ratio_18 : decode cX2_ratio 18 = .ok (.aload_n 0, 1) := by decide +kernel
theorem dX2_ratio_19 : decode cX2_ratio 19 = .ok (.getfield 11, 3) := by decide +kernel
theorem dX2_ratio_22 : decode cX2_ratio 22 = .ok (.iload_n 1, 1) := by decide +kernel
theorem dX2_ratio_23 : decode cX2_ratio 23 = .ok (.aaload, 1) := by decide +kernel
theorem dX2_ratio_24 : decode cX2_ratio 24 = .ok (.aload_n 0, 1) := by decide +kernel
theorem dX2_ratio_25 : decode cX2_ratio 25 = .ok (.getfield 11, 3) := by decide +kernel
theorem dX2_ratio_28 : decode cX2_ratio 28 = .ok (.iload 4, 2) := by decide +kernel
theorem dX2_ratio_30 : decode cX2_ratio 30 = .ok (.aaload, 1) := by decide +kernel
theorem dX2_ratio_31 : decode cX2_ratio 31 = .ok (.invokevirtual 49, 3) := by decide +kernel
theorem dX2_ratio_34 : decode cX2_ratio 34 = .ok (.aload_n 0, 1) := by decide +kernel
theorem dX2_ratio_35 : decode cX2_ratio 35 = .ok (.getfield 26, 3) := by decide +kernel
theorem dX2_ratio_38 : decode cX2_ratio 38 = .ok (.aload_n 0, 1) := by decide +kernel
theorem dX2_ratio_39 : decode cX2_ratio 39 = .ok (.getfield 11, 3) := by decide +kernel
theorem dX2_ratio_42 : decode cX2_ratio 42 = .ok (.iload_n 3, 1) := by decide +kernel
theorem dX2_ratio_43 : decode cX2_ratio 43 = .ok (.aaload, 1) := by decide +kernel
theorem dX2_ratio_44 : decode cX2_ratio 44 = .ok (.aload_n 0, 1) := by decide +kernel
theorem dX2_ratio_45 : decode cX2_ratio 45 = .ok (.getfield 11, 3) := by decide +kernel
theorem dX2_ratio_48 : decode cX2_ratio 48 = .ok (.iload_n 2, 1) := by decide +kernel
theorem dX2_ratio_49 : decode cX2_ratio 49 = .ok (.aaload, 1) := by decide +kernel
theorem dX2_ratio_50 : decode cX2_ratio 50 = .ok (.invokevirtual 49, 3) := by decide +kernel
theorem dX2_ratio_53 : decode cX2_ratio 53 = .ok (.aload_n 0, 1) := by decide +kernel
theorem dX2_ratio_54 : decode cX2_ratio 54 = .ok (.getfield 11, 3) := by decide +kernel
theorem dX2_ratio_57 : decode cX2_ratio 57 = .ok (.iload_n 2, 1) := by decide +kernel
theorem dX2_ratio_58 : decode cX2_ratio 58 = .ok (.aaload, 1) := by decide +kernel
theorem dX2_ratio_59 : decode cX2_ratio 59 = .ok (.getfield 76, 3) := by decide +kernel
theorem dX2_ratio_62 : decode cX2_ratio 62 = .ok (.aload_n 0, 1) := by decide +kernel
theorem dX2_ratio_63 : decode cX2_ratio 63 = .ok (.getfield 11, 3) := by decide +kernel
theorem dX2_ratio_66 : decode cX2_ratio 66 = .ok (.iload 4, 2) := by decide +kernel
theorem dX2_ratio_68 : decode cX2_ratio 68 = .ok (.aaload, 1) := by decide +kernel
theorem dX2_ratio_69 : decode cX2_ratio 69 = .ok (.getfield 76, 3) := by decide +kernel
theorem dX2_ratio_72 : decode cX2_ratio 72 = .ok (.if_icmp .eq 7, 3) := by decide +kernel
theorem dX2_ratio_75 : decode cX2_ratio 75 = .ok (.iconst 1, 1) := by decide +kernel
theorem dX2_ratio_76 : decode cX2_ratio 76 = .ok (.goto 4, 3) := by decide +kernel
theorem dX2_ratio_79 : decode cX2_ratio 79 = .ok (.iconst 0, 1) := by decide +kernel
theorem dX2_ratio_80 : decode cX2_ratio 80 = .ok (.istore 5, 2) := by decide +kernel
theorem dX2_ratio_82 : decode cX2_ratio 82 = .ok (.iconst 1, 1) := by decide +kernel
theorem dX2_ratio_83 : decode cX2_ratio 83 = .ok (.iload 5, 2) := by decide +kernel
theorem dX2_ratio_85 : decode cX2_ratio 85 = .ok (.ifCond .eq 17, 3) := by decide +kernel
theorem dX2_ratio_88 : decode cX2_ratio 88 = .ok (.aload_n 0, 1) := by decide +kernel
theorem dX2_ratio_89 : decode cX2_ratio 89 = .ok (.getfield 26, 3) := by decide +kernel
theorem dX2_ratio_92 : decode cX2_ratio 92 = .ok (.aload_n 0, 1) := by decide +kernel
theorem dX2_ratio_93 : decode cX2_ratio 93 = .ok (.getfield 23, 3) := by decide +kernel
theorem dX2_ratio_96 : decode cX2_ratio 96 = .ok (.invokevirtual 103, 3) := by decide +kernel
theorem dX2_ratio_99 : decode cX2_ratio 99 = .ok (.goto 14, 3) := by decide +kernel
theorem dX2_ratio_102 : decode cX2_ratio 102 = .ok (.aload_n 0, 1) := by decide +kernel
theorem dX2_ratio_103 : decode cX2_ratio 103 = .ok (.getfield 23, 3) := by decide +kernel
theorem dX2_ratio_106 : decode cX2_ratio 106 = .ok (.aload_n 0, 1) := by decide +kernel
theorem dX2_ratio_107 : decode cX2_ratio 107 = .ok (.getfield 26, 3) := by decide +kernel
theorem dX2_ratio_110 : decode cX2_ratio 110 = .ok (.invokevirtual 103, 3) := by decide +kernel
theorem dX2_ratio_113 : decode cX2_ratio 113 = .ok (.iadd, 1) := by decide +kernel
theorem dX2_ratio_114 : decode cX2_ratio 114 = .ok (.ireturn, 1) := by decide +kernel
theorem dX2_sign_0 : decode cX2_sign 0 = .ok (.iload_n 1, 1) := by decide +kernel
theorem dX2_sign_1 : decode cX2_sign 1 = .ok (.invokestatic 39, 3) := by decide +kernel
theorem dX2_sign_4 : decode cX2_sign 4 = .ok (.ifCond .ne 5, 3) := by decide +kernel
theorem dX2_sign_7 : decode cX2_sign 7 = .ok (.iconst (-1), 1) := by decide +kernel
theorem dX2_sign_8 : decode cX2_sign 8 = .ok (.ireturn, 1) := by decide +kernel
theorem dX2_sign_9 : decode cX2_sign 9 = .ok (.aload_n 0, 1) := by decide +kernel
theorem dX2_sign_10 : decode cX2_sign 10 = .ok (.getfield 11, 3) := by decide +kernel
theorem dX2_sign_13 : decode cX2_sign 13 = .ok (.iload_n 1, 1) := by decide +kernel
theorem dX2_sign_14 : decode cX2_sign 14 = .ok (.aaload, 1) := by decide +kernel
theorem dX2_sign_15 : decode cX2_sign 15 = .ok (.invokevirtual 88, 3) := by decide +kernel
theorem dX2_sign_18 : decode cX2_sign 18 = .ok (.ifCond .eq 5, 3) := by decide +kernel
theorem dX2_sign_21 : decode cX2_sign 21 = .ok (.iconst 1, 1) := by decide +kernel
theorem dX2_sign_22 : decode cX2_sign 22 = .ok (.ireturn, 1) := by decide +kernel
theorem dX2_sign_23 : decode cX2_sign 23 = .ok (.aload_n 0, 1) := by decide +kernel
theorem dX2_sign_24 : decode cX2_sign 24 = .ok (.getfield 11, 3) := by decide +kernel
theorem dX2_sign_27 : decode cX2_sign 27 = .ok (.iload_n 1, 1) := by decide +kernel
theorem dX2_sign_28 : decode cX2_sign 28 = .ok (.aaload, 1) := by decide +kernel
theorem dX2_sign_29 : decode cX2_sign 29 = .ok (.getfield 76, 3) := by decide +kernel
theorem dX2_sign_32 : decode cX2_sign 32 = .ok (.ifCond .eq 7, 3) := by decide +kernel
theorem dX2_sign_35 : decode cX2_sign 35 = .ok (.iconst 0, 1) := by decide +kernel
theorem dX2_sign_36 : decode cX2_sign 36 = .ok (.goto 4, 3) := by decide +kernel
theorem dX2_sign_39 : decode cX2_sign 39 = .ok (.iconst 2, 1) := by decide +kernel
theorem dX2_sign_40 : decode cX2_sign 40 = .ok (.ireturn, 1) := by decide +kernel
theorem dX2_digits_0 : decode cX2_digits 0 = .ok (.iload_n 1, 1) := by decide +kernel
theorem dX2_digits_1 : decode cX2_digits 1 = .ok (.invokestatic 39, 3) := by decide +kernel
theorem dX2_digits_4 : decode cX2_digits 4 = .ok (.ifCond .ne 5, 3) := by decide +kernel
theorem dX2_digits_7 : decode cX2_digits 7 = .ok (.iconst (-1), 1) := by decide +kernel
theorem dX2_digits_8 : decode cX2_digits 8 = .ok (.ireturn, 1) := by decide +kernel
theorem dX2_digits_9 : decode cX2_digits 9 = .ok (.aload_n 0, 1) := by decide +kernel
theorem dX2_digits_10 : decode cX2_digits 10 = .ok (.getfield 11, 3) := by decide +kernel
theorem dX2_digits_13 : decode cX2_digits 13 = .ok (.iload_n 1, 1) := by decide +kernel
theorem dX2_digits_14 : decode cX2_digits 14 = .ok (.aaload, 1) := by decide +kernel
theorem dX2_digits_15 : decode cX2_digits 15 = .ok (.invokevirtual 107, 3) := by decide +kernel
theorem dX2_digits_18 : decode cX2_digits 18 = .ok (.ireturn, 1) := by decide +kernel
theorem dX2_digitAt_0 : decode cX2_digitAt 0 = .ok (.iload_n 1, 1) := by decide +kernel
theorem dX2_digitAt_1 : decode cX2_digitAt 1 = .ok (.invokestatic 39, 3) := by decide +kernel
theorem dX2_digitAt_4 : decode cX2_digitAt 4 = .ok (.ifCond .eq 20, 3) := by decide +kernel
theorem dX2_digitAt_7 : decode cX2_digitAt 7 = .ok (.iload_n 2, 1) := by decide +kernel
theorem dX2_digitAt_8 : decode cX2_digitAt 8 = .ok (.ifCond .lt 16, 3) := by decide +kernel
theorem dX2_digitAt_11 : decode cX2_digitAt 11 = .ok (.iload_n 2, 1) := by decide +kernel
theorem dX2_digitAt_12 : decode cX2_digitAt 12 = .ok (.aload_n 0, 1) := by decide +kernel
theorem dX2_digitAt_13 : decode cX2_digitAt 13 = .ok (.getfield 11, 3) := by decide +kernel
theorem dX2_digitAt_16 : decode cX2_digitAt 16 = .ok (.iload_n 1, 1) := by decide +kernel
theorem dX2_digitAt_17 : decode cX2_digitAt 17 = .ok (.aaload, 1) := by decide +kernel
theorem dX2_digitAt_18 : decode cX2_digitAt 18 = .ok (.invokevirtual 107, 3) := by decide +kernel
theorem dX2_digitAt_21 : decode cX2_digitAt 21 = .ok (.if_icmp .lt 5, 3) := by decide +kernel
theorem dX2_digitAt_24 : decode cX2_digitAt 24 = .ok (.iconst (-1), 1) := by decide +kernel
theorem dX2_digitAt_25 : decode cX2_digitAt 25 = .ok (.ireturn, 1) := by decide +kernel
theorem dX2_digitAt_26 : decode cX2_digitAt 26 = .ok (.aload_n 0, 1) := by decide +kernel
theorem dX2_digitAt_27 : decode cX2_digitAt 27 = .ok (.getfield 11, 3) := by decide +kernel
theorem dX2_digitAt_30 : decode cX2_digitAt 30 = .ok (.iload_n 1, 1) := by decide +kernel
theorem dX2_digitAt_31 : decode cX2_digitAt 31 = .ok (.aaload, 1) := by decide +kernel
theorem dX2_digitAt_32 : decode cX2_digitAt 32 = .ok (.aload_n 0, 1) := by decide +kernel
theorem dX2_digitAt_33 : decode cX2_digitAt 33 = .ok (.getfield 11, 3) := by decide +kernel
theorem dX2_digitAt_36 : decode cX2_digitAt 36 = .ok (.iload_n 1, 1) := by decide +kernel
theorem dX2_digitAt_37 : decode cX2_digitAt 37 = .ok (.aaload, 1) := by decide +kernel
theorem dX2_digitAt_38 : decode cX2_digitAt 38 = .ok (.invokevirtual 107, 3) := by decide +kernel
theorem dX2_digitAt_41 : decode cX2_digitAt 41 = .ok (.iconst 1, 1) := by decide +kernel
theorem dX2_digitAt_42 : decode cX2_digitAt 42 = .ok (.isub, 1) := by decide +kernel
theorem dX2_digitAt_43 : decode cX2_digitAt 43 = .ok (.iload_n 2, 1) := by decide +kernel
theorem dX2_digitAt_44 : decode cX2_digitAt 44 = .ok (.isub, 1) := by decide +kernel
theorem dX2_digitAt_45 : decode cX2_digitAt 45 = .ok (.invokevirtual 111, 3) := by decide +kernel
theorem dX2_digitAt_48 : decode cX2_digitAt 48 = .ok (.ireturn, 1) := by decide +kernel
theorem dX2_modulo_0 : decode cX2_modulo 0 = .ok (.iload_n 1, 1) := by decide +kernel
theorem dX2_modulo_1 : decode cX2_modulo 1 = .ok (.invokestatic 39, 3) := by decide +kernel
theorem dX2_modulo_4 : decode cX2_modulo 4 = .ok (.ifCond .eq 17, 3) := by decide +kernel
theorem dX2_modulo_7 : decode cX2_modulo 7 = .ok (.lload_n 2, 1) := by decide +kernel
theorem dX2_modulo_8 : decode cX2_modulo 8 = .ok (.lconst 1, 1) := by decide +kernel
theorem dX2_modulo_9 : decode cX2_modulo 9 = .ok (.lcmp, 1) := by decide +kernel
theorem dX2_modulo_10 : decode cX2_modulo 10 = .ok (.ifCond .lt 11, 3) := by decide +kernel
theorem dX2_modulo_13 : decode cX2_modulo 13 = .ok (.lload_n 2, 1) := by decide +kernel
theorem dX2_modulo_14 : decode cX2_modulo 14 = .ok (.ldc2_w 115, 3) := by decide +kernel
theorem dX2_modulo_17 : decode cX2_modulo 17 = .ok (.lcmp, 1) := by decide +kernel
theorem dX2_modulo_18 : decode cX2_modulo 18 = .ok (.ifCond .le 7, 3) := by decide +kernel
theorem dX2_modulo_21 : decode cX2_modulo 21 = .ok (.ldc2_w 117, 3) := by decide +kernel
theorem dX2_modulo_24 : decode cX2_modulo 24 = .ok (.lreturn, 1) := by decide +kernel
theorem dX2_modulo_25 : decode cX2_modulo 25 = .ok (.aload_n 0, 1) := by decide +kernel
theorem dX2_modulo_26 : decode cX2_modulo 26 = .ok (.getfield 11, 3) := by decide +kernel
theorem dX2_modulo_29 : decode cX2_modulo 29 = .ok (.iload_n 1, 1) := by decide +kernel
theorem dX2_modulo_30 : decode cX2_modulo 30 = .ok (.aaload, 1) := by decide +kernel
theorem dX2_modulo_31 : decode cX2_modulo 31 = .ok (.lload_n 2, 1) := by decide +kernel
theorem dX2_modulo_32 : decode cX2_modulo 32 = .ok (.invokevirtual 119, 3) := by decide +kernel
theorem dX2_modulo_35 : decode cX2_modulo 35 = .ok (.lreturn, 1) := by decide +kernel
theorem dX2_low_0 : decode cX2_low 0 = .ok (.iload_n 1, 1) := by decide +kernel
theorem dX2_low_1 : decode cX2_low 1 = .ok (.invokestatic 39, 3) := by decide +kernel
theorem dX2_low_4 : decode cX2_low 4 = .ok (.ifCond .ne 5, 3) := by decide +kernel
theorem dX2_low_7 : decode cX2_low 7 = .ok (.lconst 0, 1) := by decide +kernel
theorem dX2_low_8 : decode cX2_low 8 = .ok (.lreturn, 1) := by decide +kernel
theorem dX2_low_9 : decode cX2_low 9 = .ok (.aload_n 0, 1) := by decide +kernel
theorem dX2_low_10 : decode cX2_low 10 = .ok (.getfield 11, 3) := by decide +kernel
theorem dX2_low_13 : decode cX2_low 13 = .ok (.iload_n 1, 1) := by decide +kernel
theorem dX2_low_14 : decode cX2_low 14 = .ok (.aaload, 1) := by decide +kernel
theorem dX2_low_15 : decode cX2_low 15 = .ok (.invokevirtual 123, 3) := by decide +kernel
theorem dX2_low_18 : decode cX2_low 18 = .ok (.lreturn, 1) := by decide +kernel
theorem dX2_isSlot_0 : decode cX2_isSlot 0 = .ok (.iload_n 0, 1) := by decide +kernel
theorem dX2_isSlot_1 : decode cX2_isSlot 1 = .ok (.ifCond .lt 13, 3) := by decide +kernel
theorem dX2_isSlot_4 : decode cX2_isSlot 4 = .ok (.iload_n 0, 1) := by decide +kernel
theorem dX2_isSlot_5 : decode cX2_isSlot 5 = .ok (.bipush 16, 2) := by decide +kernel
theorem dX2_isSlot_7 : decode cX2_isSlot 7 = .ok (.if_icmp .ge 7, 3) := by decide +kernel
theorem dX2_isSlot_10 : decode cX2_isSlot 10 = .ok (.iconst 1, 1) := by decide +kernel
theorem dX2_isSlot_11 : decode cX2_isSlot 11 = .ok (.goto 4, 3) := by decide +kernel
theorem dX2_isSlot_14 : decode cX2_isSlot 14 = .ok (.iconst 0, 1) := by decide +kernel
theorem dX2_isSlot_15 : decode cX2_isSlot 15 = .ok (.ireturn, 1) := by decide +kernel
theorem dX2_areSlots_0 : decode cX2_areSlots 0 = .ok (.iload_n 0, 1) := by decide +kernel
theorem dX2_areSlots_1 : decode cX2_areSlots 1 = .ok (.invokestatic 39, 3) := by decide +kernel
theorem dX2_areSlots_4 : decode cX2_areSlots 4 = .ok (.ifCond .eq 14, 3) := by decide +kernel
theorem dX2_areSlots_7 : decode cX2_areSlots 7 = .ok (.iload_n 1, 1) := by decide +kernel
theorem dX2_areSlots_8 : decode cX2_areSlots 8 = .ok (.invokestatic 39, 3) := by decide +kernel
theorem dX2_areSlots_11 : decode cX2_areSlots 11 = .ok (.ifCond .eq 7, 3) := by decide +kernel
theorem dX2_areSlots_14 : decode cX2_areSlots 14 = .ok (.iconst 1, 1) := by decide +kernel
theorem dX2_areSlots_15 : decode cX2_areSlots 15 = .ok (.goto 4, 3) := by decide +kernel
theorem dX2_areSlots_18 : decode cX2_areSlots 18 = .ok (.iconst 0, 1) := by decide +kernel
theorem dX2_areSlots_19 : decode cX2_areSlots 19 = .ok (.ireturn, 1) := by decide +kernel
theorem dX2_areFractions_0 : decode cX2_areFractions 0 = .ok (.iload_n 1, 1) := by decide +kernel
theorem dX2_areFractions_1 : decode cX2_areFractions 1 = .ok (.iload_n 2, 1) := by decide +kernel
theorem dX2_areFractions_2 : decode cX2_areFractions 2 = .ok (.invokestatic 61, 3) := by decide +kernel
theorem dX2_areFractions_5 : decode cX2_areFractions 5 = .ok (.ifCond .eq 41, 3) := by decide +kernel
theorem dX2_areFractions_8 : decode cX2_areFractions 8 = .ok (.iload_n 3, 1) := by decide +kernel
theorem dX2_areFractions_9 : decode cX2_areFractions 9 = .ok (.iload 4, 2) := by decide +kernel
theorem dX2_areFractions_11 : decode cX2_areFractions 11 = .ok (.invokestatic 61, 3) := by decide +kernel
theorem dX2_areFractions_14 : decode cX2_areFractions 14 = .ok (.ifCond .eq 32, 3) := by decide +kernel
theorem dX2_areFractions_17 : decode cX2_areFractions 17 = .ok (.aload_n 0, 1) := by decide +kernel
theorem dX2_areFractions_18 : decode cX2_areFractions 18 = .ok (.getfield 11, 3) := by decide +kernel
theorem dX2_areFractions_21 : decode cX2_areFractions 21 = .ok (.iload_n 2, 1) := by decide +kernel
theorem dX2_areFractions_22 : decode cX2_areFractions 22 = .ok (.aaload, 1) := by decide +kernel
theorem dX2_areFractions_23 : decode cX2_areFractions 23 = .ok (.invokevirtual 88, 3) := by decide +kernel
theorem dX2_areFractions_26 : decode cX2_areFractions 26 = .ok (.ifCond .ne 20, 3) := by decide +kernel
theorem dX2_areFractions_29 : decode cX2_areFractions 29 = .ok (.aload_n 0, 1) := by decide +kernel
theorem dX2_areFractions_30 : decode cX2_areFractions 30 = .ok (.getfield 11, 3) := by decide +kernel
theorem dX2_areFractions_33 : decode cX2_areFractions 33 = .ok (.iload 4, 2) := by decide +kernel
theorem dX2_areFractions_35 : decode cX2_areFractions 35 = .ok (.aaload, 1) := by decide +kernel
theorem dX2_areFractions_36 : decode cX2_areFractions 36 = .ok (.invokevirtual 88, 3) := by decide +kernel
theorem dX2_areFractions_39 : decode cX2_areFractions 39 = .ok (.ifCond .ne 7, 3) := by decide +kernel
theorem dX2_areFractions_42 : decode cX2_areFractions 42 = .ok (.iconst 1, 1) := by decide +kernel
theorem dX2_areFractions_43 : decode cX2_areFractions 43 = .ok (.goto 4, 3) := by decide +kernel
theorem dX2_areFractions_46 : decode cX2_areFractions 46 = .ok (.iconst 0, 1) := by decide +kernel
theorem dX2_areFractions_47 : decode cX2_areFractions 47 = .ok (.ireturn, 1) := by decide +kernel
theorem dX2_keep_0 : decode cX2_keep 0 = .ok (.aload_n 1, 1) := by decide +kernel
theorem dX2_keep_1 : decode cX2_keep 1 = .ok (.invokevirtual 84, 3) := by decide +kernel
theorem dX2_keep_4 : decode cX2_keep 4 = .ok (.ifCond .eq 5, 3) := by decide +kernel
theorem dX2_keep_7 : decode cX2_keep 7 = .ok (.iconst (-1), 1) := by decide +kernel
theorem dX2_keep_8 : decode cX2_keep 8 = .ok (.ireturn, 1) := by decide +kernel
theorem dX2_keep_9 : decode cX2_keep 9 = .ok (.aload_n 0, 1) := by decide +kernel
theorem dX2_keep_10 : decode cX2_keep 10 = .ok (.getfield 11, 3) := by decide +kernel
theorem dX2_keep_13 : decode cX2_keep 13 = .ok (.iload_n 2, 1) := by decide +kernel
theorem dX2_keep_14 : decode cX2_keep 14 = .ok (.aaload, 1) := by decide +kernel
theorem dX2_keep_15 : decode cX2_keep 15 = .ok (.aload_n 1, 1) := by decide +kernel
theorem dX2_keep_16 : decode cX2_keep 16 = .ok (.invokevirtual 91, 3) := by decide +kernel
theorem dX2_keep_19 : decode cX2_keep 19 = .ok (.iconst 1, 1) := by decide +kernel
theorem dX2_keep_20 : decode cX2_keep 20 = .ok (.ireturn, 1) := by decide +kernel
theorem dX2_addOrTakeAway_0 : decode cX2_addOrTakeAway 0 = .ok (.iload_n 1, 1) := by decide +kernel
theorem dX2_addOrTakeAway_1 : decode cX2_addOrTakeAway 1 = .ok (.iload_n 2, 1) := by decide +kernel
theorem dX2_addOrTakeAway_2 : decode cX2_addOrTakeAway 2 = .ok (.invokestatic 61, 3) := by decide +kernel
theorem dX2_addOrTakeAway_5 : decode cX2_addOrTakeAway 5 = .ok (.ifCond .eq 10, 3) := by decide +kernel
theorem dX2_addOrTakeAway_8 : decode cX2_addOrTakeAway 8 = .ok (.iload_n 3, 1) := by decide +kernel
theorem dX2_addOrTakeAway_9 : decode cX2_addOrTakeAway 9 = .ok (.invokestatic 39, 3) := by decide +kernel
theorem dX2_addOrTakeAway_12 : decode cX2_addOrTakeAway 12 = .ok (.ifCond .ne 5, 3) := by decide +kernel
theorem dX2_addOrTakeAway_15 : decode cX2_addOrTakeAway 15 = .ok (.iconst (-1), 1) := by decide +kernel
theorem dX2_addOrTakeAway_16 : decode cX2_addOrTakeAway 16 = .ok (.ireturn, 1) := by decide +kernel
theorem dX2_addOrTakeAway_17 : decode cX2_addOrTakeAway 17 = .ok (.aload_n 0, 1) := by decide +kernel
theorem dX2_addOrTakeAway_18 : decode cX2_addOrTakeAway 18 = .ok (.getfield 16, 3) := by decide +kernel
theorem dX2_addOrTakeAway_21 : decode cX2_addOrTakeAway 21 = .ok (.aload_n 0, 1) := by decide +kernel
theorem dX2_addOrTakeAway_22 : decode cX2_addOrTakeAway 22 = .ok (.getfield 11, 3) := by decide +kernel
theorem dX2_addOrTakeAway_25 : decode cX2_addOrTakeAway 25 = .ok (.iload_n 1, 1) := by decide +kernel
theorem dX2_addOrTakeAway_26 : decode cX2_addOrTakeAway 26 = .ok (.aaload, 1) := by decide +kernel
theorem dX2_addOrTakeAway_27 : decode cX2_addOrTakeAway 27 = .ok (.aload_n 0, 1) := by decide +kernel
theorem dX2_addOrTakeAway_28 : decode cX2_addOrTakeAway 28 = .ok (.getfield 11, 3) := by decide +kernel
theorem dX2_addOrTakeAway_31 : decode cX2_addOrTakeAway 31 = .ok (.iload_n 2, 1) := by decide +kernel
theorem dX2_addOrTakeAway_32 : decode cX2_addOrTakeAway 32 = .ok (.aaload, 1) := by decide +kernel
theorem dX2_addOrTakeAway_33 : decode cX2_addOrTakeAway 33 = .ok (.iload 4, 2) := by decide +kernel
theorem dX2_addOrTakeAway_35 : decode cX2_addOrTakeAway 35 = .ok (.invokevirtual 53, 3) := by decide +kernel
theorem dX2_addOrTakeAway_38 : decode cX2_addOrTakeAway 38 = .ok (.aload_n 0, 1) := by decide +kernel
theorem dX2_addOrTakeAway_39 : decode cX2_addOrTakeAway 39 = .ok (.aload_n 0, 1) := by decide +kernel
theorem dX2_addOrTakeAway_40 : decode cX2_addOrTakeAway 40 = .ok (.getfield 16, 3) := by decide +kernel
theorem dX2_addOrTakeAway_43 : decode cX2_addOrTakeAway 43 = .ok (.iload_n 3, 1) := by decide +kernel
theorem dX2_addOrTakeAway_44 : decode cX2_addOrTakeAway 44 = .ok (.invokevirtual 57, 3) := by decide +kernel
theorem dX2_addOrTakeAway_47 : decode cX2_addOrTakeAway 47 = .ok (.ireturn, 1) := by decide +kernel
theorem dX2_divideSlots_0 : decode cX2_divideSlots 0 = .ok (.iload_n 1, 1) := by decide +kernel
theorem dX2_divideSlots_1 : decode cX2_divideSlots 1 = .ok (.iload_n 2, 1) := by decide +kernel
theorem dX2_divideSlots_2 : decode cX2_divideSlots 2 = .ok (.invokestatic 61, 3) := by decide +kernel
theorem dX2_divideSlots_5 : decode cX2_divideSlots 5 = .ok (.ifCond .eq 15, 3) := by decide +kernel
theorem dX2_divideSlots_8 : decode cX2_divideSlots 8 = .ok (.aload_n 0, 1) := by decide +kernel
theorem dX2_divideSlots_9 : decode cX2_divideSlots 9 = .ok (.getfield 11, 3) := by decide +kernel
theorem dX2_divideSlots_12 : decode cX2_divideSlots 12 = .ok (.iload_n 2, 1) := by decide +kernel
theorem dX2_divideSlots_13 : decode cX2_divideSlots 13 = .ok (.aaload, 1) := by decide +kernel
theorem dX2_divideSlots_14 : decode cX2_divideSlots 14 = .ok (.invokevirtual 88, 3) := by decide +kernel
theorem dX2_divideSlots_17 : decode cX2_divideSlots 17 = .ok (.ifCond .eq 5, 3) := by decide +kernel
theorem dX2_divideSlots_20 : decode cX2_divideSlots 20 = .ok (.iconst 0, 1) := by decide +kernel
theorem dX2_divideSlots_21 : decode cX2_divideSlots 21 = .ok (.ireturn, 1) := by decide +kernel
theorem dX2_divideSlots_22 : decode cX2_divideSlots 22 = .ok (.aload_n 0, 1) := by decide +kernel
theorem dX2_divideSlots_23 : decode cX2_divideSlots 23 = .ok (.getfield 16, 3) := by decide +kernel
theorem dX2_divideSlots_26 : decode cX2_divideSlots 26 = .ok (.aload_n 0, 1) := by decide +kernel
theorem dX2_divideSlots_27 : decode cX2_divideSlots 27 = .ok (.getfield 11, 3) := by decide +kernel
theorem dX2_divideSlots_30 : decode cX2_divideSlots 30 = .ok (.iload_n 1, 1) := by decide +kernel
theorem dX2_divideSlots_31 : decode cX2_divideSlots 31 = .ok (.aaload, 1) := by decide +kernel
theorem dX2_divideSlots_32 : decode cX2_divideSlots 32 = .ok (.invokevirtual 91, 3) := by decide +kernel
theorem dX2_divideSlots_35 : decode cX2_divideSlots 35 = .ok (.aload_n 0, 1) := by decide +kernel
theorem dX2_divideSlots_36 : decode cX2_divideSlots 36 = .ok (.getfield 16, 3) := by decide +kernel
theorem dX2_divideSlots_39 : decode cX2_divideSlots 39 = .ok (.aload_n 0, 1) := by decide +kernel
theorem dX2_divideSlots_40 : decode cX2_divideSlots 40 = .ok (.getfield 11, 3) := by decide +kernel
theorem dX2_divideSlots_43 : decode cX2_divideSlots 43 = .ok (.iload_n 2, 1) := by decide +kernel
theorem dX2_divideSlots_44 : decode cX2_divideSlots 44 = .ok (.aaload, 1) := by decide +kernel
theorem dX2_divideSlots_45 : decode cX2_divideSlots 45 = .ok (.aload_n 0, 1) := by decide +kernel
theorem dX2_divideSlots_46 : decode cX2_divideSlots 46 = .ok (.getfield 29, 3) := by decide +kernel
theorem dX2_divideSlots_49 : decode cX2_divideSlots 49 = .ok (.invokevirtual 127, 3) := by decide +kernel
theorem dX2_divideSlots_52 : decode cX2_divideSlots 52 = .ok (.iconst 1, 1) := by decide +kernel
theorem dX2_divideSlots_53 : decode cX2_divideSlots 53 = .ok (.ireturn, 1) := by decide +kernel
theorem dX2_squareRoot_0 : decode cX2_squareRoot 0 = .ok (.aload_n 0, 1) := by decide +kernel
theorem dX2_squareRoot_1 : decode cX2_squareRoot 1 = .ok (.getfield 23, 3) := by decide +kernel
theorem dX2_squareRoot_4 : decode cX2_squareRoot 4 = .ok (.astore_n 2, 1) := by decide +kernel
theorem dX2_squareRoot_5 : decode cX2_squareRoot 5 = .ok (.aload_n 0, 1) := by decide +kernel
theorem dX2_squareRoot_6 : decode cX2_squareRoot 6 = .ok (.getfield 26, 3) := by decide +kernel
theorem dX2_squareRoot_9 : decode cX2_squareRoot 9 = .ok (.astore_n 3, 1) := by decide +kernel
theorem dX2_squareRoot_10 : decode cX2_squareRoot 10 = .ok (.aload_n 1, 1) := by decide +kernel
theorem dX2_squareRoot_11 : decode cX2_squareRoot 11 = .ok (.invokevirtual 88, 3) := by decide +kernel
theorem dX2_squareRoot_14 : decode cX2_squareRoot 14 = .ok (.ifCond .eq 5, 3) := by decide +kernel
theorem dX2_squareRoot_17 : decode cX2_squareRoot 17 = .ok (.aload_n 1, 1) := by decide +kernel
theorem dX2_squareRoot_18 : decode cX2_squareRoot 18 = .ok (.areturn, 1) := by decide +kernel
theorem dX2_squareRoot_19 : decode cX2_squareRoot 19 = .ok (.aload_n 2, 1) := by decide +kernel
theorem dX2_squareRoot_20 : decode cX2_squareRoot 20 = .ok (.aload_n 1, 1) := by decide +kernel
theorem dX2_squareRoot_21 : decode cX2_squareRoot 21 = .ok (.invokevirtual 130, 3) := by decide +kernel
theorem dX2_squareRoot_24 : decode cX2_squareRoot 24 = .ok (.iconst 0, 1) := by decide +kernel
theorem dX2_squareRoot_25 : decode cX2_squareRoot 25 = .ok (.istore 4, 2) := by decide +kernel
theorem dX2_squareRoot_27 : decode cX2_squareRoot 27 = .ok (.iload 4, 2) := by decide +kernel
theorem dX2_squareRoot_29 : decode cX2_squareRoot 29 = .ok (.bipush 64, 2) := by decide +kernel
theorem dX2_squareRoot_31 : decode cX2_squareRoot 31 = .ok (.if_icmp .ge 61, 3) := by decide +kernel
theorem dX2_squareRoot_34 : decode cX2_squareRoot 34 = .ok (.aload_n 0, 1) := by decide +kernel
theorem dX2_squareRoot_35 : decode cX2_squareRoot 35 = .ok (.getfield 16, 3) := by decide +kernel
theorem dX2_squareRoot_38 : decode cX2_squareRoot 38 = .ok (.aload_n 1, 1) := by decide +kernel
theorem dX2_squareRoot_39 : decode cX2_squareRoot 39 = .ok (.invokevirtual 91, 3) := by decide +kernel
theorem dX2_squareRoot_42 : decode cX2_squareRoot 42 = .ok (.aload_n 0, 1) := by decide +kernel
theorem dX2_squareRoot_43 : decode cX2_squareRoot 43 = .ok (.getfield 16, 3) := by decide +kernel
theorem dX2_squareRoot_46 : decode cX2_squareRoot 46 = .ok (.aload_n 2, 1) := by decide +kernel
theorem dX2_squareRoot_47 : decode cX2_squareRoot 47 = .ok (.aload_n 0, 1) := by decide +kernel
theorem dX2_squareRoot_48 : decode cX2_squareRoot 48 = .ok (.getfield 29, 3) := by decide +kernel
theorem dX2_squareRoot_51 : decode cX2_squareRoot 51 = .ok (.invokevirtual 127, 3) := by decide +kernel
theorem dX2_squareRoot_54 : decode cX2_squareRoot 54 = .ok (.aload_n 3, 1) := by decide +kernel
theorem dX2_squareRoot_55 : decode cX2_squareRoot 55 = .ok (.aload_n 2, 1) := by decide +kernel
theorem dX2_squareRoot_56 : decode cX2_squareRoot 56 = .ok (.aload_n 0, 1) := by decide +kernel
theorem dX2_squareRoot_57 : decode cX2_squareRoot 57 = .ok (.getfield 29, 3) := by decide +kernel
theorem dX2_squareRoot_60 : decode cX2_squareRoot 60 = .ok (.iconst 0, 1) := by decide +kernel
theorem dX2_squareRoot_61 : decode cX2_squareRoot 61 = .ok (.invokevirtual 53, 3) := by decide +kernel
theorem dX2_squareRoot_64 : decode cX2_squareRoot 64 = .ok (.aload_n 3, 1) := by decide +kernel
theorem dX2_squareRoot_65 : decode cX2_squareRoot 65 = .ok (.invokevirtual 133, 3) := by decide +kernel
theorem dX2_squareRoot_68 : decode cX2_squareRoot 68 = .ok (.aload_n 3, 1) := by decide +kernel
theorem dX2_squareRoot_69 : decode cX2_squareRoot 69 = .ok (.aload_n 2, 1) := by decide +kernel
theorem dX2_squareRoot_70 : decode cX2_squareRoot 70 = .ok (.invokevirtual 136, 3) := by decide +kernel
theorem dX2_squareRoot_73 : decode cX2_squareRoot 73 = .ok (.ifCond .lt 5, 3) := by decide +kernel
theorem dX2_squareRoot_76 : decode cX2_squareRoot 76 = .ok (.aload_n 2, 1) := by decide +kernel
theorem dX2_squareRoot_77 : decode cX2_squareRoot 77 = .ok (.areturn, 1) := by decide +kernel
theorem dX2_squareRoot_78 : decode cX2_squareRoot 78 = .ok (.aload_n 2, 1) := by decide +kernel
theorem dX2_squareRoot_79 : decode cX2_squareRoot 79 = .ok (.astore 5, 2) := by decide +kernel
theorem dX2_squareRoot_81 : decode cX2_squareRoot 81 = .ok (.aload_n 3, 1) := by decide +kernel
theorem dX2_squareRoot_82 : decode cX2_squareRoot 82 = .ok (.astore_n 2, 1) := by decide +kernel
theorem dX2_squareRoot_83 : decode cX2_squareRoot 83 = .ok (.aload 5, 2) := by decide +kernel
theorem dX2_squareRoot_85 : decode cX2_squareRoot 85 = .ok (.astore_n 3, 1) := by decide +kernel
theorem dX2_squareRoot_86 : decode cX2_squareRoot 86 = .ok (.iinc 4 1, 3) := by decide +kernel
theorem dX2_squareRoot_89 : decode cX2_squareRoot 89 = .ok (.goto (-62), 3) := by decide +kernel
theorem dX2_squareRoot_92 : decode cX2_squareRoot 92 = .ok (.aload_n 2, 1) := by decide +kernel
theorem dX2_squareRoot_93 : decode cX2_squareRoot 93 = .ok (.areturn, 1) := by decide +kernel
theorem dX2_keepLowest_0 : decode cX2_keepLowest 0 = .ok (.aload_n 0, 1) := by decide +kernel
theorem dX2_keepLowest_1 : decode cX2_keepLowest 1 = .ok (.getfield 35, 3) := by decide +kernel
theorem dX2_keepLowest_4 : decode cX2_keepLowest 4 = .ok (.aload_n 0, 1) := by decide +kernel
theorem dX2_keepLowest_5 : decode cX2_keepLowest 5 = .ok (.getfield 16, 3) := by decide +kernel
theorem dX2_keepLowest_8 : decode cX2_keepLowest 8 = .ok (.aload_n 0, 1) := by decide +kernel
theorem dX2_keepLowest_9 : decode cX2_keepLowest 9 = .ok (.getfield 20, 3) := by decide +kernel
theorem dX2_keepLowest_12 : decode cX2_keepLowest 12 = .ok (.invokevirtual 72, 3) := by decide +kernel
theorem dX2_keepLowest_15 : decode cX2_keepLowest 15 = .ok (.astore_n 3, 1) := by decide +kernel
theorem dX2_keepLowest_16 : decode cX2_keepLowest 16 = .ok (.aload_n 0, 1) := by decide +kernel
theorem dX2_keepLowest_17 : decode cX2_keepLowest 17 = .ok (.getfield 16, 3) := by decide +kernel
theorem dX2_keepLowest_20 : decode cX2_keepLowest 20 = .ok (.aload_n 3, 1) := by decide +kernel
theorem dX2_keepLowest_21 : decode cX2_keepLowest 21 = .ok (.aload_n 0, 1) := by decide +kernel
theorem dX2_keepLowest_22 : decode cX2_keepLowest 22 = .ok (.getfield 23, 3) := by decide +kernel
theorem dX2_keepLowest_25 : decode cX2_keepLowest 25 = .ok (.invokevirtual 127, 3) := by decide +kernel
theorem dX2_keepLowest_28 : decode cX2_keepLowest 28 = .ok (.aload_n 0, 1) := by decide +kernel
theorem dX2_keepLowest_29 : decode cX2_keepLowest 29 = .ok (.getfield 20, 3) := by decide +kernel
theorem dX2_keepLowest_32 : decode cX2_keepLowest 32 = .ok (.aload_n 3, 1) := by decide +kernel
theorem dX2_keepLowest_33 : decode cX2_keepLowest 33 = .ok (.aload_n 0, 1) := by decide +kernel
theorem dX2_keepLowest_34 : decode cX2_keepLowest 34 = .ok (.getfield 26, 3) := by decide +kernel
theorem dX2_keepLowest_37 : decode cX2_keepLowest 37 = .ok (.invokevirtual 127, 3) := by decide +kernel
theorem dX2_keepLowest_40 : decode cX2_keepLowest 40 = .ok (.aload_n 0, 1) := by decide +kernel
theorem dX2_keepLowest_41 : decode cX2_keepLowest 41 = .ok (.getfield 26, 3) := by decide +kernel
theorem dX2_keepLowest_44 : decode cX2_keepLowest 44 = .ok (.getfield 76, 3) := by decide +kernel
theorem dX2_keepLowest_47 : decode cX2_keepLowest 47 = .ok (.ifCond .eq 17, 3) := by decide +kernel
theorem dX2_keepLowest_50 : decode cX2_keepLowest 50 = .ok (.aload_n 0, 1) := by decide +kernel
theorem dX2_keepLowest_51 : decode cX2_keepLowest 51 = .ok (.getfield 23, 3) := by decide +kernel
theorem dX2_keepLowest_54 : decode cX2_keepLowest 54 = .ok (.invokevirtual 139, 3) := by decide +kernel
theorem dX2_keepLowest_57 : decode cX2_keepLowest 57 = .ok (.aload_n 0, 1) := by decide +kernel
theorem dX2_keepLowest_58 : decode cX2_keepLowest 58 = .ok (.getfield 26, 3) := by decide +kernel
theorem dX2_keepLowest_61 : decode cX2_keepLowest 61 = .ok (.invokevirtual 139, 3) := by decide +kernel
theorem dX2_keepLowest_64 : decode cX2_keepLowest 64 = .ok (.aload_n 0, 1) := by decide +kernel
theorem dX2_keepLowest_65 : decode cX2_keepLowest 65 = .ok (.getfield 23, 3) := by decide +kernel
theorem dX2_keepLowest_68 : decode cX2_keepLowest 68 = .ok (.invokevirtual 84, 3) := by decide +kernel
theorem dX2_keepLowest_71 : decode cX2_keepLowest 71 = .ok (.ifCond .ne 13, 3) := by decide +kernel
theorem dX2_keepLowest_74 : decode cX2_keepLowest 74 = .ok (.aload_n 0, 1) := by decide +kernel
theorem dX2_keepLowest_75 : decode cX2_keepLowest 75 = .ok (.getfield 26, 3) := by decide +kernel
theorem dX2_keepLowest_78 : decode cX2_keepLowest 78 = .ok (.invokevirtual 84, 3) := by decide +kernel
theorem dX2_keepLowest_81 : decode cX2_keepLowest 81 = .ok (.ifCond .eq 5, 3) := by decide +kernel
theorem dX2_keepLowest_84 : decode cX2_keepLowest 84 = .ok (.iconst (-1), 1) := by decide +kernel
theorem dX2_keepLowest_85 : decode cX2_keepLowest 85 = .ok (.ireturn, 1) := by decide +kernel
theorem dX2_keepLowest_86 : decode cX2_keepLowest 86 = .ok (.aload_n 0, 1) := by decide +kernel
theorem dX2_keepLowest_87 : decode cX2_keepLowest 87 = .ok (.getfield 11, 3) := by decide +kernel
theorem dX2_keepLowest_90 : decode cX2_keepLowest 90 = .ok (.iload_n 1, 1) := by decide +kernel
theorem dX2_keepLowest_91 : decode cX2_keepLowest 91 = .ok (.aaload, 1) := by decide +kernel
theorem dX2_keepLowest_92 : decode cX2_keepLowest 92 = .ok (.aload_n 0, 1) := by decide +kernel
theorem dX2_keepLowest_93 : decode cX2_keepLowest 93 = .ok (.getfield 23, 3) := by decide +kernel
theorem dX2_keepLowest_96 : decode cX2_keepLowest 96 = .ok (.invokevirtual 91, 3) := by decide +kernel
theorem dX2_keepLowest_99 : decode cX2_keepLowest 99 = .ok (.aload_n 0, 1) := by decide +kernel
theorem dX2_keepLowest_100 : decode cX2_keepLowest 100 = .ok (.getfield 11, 3) := by decide +kernel
theorem dX2_keepLowest_103 : decode cX2_keepLowest 103 = .ok (.iload_n 2, 1) := by decide +kernel
theorem dX2_keepLowest_104 : decode cX2_keepLowest 104 = .ok (.aaload, 1) := by decide +kernel
theorem dX2_keepLowest_105 : decode cX2_keepLowest 105 = .ok (.aload_n 0, 1) := by decide +kernel
theorem dX2_keepLowest_106 : decode cX2_keepLowest 106 = .ok (.getfield 26, 3) := by decide +kernel
theorem dX2_keepLowest_109 : decode cX2_keepLowest 109 = .ok (.invokevirtual 91, 3) := by decide +kernel
theorem dX2_keepLowest_112 : decode cX2_keepLowest 112 = .ok (.iconst 1, 1) := by decide +kernel
theorem dX2_keepLowest_113 : decode cX2_keepLowest 113 = .ok (.ireturn, 1) := by decide +kernel
end
section
abbrev rm_X1_init : Room := { frames := 1, cells := 1, slots := 104, locals := 24 }
set_option maxHeartbeats 4000000 in
set_option maxRecDepth 100000 in
/-- Whole(): a row comes -/
theorem t_X1_init (l : Launch) (D : va_G) (kA : Nat → ClassId) (sz : Nat) (f0 : mw_M) {h : Nat} (hh : f0 h = some (.inr (1, [.null, .int (iI 0), .int (iI 0)]))) : mw_Mv l yX1_init (Cond.code yX1_init cX1_init 1 (none) :: gw) rm_X1_init D vwCl (tyL kA) st_S [.ref h] f0 sz (fun f => ∃ r, f0 r = none ∧ r ≠ h ∧ f h = some (wh r 0 0) ∧ f r = some (mw_ar (kA 0) 104 (fun _ => 0)) ∧ ∀ q, q ≠ h → q ≠ r → f q = f0 q) 1 104 := by
  refine mw_ofv (cc := cX1_init) (maxL := 1) (ret := none) (by decide) rfl (Nat.le_of_ble_eq_true rfl) ?_
  intro p e s m below meth c A ls Q hQ B hrt hnm hA hI hSt hl
  have hl : lv_has ls 1 [(0, .ref h)] := hl
  refine mv_aload_n B dX1_init_0 rfl (lv_at hl 0 rfl) ?_
  refine mw_obj B hl.1 kw_22 kw_14 kw_15 (Nat.le_of_ble_eq_true rfl) (Nat.le_of_ble_eq_true rfl) dX1_init_1 ?_
  refine mv_aload_n B dX1_init_4 rfl (lv_at hl 0 rfl) ?_
  refine mv_bipush B dX1_init_5 (by decide) ?_
  refine mw_newi (N := 104) B hI hA kw_37 0 rfl (by decide) (Nat.le_of_ble_eq_true rfl) (Nat.le_of_ble_eq_true rfl) dX1_init_7 (fun r H hfr hI => ?_)
  have hrh : r ≠ h := fun q => by rw [q, hh] at hfr; cases hfr
  have h1 : mw_set f0 r (mw_ar (kA 0) 104 (fun _ => 0)) h = some (.inr (1, [.null, .int (iI 0), .int (iI 0)])) := by rw [mw_set_ne _ _ (Ne.symm hrh)]; exact hh
  refine mw_putF2 (C := RX1) (T := TX1) (N := 3) B hI h1 uin_X1 tyX1 tyX1_ok nmX1 rfl 0 (by decide) kw_23 rfl hnm rfl rfl rfl (Nat.le_of_ble_eq_true rfl) dX1_init_9 (fun f H locs hq1 ho1 hI => ?_)
  refine mv_aload_n B dX1_init_12 rfl (lv_at hl 0 rfl) ?_
  refine mv_iconst B dX1_init_13 ?_
  refine mw_put2 (C := RX1) (T := TX1) (N := 3) B hI hq1 uin_X1 tyX1 tyX1_ok nmX1 rfl 1 (by decide) kw_25 rfl rfl rfl (Nat.le_of_ble_eq_true rfl) dX1_init_14 (fun f H locs hq2 ho2 hI => ?_)
  refine mv_aload_n B dX1_init_17 rfl (lv_at hl 0 rfl) ?_
  refine mv_iconst B dX1_init_18 ?_
  refine mw_put2 (C := RX1) (T := TX1) (N := 3) B hI hq2 uin_X1 tyX1 tyX1_ok nmX1 rfl 2 (by decide) kw_27 rfl rfl rfl (Nat.le_of_ble_eq_true rfl) dX1_init_19 (fun f H locs hq3 ho3 hI => ?_)
  exact mw_vret B hQ hrt hI ⟨r, hfr, hrh, hq3, by rw [ho3 r hrh, ho2 r hrh, ho1 r hrh]; exact mw_set_self _ _ _, fun q a1 a2 => by rw [ho3 q a1, ho2 q a1, ho1 q a1]; exact mw_set_ne _ _ a2⟩ dX1_init_22
abbrev rm_X1_rootOfLong : Room := { frames := 0, cells := 0, slots := 0, locals := 0 }
set_option maxHeartbeats 4000000 in
set_option maxRecDepth 100000 in
/-- rootOfLong -/
theorem t_X1_rootOfLong (l : Launch) (D : va_G) (kA : Nat → ClassId) (sz : Nat) (f0 : mw_M) {z : Int} (hz : 0 ≤ z ∧ z < 1000000000000000000) : mw_Ml l yX1_rootOfLong (Cond.code yX1_rootOfLong cX1_rootOfLong 8 ((some .long)) :: gw) rm_X1_rootOfLong D vwCl (tyL kA) st_S [.long (lI (z))] f0 sz (fun v f => (∃ t, v = lI t ∧ 0 ≤ t ∧ t * t ≤ z ∧ z < (t + 1) * (t + 1) ∧ t < 1073741824) ∧ f = f0) 0 0 := by
  refine mw_ofl (cc := cX1_rootOfLong) (maxL := 8) (ret := (some .long)) (by decide) rfl (Nat.le_of_ble_eq_true rfl) ?_
  intro p e s m below meth c A ls Q hQ B hrt hnm hA hI hSt hl
  have hl : lv_has ls 8 [(0, .long (lI (z)))] := hl
  obtain ⟨f, hI, hf⟩ : ∃ f, mw_I D vwCl A s s.heap [] f ∧ f = f0 := ⟨f0, hI, rfl⟩
  refine mv_lconst0 B dX1_rootOfLong_0 ?_
  refine mv_lstore_n (lv' := [(2, .long (lI (0))), (0, .long (lI (z)))]) B dX1_rootOfLong_1 rfl hl (by decide) rfl (fun ls hl => ?_)
  refine mv_ldc2 (z := 536870912) B dX1_rootOfLong_2 kw_274 (by decide) ?_
  refine mv_lstore (lv' := [(4, .long (lI (536870912))), (2, .long (lI (0))), (0, .long (lI (z)))]) B dX1_rootOfLong_5 hl (by decide) rfl (fun ls hl => ?_)
  have loop : ∀ (μ : Nat) (j : Nat) (bi t : Int) (ls : Array Slot), j < μ → bi = bt_ j → j ≤ 30 → 0 ≤ t → t * t ≤ z → z < (t + 2 ^ j) * (t + 2 ^ j) → t + 2 ^ j ≤ 1073741824 → lv_has ls 8 [(4, .long (lI (bi))), (2, .long (lI (t))), (0, .long (lI (z)))] → W p l e rm_X1_rootOfLong s m ([.long (lI (z))] : List Value).toArray below meth c s.heap [] 0 0 Q (F0 m 7 ls []) := by
    intro μ
    induction μ with
    | zero => intro j bi t ls hμ; exact absurd hμ (Nat.not_lt_zero _)
    | succ μ ih =>
      intro j bi t ls hμ hbi hj h0 h1 h2 h3 hl
      have b0 := bt_in j hj
      refine mv_lload B dX1_rootOfLong_7 (lv_at hl 0 rfl) ?_
      refine mv_lconst0 B dX1_rootOfLong_9 ?_
      refine mv_lcmp_le (tgt := 42) B dX1_rootOfLong_10 dX1_rootOfLong_11 (by decide) (by omega) (fun hd0 => ?_) (fun hd0 => ?_)
      · obtain rfl : j = 0 := by have := b0.2.2; omega
        refine mv_lload_n B dX1_rootOfLong_42 rfl (lv_at hl 1 rfl) ?_
        exact mw_lret B hQ hrt hI ⟨⟨t, rfl, h0, h1, h2, by have e : (2 : Int) ^ 0 = 1 := rfl; omega⟩, hf⟩ dX1_rootOfLong_43
      · obtain ⟨k, rfl⟩ : ∃ k, j = k + 1 := ⟨j - 1, by have := b0.2.2; omega⟩
        rw [show bt_ (k + 1) = 2 ^ k from rfl] at hbi
        rw [Int.pow_succ] at h2 h3
        have p0 : (0 : Int) < 2 ^ k := Int.pow_pos (by decide)
        refine mv_lload_n B dX1_rootOfLong_14 rfl (lv_at hl 1 rfl) ?_
        refine mv_lload B dX1_rootOfLong_15 (lv_at hl 0 rfl) ?_
        refine mv_ladd B dX1_rootOfLong_17 ?_
        refine mv_nml (fun mo hmo => ?_)
        rw [hbi] at hmo
        have m1 : 0 ≤ mo ∧ mo ≤ 1073741824 := by omega
        have m2 : 0 ≤ mo * mo ∧ mo * mo ≤ 1152921504606846976 := ⟨Int.mul_nonneg m1.1 m1.1, by have := Int.mul_le_mul m1.2 m1.2 m1.1 (by decide); omega⟩
        refine mv_lstore (lv' := [(6, .long (lI (mo))), (4, .long (lI (bi))), (2, .long (lI (t))), (0, .long (lI (z)))]) B dX1_rootOfLong_18 hl (by decide) rfl (fun ls hl => ?_)
        refine mv_lload B dX1_rootOfLong_20 (lv_at hl 0 rfl) ?_
        refine mv_lload B dX1_rootOfLong_22 (lv_at hl 0 rfl) ?_
        refine mv_lmul B dX1_rootOfLong_24 ?_
        refine mv_lload_n B dX1_rootOfLong_25 rfl (lv_at hl 3 rfl) ?_
        refine mv_lcmp_gt (tgt := 33) B dX1_rootOfLong_26 dX1_rootOfLong_27 (by decide) (by omega) (fun hd1 => ?_) (fun hd1 => ?_)
        · refine mv_lload B dX1_rootOfLong_33 (lv_at hl 1 rfl) ?_
          refine mv_iconst B dX1_rootOfLong_35 ?_
          refine mv_lshr1 B dX1_rootOfLong_36 (by omega) ?_
          refine mv_lstore (lv' := [(4, .long (lI ((bi) / (2)))), (6, .long (lI (mo))), (2, .long (lI (t))), (0, .long (lI (z)))]) B dX1_rootOfLong_37 hl (by decide) rfl (fun ls hl => ?_)
          refine mv_goto (tgt := 7) B dX1_rootOfLong_39 (by decide) ?_
          exact ih k _ _ ls (by omega) (by rw [hbi]; exact bt_half k) (by omega) h0 h1 (by rw [← hmo]; omega) (by omega) (lv_sub hl [0, 2, 3] rfl)
        · refine mv_lload B dX1_rootOfLong_30 (lv_at hl 0 rfl) ?_
          refine mv_lstore_n (lv' := [(2, .long (lI (mo))), (6, .long (lI (mo))), (4, .long (lI (bi))), (0, .long (lI (z)))]) B dX1_rootOfLong_32 rfl hl (by decide) rfl (fun ls hl => ?_)
          refine mv_lload B dX1_rootOfLong_33 (lv_at hl 2 rfl) ?_
          refine mv_iconst B dX1_rootOfLong_35 ?_
          refine mv_lshr1 B dX1_rootOfLong_36 (by omega) ?_
          refine mv_lstore (lv' := [(4, .long (lI ((bi) / (2)))), (2, .long (lI (mo))), (6, .long (lI (mo))), (0, .long (lI (z)))]) B dX1_rootOfLong_37 hl (by decide) rfl (fun ls hl => ?_)
          refine mv_goto (tgt := 7) B dX1_rootOfLong_39 (by decide) ?_
          exact ih k _ _ ls (by omega) (by rw [hbi]; exact bt_half k) (by omega) m1.1 (by omega) (by rw [hmo, Int.add_assoc, show (2 : Int) ^ k + 2 ^ k = 2 ^ k * 2 by omega]; exact h2) (by omega) (lv_sub hl [0, 1, 3] rfl)
  have e30 : ((0 : Int) + 2 ^ 30) * (0 + 2 ^ 30) = 1152921504606846976 := by decide
  exact loop 31 30 _ _ ls (by decide) (by decide) (by decide) (by decide) (by omega) (by rw [e30]; omega) (by decide) (lv_sub hl [0, 1, 2] rfl)
abbrev rm_XA_rangeCheck : Room := { frames := 0, cells := 0, slots := 0, locals := 0 }
set_option maxHeartbeats 4000000 in
set_option maxRecDepth 100000 in
/-- rangeCheck -/
theorem t_XA_rangeCheck (l : Launch) (D : va_G) (kA : Nat → ClassId) (sz : Nat) (f0 : mw_M) {n0 a0 b0 : Nat} (h1 : a0 ≤ b0) (h2 : b0 ≤ n0) (h3 : n0 ≤ 100000) : mw_Mv l yXA_rangeCheck (Cond.code yXA_rangeCheck cXA_rangeCheck 3 (none) :: gw) rm_XA_rangeCheck D vwCl (tyL kA) st_S [.int (iI ((n0 : Int))), .int (iI ((a0 : Int))), .int (iI ((b0 : Int)))] f0 sz (fun f => f = f0) 0 0 := by
  refine mw_ofv (cc := cXA_rangeCheck) (maxL := 3) (ret := none) (by decide) rfl (Nat.le_of_ble_eq_true rfl) ?_
  intro p e s m below meth c A ls Q hQ B hrt hnm hA hI hSt hl
  have hl : lv_has ls 3 [(0, .int (iI ((n0 : Int)))), (1, .int (iI ((a0 : Int)))), (2, .int (iI ((b0 : Int))))] := hl
  obtain ⟨f, hI, hf⟩ : ∃ f, mw_I D vwCl A s s.heap [] f ∧ f = f0 := ⟨f0, hI, rfl⟩
  refine mv_iload_n B dXA_rangeCheck_0 rfl (lv_at hl 1 rfl) ?_
  refine mv_iload_n B dXA_rangeCheck_1 rfl (lv_at hl 2 rfl) ?_
  refine mv_icmp_le (tgt := 46) B dXA_rangeCheck_2 (by decide) (by omega) (fun hc => ?_) (fun hc => ?_)
  · refine mv_iload_n B dXA_rangeCheck_46 rfl (lv_at hl 1 rfl) ?_
    refine mv_if_ge (tgt := 59) B dXA_rangeCheck_47 (by decide) (by omega) (fun hc2 => ?_) (fun hc2 => ?_)
    · refine mv_iload_n B dXA_rangeCheck_59 rfl (lv_at hl 2 rfl) ?_
      refine mv_iload_n B dXA_rangeCheck_60 rfl (lv_at hl 0 rfl) ?_
      refine mv_icmp_le (tgt := 73) B dXA_rangeCheck_61 (by decide) (by omega) (fun hc3 => ?_) (fun hc3 => ?_)
      · exact mw_vret B hQ hrt hI hf dXA_rangeCheck_73
      · exact absurd hc3 (by omega)
    · exact absurd hc2 (by omega)
  · exact absurd hc (by omega)
abbrev rm_XA_fill : Room := { frames := 1, cells := 0, slots := 0, locals := 22 }
set_option maxHeartbeats 4000000 in
set_option maxRecDepth 100000 in
/-- Arrays.fill -/
theorem t_XA_fill (l : Launch) (D : va_G) (kA : Nat → ClassId) (sz : Nat) (f0 : mw_M) {a a0 b0 : Nat} {x : Int} {g : Nat → Int} (ha : f0 a = some (mw_ar (kA 0) 104 g)) (h1 : a0 ≤ b0) (h2 : b0 ≤ 104) : mw_Mv l yXA_fill (Cond.code yXA_fill cXA_fill 5 (none) :: gw) rm_XA_fill D vwCl (tyL kA) st_S [.ref a, .int (iI ((a0 : Int))), .int (iI ((b0 : Int))), .int (iI (x))] f0 sz (fun f => (∃ g', f a = some (mw_ar (kA 0) 104 g') ∧ (∀ i, a0 ≤ i → i < b0 → g' i = x) ∧ (∀ i, i < a0 ∨ b0 ≤ i → g' i = g i)) ∧ ∀ q, q ≠ a → f q = f0 q) 0 0 := by
  refine mw_ofv (cc := cXA_fill) (maxL := 5) (ret := none) (by decide) rfl (Nat.le_of_ble_eq_true rfl) ?_
  intro p e s m below meth c A ls Q hQ B hrt hnm hA hI hSt hl
  have hl : lv_has ls 5 [(0, .ref a), (1, .int (iI ((a0 : Int)))), (2, .int (iI ((b0 : Int)))), (3, .int (iI (x)))] := hl
  obtain ⟨f, hI, hf⟩ : ∃ f, mw_I D vwCl A s s.heap [] f ∧ f = f0 := ⟨f0, hI, rfl⟩
  have ha1 : f a = some (mw_ar (kA 0) 104 g) := by rw [hf]; exact ha
  refine mv_aload_n B dXA_fill_0 rfl (lv_at hl 0 rfl) ?_
  refine mw_alen B hI 0 ha1 rfl dXA_fill_1 ?_
  refine mv_iload_n B dXA_fill_2 rfl (lv_at hl 1 rfl) ?_
  refine mv_iload_n B dXA_fill_3 rfl (lv_at hl 2 rfl) ?_
  refine mw_callv hI hA (va_runS (As := [.int (iI (((104 : Nat) : Int))), .int (iI ((a0 : Int))), .int (iI ((b0 : Int)))]) (rest := []) B.fix (t_XA_rangeCheck l D kA s.heap.size f (n0 := 104) h1 h2 (by decide)) (cwS 3 B.2.2.2.2.1 (gS kw_253 kw_254 kw_7 kw_255) rfl rfl rfl (by decide +kernel) ⟨Nat.le_of_ble_eq_true rfl, Nat.le_of_ble_eq_true rfl⟩) ⟨mw_blind st_S.blind, mw_pre B hI (hSt.call hI hA)⟩ rfl rfl hl.1 rfl (lv_room (Nat.le_of_ble_eq_true rfl)) dXA_fill_4 ⟨Nat.le_of_ble_eq_true rfl, Nat.le_of_ble_eq_true rfl⟩) (fun f H locs hp hI2 => ?_)
  clear hI
  have hI := hI2
  clear hI2
  obtain rfl := hp
  refine mv_iload_n B dXA_fill_7 rfl (lv_at hl 1 rfl) ?_
  refine mv_istore (lv' := [(4, .int (iI ((a0 : Int)))), (0, .ref a), (1, .int (iI ((a0 : Int)))), (2, .int (iI ((b0 : Int)))), (3, .int (iI (x)))]) B dXA_fill_8 hl (by decide) rfl (fun ls hl => ?_)
  have loop : ∀ (μ : Nat) (j : Nat) (i : Int) (g' : Nat → Int) (f : mw_M) (H : Heap) (locs : List Loc) (ls : Array Slot), b0 - j < μ → i = (j : Int) → a0 ≤ j → j ≤ b0 → (∀ i, a0 ≤ i → i < j → g' i = x) → (∀ i, i < a0 ∨ j ≤ i → g' i = g i) → f a = some (mw_ar (kA 0) 104 g') → (∀ q, q ≠ a → f q = f0 q) → mw_I D vwCl A s H locs f → lv_has ls 5 [(4, .int (iI (i))), (0, .ref a), (1, .int (iI ((a0 : Int)))), (2, .int (iI ((b0 : Int)))), (3, .int (iI (x)))] → W p l e rm_XA_fill s m ([.ref a, .int (iI ((a0 : Int))), .int (iI ((b0 : Int))), .int (iI (x))] : List Value).toArray below meth c H locs 0 0 Q (F0 m 10 ls []) := by
    intro μ
    induction μ with
    | zero => intro j i g' f H locs ls hμ; exact absurd hμ (Nat.not_lt_zero _)
    | succ μ ih =>
      intro j i g' f H locs ls hμ hi hj1 hj2 hin hout hfa hfo hI hl
      refine mv_iload B dXA_fill_10 (lv_at hl 0 rfl) ?_
      refine mv_iload_n B dXA_fill_12 rfl (lv_at hl 3 rfl) ?_
      refine mv_icmp_ge (tgt := 27) B dXA_fill_13 (by decide) (by omega) (fun hd0 => ?_) (fun hd0 => ?_)
      · obtain rfl : b0 = j := by omega
        exact mw_vret B hQ hrt hI ⟨⟨g', hfa, hin, hout⟩, hfo⟩ dXA_fill_27
      · refine mv_aload_n B dXA_fill_16 rfl (lv_at hl 1 rfl) ?_
        refine mv_iload B dXA_fill_17 (lv_at hl 0 rfl) ?_
        refine mv_iload_n B dXA_fill_19 rfl (lv_at hl 4 rfl) ?_
        refine mw_iast B hI 0 hfa rfl j (by omega) (by omega) (by decide) dXA_fill_20 (fun H locs hI => ?_)
        refine mv_iinc (k := 0) (lv' := [(4, .int (iI (i + 1))), (0, .ref a), (1, .int (iI ((a0 : Int)))), (2, .int (iI ((b0 : Int)))), (3, .int (iI (x)))]) B dXA_fill_21 hl rfl (by decide) rfl (fun ls hl => ?_)
        refine mv_goto (tgt := 10) B dXA_fill_24 (by decide) ?_
        refine ih (j + 1) _ _ _ H locs ls (by omega) (by omega) (by omega) (by omega) (fun i h3 h4 => ?_) (fun i h3 => by rw [upI_ne _ _ (by omega)]; exact hout i (by omega)) (mw_set_self _ _ _) (fun q hq => by rw [mw_set_ne _ _ hq]; exact hfo q hq) hI (lv_sub hl [0, 1, 2, 3, 4] rfl)
        by_cases q : i = j
        · rw [q, upI_self]
        · rw [upI_ne _ _ q]; exact hin i h3 (by omega)
  exact loop (b0 + 1) a0 _ g f H locs ls (by omega) rfl (Nat.le_refl _) h1 (fun i h3 h4 => absurd h3 (by omega)) (fun i _ => rfl) (by rw [hf]; exact ha) (fun q _ => by rw [hf]) hI (lv_sub hl [0, 1, 2, 3, 4] rfl)
abbrev rm_X1_loadAboveRoot : Room := { frames := 2, cells := 0, slots := 0, locals := 46 }
set_option maxHeartbeats 4000000 in
set_option maxRecDepth 100000 in
/-- loadAboveRoot -/
theorem t_X1_loadAboveRoot (l : Launch) (D : va_G) (kA : Nat → ClassId) (sz : Nat) (f0 : mw_M) {h r x rx : Nat} {zx : Int} (hw : Rw (kA 0) f0 h r) (hx : Rp (kA 0) f0 x rx zx) (x1 : x ≠ h) (x2 : rx ≠ r) (hz0 : 0 < zx) (hzb : (zx.natAbs : Int) < 1000000 ^ 50) : mw_Mv l yX1_loadAboveRoot (Cond.code yX1_loadAboveRoot cX1_loadAboveRoot 8 (none) :: gw) rm_X1_loadAboveRoot D vwCl (tyL kA) st_S [.ref h, .ref x] f0 sz (fun f => (∃ G, Rp (kA 0) f h r G ∧ G < 1000000 ^ 27 ∧ ∀ t, 0 ≤ t → t * t ≤ zx → zx < (t + 1) * (t + 1) → t < G ∧ 1000 * (G - t - 2) ≤ t) ∧ fo f0 f h r) 0 0 := by
  refine mw_ofv (cc := cX1_loadAboveRoot) (maxL := 8) (ret := none) (by decide) rfl (Nat.le_of_ble_eq_true rfl) ?_
  intro p e s m below meth c A ls Q hQ B hrt hnm hA hI hSt hl
  have hl : lv_has ls 8 [(0, .ref h), (1, .ref x)] := hl
  obtain ⟨g, n, b, hh, hr⟩ := hw
  obtain ⟨gx, nx, bx, hx, hxr, hzx⟩ := hx
  have m1 := (hzx.size 50).mpr hzb
  obtain ⟨f, hI, hT⟩ : ∃ f, mw_I D vwCl A s s.heap [] f ∧ wSt (kA 0) f0 h r f g n b := ⟨f0, hI, wSt.self hh hr⟩
  have x3 := wh_ne hx hr
  have x4 := Ne.symm (wh_ne hh hxr)
  have q1 := hzx.b0
  have q3 := hzx.nat
  have nx1 : 1 ≤ nx := by have := hzx.zero; omega
  refine mv_aload_n B dX1_loadAboveRoot_0 rfl (lv_at hl 1 rfl) ?_
  refine ww_size B hI (hT.get hx x1 x3) uin_X1 kw_25 dX1_loadAboveRoot_1 ?_
  refine mv_iconst B dX1_loadAboveRoot_4 ?_
  have j22 : ∀ (ct : Nat), ct = (if nx < 2 then 0 else (nx - 2) / 2 * 2) → W p l e rm_X1_loadAboveRoot s m ([.ref h, .ref x] : List Value).toArray below meth c s.heap [] 0 0 Q (F0 m 22 ls [.int (iI ((ct : Int)))]) := by
    intro ct hct
    refine mv_istore_n (lv' := [(2, .int (iI ((ct : Int)))), (0, .ref h), (1, .ref x)]) B dX1_loadAboveRoot_22 rfl hl (by decide) rfl (fun ls hl => ?_)
    refine mv_lconst0 B dX1_loadAboveRoot_23 ?_
    refine mv_lstore_n (lv' := [(3, .long (lI (0))), (2, .int (iI ((ct : Int)))), (0, .ref h), (1, .ref x)]) B dX1_loadAboveRoot_24 rfl hl (by decide) rfl (fun ls hl => ?_)
    refine mv_aload_n B dX1_loadAboveRoot_25 rfl (lv_at hl 3 rfl) ?_
    refine ww_size B hI (hT.get hx x1 x3) uin_X1 kw_25 dX1_loadAboveRoot_26 ?_
    refine mv_iconst B dX1_loadAboveRoot_29 ?_
    refine mv_isub B dX1_loadAboveRoot_30 ?_
    refine mv_istore (lv' := [(5, .int (iI (((nx : Int)) - (1)))), (3, .long (lI (0))), (2, .int (iI ((ct : Int)))), (0, .ref h), (1, .ref x)]) B dX1_loadAboveRoot_31 hl (by decide) rfl (fun ls hl => ?_)
    have loop : ∀ (μ : Nat) (j : Nat) (y t : Int) (ls : Array Slot), j < μ → y = (j : Int) - 1 → ct ≤ j → j ≤ nx → t = wv gx j (nx - j) → lv_has ls 8 [(5, .int (iI (y))), (3, .long (lI (t))), (2, .int (iI ((ct : Int)))), (0, .ref h), (1, .ref x)] → W p l e rm_X1_loadAboveRoot s m ([.ref h, .ref x] : List Value).toArray below meth c s.heap [] 0 0 Q (F0 m 33 ls []) := by
      intro μ
      induction μ with
      | zero => intro j y t ls hμ; exact absurd hμ (Nat.not_lt_zero _)
      | succ μ ih =>
        intro j y t ls hμ hy hj1 hj2 ht hl
        refine mv_iload B dX1_loadAboveRoot_33 (lv_at hl 0 rfl) ?_
        refine mv_iload_n B dX1_loadAboveRoot_35 rfl (lv_at hl 2 rfl) ?_
        refine mv_icmp_lt (tgt := 60) B dX1_loadAboveRoot_36 (by decide) (by omega) (fun hd0 => ?_) (fun hd0 => ?_)
        · obtain rfl : ct = j := by omega
          have l1 := lead_in hzx.toCn nx1 hct
          rw [← ht] at l1
          refine mv_lload_n B dX1_loadAboveRoot_60 rfl (lv_at hl 1 rfl) ?_
          refine mw_calll hI hA (va_runS (As := [.long (lI (t))]) (rest := []) B.fix (t_X1_rootOfLong l D kA s.heap.size f (z := t) (by omega)) (cwS 1 B.2.2.2.2.1 (gS kw_271 kw_272 kw_2 kw_273) rfl rfl rfl (by decide +kernel) ⟨Nat.le_of_ble_eq_true rfl, Nat.le_of_ble_eq_true rfl⟩) ⟨mw_blind st_S.blind, mw_pre B hI (hSt.call hI hA)⟩ rfl rfl hl.1 rfl (lv_room (Nat.le_of_ble_eq_true rfl)) dX1_loadAboveRoot_61 ⟨Nat.le_of_ble_eq_true rfl, Nat.le_of_ble_eq_true rfl⟩) (fun r f H locs hp hI2 => ?_)
          clear hI
          have hI := hI2
          clear hI2
          obtain ⟨⟨u, rfl, u0, u1, u2, u3⟩, rfl⟩ := hp
          refine mv_lconst1 B dX1_loadAboveRoot_64 ?_
          refine mv_ladd B dX1_loadAboveRoot_65 ?_
          refine mv_nml (fun ab hab => ?_)
          refine mv_lstore (lv' := [(5, .long (lI (ab))), (3, .long (lI (t))), (2, .int (iI ((ct : Int)))), (0, .ref h), (1, .ref x)]) B dX1_loadAboveRoot_66 hl (by decide) rfl (fun ls hl => ?_)
          refine mv_iload_n B dX1_loadAboveRoot_68 rfl (lv_at hl 2 rfl) ?_
          refine mv_iconst B dX1_loadAboveRoot_69 ?_
          refine mv_idiv B dX1_loadAboveRoot_70 (by omega) ?_
          rw [show (ct : Int) / 2 = ((ct / 2 : Nat) : Int) by omega]
          refine mv_istore (lv' := [(7, .int (iI (((ct / 2 : Nat) : Int)))), (5, .long (lI (ab))), (3, .long (lI (t))), (2, .int (iI ((ct : Int)))), (0, .ref h), (1, .ref x)]) B dX1_loadAboveRoot_71 hl (by decide) rfl (fun ls hl => ?_)
          refine mv_aload_n B dX1_loadAboveRoot_73 rfl (lv_at hl 4 rfl) ?_
          refine ww_parts B hI hT.1 uin_X1 kw_23 dX1_loadAboveRoot_74 ?_
          refine mv_iconst B dX1_loadAboveRoot_77 ?_
          refine mv_iload B dX1_loadAboveRoot_78 (lv_at hl 0 rfl) ?_
          refine mv_iconst B dX1_loadAboveRoot_80 ?_
          refine mw_callv hI hA (va_runS (As := [.ref r, .int (iI (0)), .int (iI (((ct / 2 : Nat) : Int))), .int (iI (0))]) (rest := []) B.fix (t_XA_fill l D kA H.size f (a0 := 0) (b0 := ct / 2) (x := 0) hT.2.1 (by omega) (by omega)) (va_cwS 4 B.2.2.2.2.1 (gT kw_275 kw_251 kw_7 kw_252) rfl rfl rfl (by decide +kernel) ⟨Nat.le_of_ble_eq_true rfl, Nat.le_of_ble_eq_true rfl⟩) ⟨mw_blind st_S.blind, mw_pre B hI (hSt.call hI hA)⟩ rfl rfl hl.1 rfl (lv_room (Nat.le_of_ble_eq_true rfl)) dX1_loadAboveRoot_81 ⟨Nat.le_of_ble_eq_true rfl, Nat.le_of_ble_eq_true rfl⟩) (fun f H locs hp hI2 => ?_)
          clear hI
          have hI := hI2
          clear hI2
          obtain ⟨⟨g1, k1, k2, k3⟩, k4⟩ := hp
          have hT := hT.row k1 k4
          refine mv_aload_n B dX1_loadAboveRoot_84 rfl (lv_at hl 4 rfl) ?_
          refine ww_parts B hI hT.1 uin_X1 kw_23 dX1_loadAboveRoot_85 ?_
          refine mv_iload B dX1_loadAboveRoot_88 (lv_at hl 0 rfl) ?_
          refine mv_lload B dX1_loadAboveRoot_90 (lv_at hl 1 rfl) ?_
          refine mv_ldc2 (z := 1000000) B dX1_loadAboveRoot_92 kw_101 (by decide) ?_
          refine mv_lrem B dX1_loadAboveRoot_95 (by omega) ?_
          refine mv_l2i B dX1_loadAboveRoot_96 ?_
          refine ww_iast B hI hT (ct / 2) (by omega) (by omega) dX1_loadAboveRoot_97 (fun f H locs hT hI => ?_)
          refine mv_aload_n B dX1_loadAboveRoot_98 rfl (lv_at hl 4 rfl) ?_
          refine ww_parts B hI hT.1 uin_X1 kw_23 dX1_loadAboveRoot_99 ?_
          refine mv_iload B dX1_loadAboveRoot_102 (lv_at hl 0 rfl) ?_
          refine mv_iconst B dX1_loadAboveRoot_104 ?_
          refine mv_iadd B dX1_loadAboveRoot_105 ?_
          refine mv_lload B dX1_loadAboveRoot_106 (lv_at hl 1 rfl) ?_
          refine mv_ldc2 (z := 1000000) B dX1_loadAboveRoot_108 kw_101 (by decide) ?_
          refine mv_ldiv B dX1_loadAboveRoot_111 (by omega) ?_
          refine mv_l2i B dX1_loadAboveRoot_112 ?_
          refine ww_iast B hI hT (ct / 2 + 1) (by omega) (by omega) dX1_loadAboveRoot_113 (fun f H locs hT hI => ?_)
          refine mv_aload_n B dX1_loadAboveRoot_114 rfl (lv_at hl 4 rfl) ?_
          refine mv_iconst B dX1_loadAboveRoot_115 ?_
          refine ww_putb B hI hT (by decide) uin_X1 kw_27 dX1_loadAboveRoot_116 (fun f H locs hT hI => ?_)
          refine mv_aload_n B dX1_loadAboveRoot_119 rfl (lv_at hl 4 rfl) ?_
          refine mv_iload B dX1_loadAboveRoot_120 (lv_at hl 0 rfl) ?_
          refine mv_iconst B dX1_loadAboveRoot_122 ?_
          refine mv_iadd B dX1_loadAboveRoot_123 ?_
          have v1 : dg (upI (upI g1 (ct / 2) (ab % 1000000)) (ct / 2 + 1) (ab / 1000000)) (ct / 2 + 2) ∧ dv (upI (upI g1 (ct / 2) (ab % 1000000)) (ct / 2 + 1) (ab / 1000000)) (ct / 2 + 2) = ab * 1000000 ^ (ct / 2) := ab_row (by omega) (fun i hi => k2 i (by omega) hi)
          refine mw_callv hI hA (va_runV (As := [.int (iI ((((ct / 2 : Nat) : Int)) + (2)))]) (rest := []) B.fix (t_X1_trimTo l D kA H.size f (k := ct / 2 + 2) hT.1 hT.2.1 (by omega) v1.1) (cwV 1 B.2.2.2.2.1 (gV kw_105 kw_106 kw_107 kw_2 kw_108) rfl rfl rfl (by decide +kernel) ⟨Nat.le_of_ble_eq_true rfl, Nat.le_of_ble_eq_true rfl⟩) ⟨mw_blind st_S.blind, mw_recv B hI hT.1 rfl, mw_pre B hI (hSt.call hI hA)⟩ rfl rfl hl.1 rfl (lv_room (Nat.le_of_ble_eq_true rfl)) dX1_loadAboveRoot_124 ⟨Nat.le_of_ble_eq_true rfl, Nat.le_of_ble_eq_true rfl⟩) (fun f H locs hp hI2 => ?_)
          clear hI
          have hI := hI2
          clear hI2
          obtain ⟨n', a1, a2, a3, hT2⟩ := hp
          have hT := hT.trans hT2
          have e1 := dv_trim a1 a2
          have hR := hT.toRp (rp_of ⟨by omega, v1.1.sub a1, a3⟩ (e1.symm.trans v1.2) (Or.inl ⟨rfl, rfl⟩))
          have hA := above_root hzx.toCn nx1 m1 hct ht u0 u1 u2 hab (show zx = dv gx nx by omega)
          exact mw_vret B hQ hrt hI ⟨⟨_, hR.1, hA.1, hA.2⟩, hR.2⟩ dX1_loadAboveRoot_127
        · obtain ⟨k, rfl⟩ : ∃ k, j = k + 1 := ⟨j - 1, by omega⟩
          have g1 := hzx.2.1 k (by omega)
          refine mv_lload_n B dX1_loadAboveRoot_39 rfl (lv_at hl 1 rfl) ?_
          refine mv_ldc2 (z := 1000000) B dX1_loadAboveRoot_40 kw_101 (by decide) ?_
          refine mv_lmul B dX1_loadAboveRoot_43 ?_
          refine mv_aload_n B dX1_loadAboveRoot_44 rfl (lv_at hl 4 rfl) ?_
          refine ww_parts B hI (hT.get hx x1 x3) uin_X1 kw_23 dX1_loadAboveRoot_45 ?_
          refine mv_iload B dX1_loadAboveRoot_48 (lv_at hl 0 rfl) ?_
          refine mw_iald B hI 0 (hT.get hxr x4 x2) rfl (k) (by omega) (by omega) (by decide) dX1_loadAboveRoot_50 ?_
          refine mv_i2l B dX1_loadAboveRoot_51 (by omega) ?_
          refine mv_ladd B dX1_loadAboveRoot_52 ?_
          refine mv_lstore_n (lv' := [(3, .long (lI (((t) * (1000000)) + (gx (k))))), (5, .int (iI (y))), (2, .int (iI ((ct : Int)))), (0, .ref h), (1, .ref x)]) B dX1_loadAboveRoot_53 rfl hl (by decide) rfl (fun ls hl => ?_)
          refine mv_iinc (k := 1) (lv' := [(5, .int (iI (y + (-1)))), (3, .long (lI (((t) * (1000000)) + (gx (k))))), (2, .int (iI ((ct : Int)))), (0, .ref h), (1, .ref x)]) B dX1_loadAboveRoot_54 hl rfl (by decide) rfl (fun ls hl => ?_)
          refine mv_goto (tgt := 33) B dX1_loadAboveRoot_57 (by decide) ?_
          refine ih k _ _ ls (by omega) (by omega) (by omega) (by omega) ?_ (lv_sub hl [0, 1, 2, 3, 4] rfl)
          rw [show nx - k = (nx - (k + 1)) + 1 by omega, wv_cons, ht]
          omega
    exact loop (nx + 1) nx _ _ ls (Nat.lt_succ_self nx) rfl (by split at hct <;> omega) (Nat.le_refl nx) (by rw [Nat.sub_self, wv_0]) (lv_sub hl [0, 1, 2, 3, 4] rfl)
  refine mv_icmp_ge (tgt := 12) B dX1_loadAboveRoot_5 (by decide) (by omega) (fun hc => ?_) (fun hc => ?_)
  · refine mv_aload_n B dX1_loadAboveRoot_12 rfl (lv_at hl 1 rfl) ?_
    refine ww_size B hI (hT.get hx x1 x3) uin_X1 kw_25 dX1_loadAboveRoot_13 ?_
    refine mv_iconst B dX1_loadAboveRoot_16 ?_
    refine mv_isub B dX1_loadAboveRoot_17 ?_
    refine mv_iconst B dX1_loadAboveRoot_18 ?_
    refine mv_idiv B dX1_loadAboveRoot_19 (by omega) ?_
    refine mv_iconst B dX1_loadAboveRoot_20 ?_
    refine mv_imul B dX1_loadAboveRoot_21 ?_
    rw [show ((nx : Int) - 2) / 2 * 2 = (((nx - 2) / 2 * 2 : Nat) : Int) by omega]
    exact j22 _ (by rw [if_neg (by omega)])
  · refine mv_iconst B dX1_loadAboveRoot_8 ?_
    refine mv_goto (tgt := 22) B dX1_loadAboveRoot_9 (by decide) ?_
    exact j22 0 (by rw [if_pos (by omega)])
end
section
/-! the three leading parts of two numbers, at the places of the greater one -/
def p0_ (g : Nat → Int) (n : Nat) (k : Int) : Int := if k < 0 then 0 else pz g n k.toNat
theorem p0_in {g : Nat → Int} {n : Nat} (h : dg g n) (k : Int) : 0 ≤ p0_ g n k ∧ p0_ g n k < 1000000 := by
  unfold p0_
  by_cases q : k < 0
  · rw [if_pos q]; decide
  · rw [if_neg q]; exact pz_dg h (k.toNat + 1) k.toNat (by omega)
def l3 (g : Nat → Int) (n nm : Nat) : Int := (p0_ g n ((nm : Int) - 1) * 1000000 + p0_ g n ((nm : Int) - 1 - 1)) * 1000000 + p0_ g n ((nm : Int) - 1 - 2)
theorem l3_in {g : Nat → Int} {n : Nat} (h : dg g n) (nm : Nat) : 0 ≤ l3 g n nm ∧ l3 g n nm < 1000000000000000000 := by
  have a := p0_in h ((nm : Int) - 1)
  have b := p0_in h ((nm : Int) - 1 - 1)
  have c := p0_in h ((nm : Int) - 1 - 2)
  unfold l3
  omega
theorem p0_nat {g : Nat → Int} {n : Nat} (k : Nat) {x : Int} (hx : x = (k : Int)) : p0_ g n x = pz g n k := by
  subst hx
  unfold p0_
  rw [if_neg (by omega)]
  rfl
theorem p0_neg {g : Nat → Int} {n : Nat} {x : Int} (hx : x < 0) : p0_ g n x = 0 := by
  unfold p0_
  rw [if_pos hx]
/-- what the leading parts leave out; short numbers are lifted by K -/
theorem l3_split {nm : Nat} (hn : 1 ≤ nm) : ∃ K P : Int, 0 < K ∧ 0 < P ∧ ∀ (g : Nat → Int) (n : Nat), dg g n → n ≤ nm → ∃ u0, 0 ≤ u0 ∧ u0 < P ∧ K * dv g n = l3 g n nm * P + u0 := by
  rcases Nat.lt_or_ge nm 3 with q | q
  · rcases (show nm = 1 ∨ nm = 2 by omega) with rfl | rfl
    · refine ⟨1000000 * 1000000, 1, by decide, by decide, fun g n hg hle => ⟨0, by decide, by decide, ?_⟩⟩
      have e1 : dv g n = pz g n 0 := by rw [← dv_pz hle, dv_s, dv_0]; simp
      unfold l3
      rw [p0_nat 0 (by decide), p0_neg (by decide), p0_neg (by decide), e1]
      omega
    · refine ⟨1000000, 1, by decide, by decide, fun g n hg hle => ⟨0, by decide, by decide, ?_⟩⟩
      have e1 : dv g n = pz g n 0 + pz g n 1 * 1000000 := by rw [← dv_pz hle, dv_s, dv_s, dv_0]; simp
      unfold l3
      rw [p0_nat 1 (by decide), p0_nat 0 (by decide), p0_neg (by decide), e1]
      omega
  · obtain ⟨k, rfl⟩ : ∃ k, nm = k + 3 := ⟨nm - 3, by omega⟩
    refine ⟨1, 1000000 ^ k, by decide, bp_pos k, fun g n hg hle => ⟨dv (pz g n) k, dv_nn (pz_dg hg k), dv_lt (pz_dg hg k), ?_⟩⟩
    have e1 : dv g n = dv (pz g n) (k + 3) := (dv_pz hle).symm
    unfold l3
    rw [p0_nat (k + 2) (by omega), p0_nat (k + 1) (by omega), p0_nat k (by omega), e1, show k + 3 = k + 2 + 1 from rfl, dv_s, dv_s, dv_s, bp_s, bp_s]
    grind
theorem l3_top {g : Nat → Int} {n : Nat} (h : cn g n) (hn : 1 ≤ n) : 1 ≤ l3 g n n := by
  have a : 1 ≤ p0_ g n ((n : Int) - 1) := by
    rw [p0_nat (n - 1) (by omega), pz_lt (by omega)]
    have := h.2.1 (n - 1) (by omega)
    have := h.2.2 (by omega)
    omega
  have b := p0_in h.2.1 ((n : Int) - 1 - 1)
  have c := p0_in h.2.1 ((n : Int) - 1 - 2)
  unfold l3
  omega
theorem l3_le {X Y P K U V u0 v0 : Int} (hP : 0 < P) (hK : 0 < K) (hu : u0 < P) (hv : 0 ≤ v0) (eU : K * U = X * P + u0) (eV : K * V = Y * P + v0) (h : V ≤ U) : Y ≤ X := by
  have h1 : K * V ≤ K * U := Int.mul_le_mul_of_nonneg_left h (Int.le_of_lt hK)
  rcases Int.lt_or_le X Y with q | q
  · have h2 : (X + 1) * P ≤ Y * P := Int.mul_le_mul_of_nonneg_right (by omega) (Int.le_of_lt hP)
    rw [Int.add_mul, Int.one_mul] at h2
    omega
  · exact q
/-- what the foretold steps come to -/
def lhO (U V a b c d : Int) : Prop :=
  (-1000000000 ≤ a ∧ a ≤ 1000000000 ∧ -1000000000 ≤ b ∧ b ≤ 1000000000 ∧ -1000000000 ≤ c ∧ c ≤ 1000000000 ∧ -1000000000 ≤ d ∧ d ≤ 1000000000) ∧
  (0 ≤ c * U + d * V ∧ c * U + d * V ≤ a * U + b * V ∧ a * U + b * V ≤ U) ∧
  Int.gcd (a * U + b * V) (c * U + d * V) = Int.gcd U V ∧
  ((a = 1 ∧ b = 0 ∧ c = 0 ∧ d = 1) ∨ 2 * ((a * U + b * V) * (c * U + d * V)) ≤ U * V)
theorem lh.out {X Y U V a b c d x y : Int} (h : lh X Y U V a b c d x y) (hu : a * U + b * V ≤ U) : lhO U V a b c d := ⟨h.2.2.2.2.1, ⟨h.2.2.2.2.2.1.1, h.2.2.2.2.2.1.2, hu⟩, h.2.2.2.2.2.2.1, h.2.2.2.2.2.2.2⟩
/-- one place of the two rows -/
theorem fs_step {w P A B x y a b cy pt c2 : Int} (hv : w + cy * P = a * A + b * B) (h : pt + c2 * 1000000 = a * x + b * y + cy) : w + pt * P + c2 * (P * 1000000) = a * (A + x * P) + b * (B + y * P) := by
  have e : pt = a * x + b * y + cy - c2 * 1000000 := by omega
  subst e
  grind
theorem ab_rng {a b x y : Int} (ha : -1000000000 ≤ a ∧ a ≤ 1000000000) (hb : -1000000000 ≤ b ∧ b ≤ 1000000000) (hx : 0 ≤ x ∧ x < 1000000) (hy : 0 ≤ y ∧ y < 1000000) : -1999998000000000 ≤ a * x + b * y ∧ a * x + b * y ≤ 1999998000000000 := by
  have a1 : a * x ≤ 1000000000 * x := Int.mul_le_mul_of_nonneg_right ha.2 hx.1
  have a2 : -1000000000 * x ≤ a * x := Int.mul_le_mul_of_nonneg_right ha.1 hx.1
  have b1 : b * y ≤ 1000000000 * y := Int.mul_le_mul_of_nonneg_right hb.2 hy.1
  have b2 : -1000000000 * y ≤ b * y := Int.mul_le_mul_of_nonneg_right hb.1 hy.1
  omega
abbrev prc (un mo fe : Nat) (a b c d : Int) : va_E := .inr (0, [.ref un, .ref mo, .ref fe, .long (lI a), .long (lI b), .long (lI c), .long (lI d)])
theorem prc_ne {f : mw_M} {q h un mo fe r : Nat} {a b c d n b2 : Int} (h1 : f q = some (prc un mo fe a b c d)) (h2 : f h = some (wh r n b2)) : h ≠ q := fun e => by
  rw [e, h1] at h2
  simp [ciW] at h2
theorem prc_neA {f : mw_M} {q h un mo fe n : Nat} {a b c d : Int} {cI : ClassId} {g : Nat → Int} (h1 : f q = some (prc un mo fe a b c d)) (h2 : f h = some (mw_ar cI n g)) : h ≠ q := fun e => by
  rw [e, h1] at h2
  cases h2
end
section
abbrev rm_X0_change : Room := { frames := 0, cells := 0, slots := 0, locals := 0 }
set_option maxHeartbeats 4000000 in
set_option maxRecDepth 100000 in
/-- change -/
theorem t_X0_change (l : Launch) (D : va_G) (kA : Nat → ClassId) (sz : Nat) (f0 : mw_M) {q un mo fe : Nat} {a_ b_ c_ d_ : Int} (hq : f0 q = some (prc un mo fe a_ b_ c_ d_)) : mw_Mv l yX0_change (Cond.code yX0_change cX0_change 2 (none) :: gw) rm_X0_change D vwCl (tyL kA) st_S [.ref q] f0 sz (fun f => f q = some (prc un fe mo a_ b_ c_ d_) ∧ ∀ k, k ≠ q → f k = f0 k) 0 0 := by
  refine mw_ofv (cc := cX0_change) (maxL := 2) (ret := none) (by decide) rfl (Nat.le_of_ble_eq_true rfl) ?_
  intro p e s m below meth c A ls Q hQ B hrt hnm hA hI hSt hl
  have hl : lv_has ls 2 [(0, .ref q)] := hl
  refine mv_aload_n B dX0_change_0 rfl (lv_at hl 0 rfl) ?_
  refine mw_get (C := RX0) (T := TX0) (N := 7) B hI hq uin_X0 rfl 1 (by decide) kw_47 rfl dX0_change_1 ?_
  refine mv_astore_n (lv' := [(1, .ref mo), (0, .ref q)]) B dX0_change_4 rfl hl (by decide) rfl (fun ls hl => ?_)
  refine mv_aload_n B dX0_change_5 rfl (lv_at hl 1 rfl) ?_
  refine mv_aload_n B dX0_change_6 rfl (lv_at hl 1 rfl) ?_
  refine mw_get (C := RX0) (T := TX0) (N := 7) B hI hq uin_X0 rfl 2 (by decide) kw_48 rfl dX0_change_7 ?_
  refine mw_put2 (C := RX0) (T := TX0) (N := 7) B hI hq uin_X0 tyX0 tyX0_ok nmX0 rfl 1 (by decide) kw_47 rfl rfl rfl (Nat.le_of_ble_eq_true rfl) dX0_change_10 (fun f H locs hq1 ho1 hI => ?_)
  refine mv_aload_n B dX0_change_13 rfl (lv_at hl 1 rfl) ?_
  refine mv_aload_n B dX0_change_14 rfl (lv_at hl 0 rfl) ?_
  refine mw_put2 (C := RX0) (T := TX0) (N := 7) B hI hq1 uin_X0 tyX0 tyX0_ok nmX0 rfl 2 (by decide) kw_48 rfl rfl rfl (Nat.le_of_ble_eq_true rfl) dX0_change_15 (fun f H locs hq2 ho2 hI => ?_)
  exact mw_vret B hQ hrt hI ⟨hq2, fun k hk => by rw [ho2 k hk]; exact ho1 k hk⟩ dX0_change_18
abbrev rm_X0_leadOfThree : Room := { frames := 1, cells := 0, slots := 0, locals := 21 }
set_option maxHeartbeats 4000000 in
set_option maxRecDepth 100000 in
/-- leadOfThree -/
theorem t_X0_leadOfThree (l : Launch) (D : va_G) (kA : Nat → ClassId) (sz : Nat) (f0 : mw_M) {q un mo fe : Nat} {a_ b_ c_ d_ : Int} {rmo x rx : Nat} {bm bx : Int} {nm nx : Nat} {gx : Nat → Int} (hq : f0 q = some (prc un mo fe a_ b_ c_ d_)) (hm : f0 mo = some (wh rmo (nm : Int) bm)) (hx : f0 x = some (wh rx (nx : Int) bx)) (hxr : f0 rx = some (mw_ar (kA 0) 104 gx)) (hn : nm ≤ 104) (hn2 : nx ≤ 104) (hgx : dg gx nx) : mw_Ml l yX0_leadOfThree (Cond.code yX0_leadOfThree cX0_leadOfThree 5 ((some .long)) :: gw) rm_X0_leadOfThree D vwCl (tyL kA) st_S [.ref q, .ref x] f0 sz (fun v f => v = lI (l3 gx nx nm) ∧ f = f0) 0 0 := by
  refine mw_ofl (cc := cX0_leadOfThree) (maxL := 5) (ret := (some .long)) (by decide) rfl (Nat.le_of_ble_eq_true rfl) ?_
  intro p e s m below meth c A ls Q hQ B hrt hnm hA hI hSt hl
  have hl : lv_has ls 5 [(0, .ref q), (1, .ref x)] := hl
  obtain ⟨f, hI, hf⟩ : ∃ f, mw_I D vwCl A s s.heap [] f ∧ f = f0 := ⟨f0, hI, rfl⟩
  have hq1 : f q = some (prc un mo fe a_ b_ c_ d_) := by rw [hf]; exact hq
  have hm1 : f mo = some (wh rmo (nm : Int) bm) := by rw [hf]; exact hm
  have hx1 : f x = some (wh rx (nx : Int) bx) := by rw [hf]; exact hx
  have hxr1 : f rx = some (mw_ar (kA 0) 104 gx) := by rw [hf]; exact hxr
  have b1 := p0_in hgx ((nm : Int) - 1)
  have b2 := p0_in hgx ((nm : Int) - 1 - 1)
  have b3 := p0_in hgx ((nm : Int) - 1 - 2)
  refine mv_aload_n B dX0_leadOfThree_0 rfl (lv_at hl 0 rfl) ?_
  refine mw_get (C := RX0) (T := TX0) (N := 7) B hI hq1 uin_X0 rfl 1 (by decide) kw_47 rfl dX0_leadOfThree_1 ?_
  refine ww_size B hI hm1 uin_X1 kw_26 dX0_leadOfThree_4 ?_
  refine mv_iconst B dX0_leadOfThree_7 ?_
  refine mv_isub B dX0_leadOfThree_8 ?_
  refine mv_istore_n (lv' := [(2, .int (iI (((nm : Int)) - (1)))), (0, .ref q), (1, .ref x)]) B dX0_leadOfThree_9 rfl hl (by decide) rfl (fun ls hl => ?_)
  refine mv_aload_n B dX0_leadOfThree_10 rfl (lv_at hl 2 rfl) ?_
  refine mv_iload_n B dX0_leadOfThree_11 rfl (lv_at hl 0 rfl) ?_
  refine mw_calli hI hA (va_runV (As := [.int (iI (((nm : Int)) - (1)))]) (rest := []) B.fix (t_X1_partOrZero l D kA s.heap.size f hx1 hxr1 hn2 (by omega)) (cwV 1 B.2.2.2.2.1 (gV kw_243 kw_137 kw_138 kw_2 kw_139) rfl rfl rfl (by decide +kernel) ⟨Nat.le_of_ble_eq_true rfl, Nat.le_of_ble_eq_true rfl⟩) ⟨mw_blind st_S.blind, mw_recv B hI hx1 rfl, mw_pre B hI (hSt.call hI hA)⟩ rfl rfl hl.1 rfl (lv_room (Nat.le_of_ble_eq_true rfl)) dX0_leadOfThree_12 ⟨Nat.le_of_ble_eq_true rfl, Nat.le_of_ble_eq_true rfl⟩) (fun r f H locs hp hI2 => ?_)
  clear hI
  have hI := hI2
  clear hI2
  obtain ⟨rfl, rfl⟩ := hp
  rw [show (if (nm : Int) - 1 < 0 then 0 else pz gx nx ((nm : Int) - 1).toNat) = p0_ gx nx ((nm : Int) - 1) from rfl]
  refine mv_i2l B dX0_leadOfThree_15 (by omega) ?_
  refine mv_ldc2 (z := 1000000) B dX0_leadOfThree_16 kw_244 (by decide) ?_
  refine mv_lmul B dX0_leadOfThree_19 ?_
  refine mv_aload_n B dX0_leadOfThree_20 rfl (lv_at hl 2 rfl) ?_
  refine mv_iload_n B dX0_leadOfThree_21 rfl (lv_at hl 0 rfl) ?_
  refine mv_iconst B dX0_leadOfThree_22 ?_
  refine mv_isub B dX0_leadOfThree_23 ?_
  refine mw_calli hI hA (va_runV (As := [.int (iI ((((nm : Int)) - (1)) - (1)))]) (rest := [.long (lI ((p0_ gx nx ((nm : Int) - 1)) * (1000000)))]) B.fix (t_X1_partOrZero l D kA H.size f hx1 hxr1 hn2 (by omega)) (cwV 1 B.2.2.2.2.1 (gV kw_243 kw_137 kw_138 kw_2 kw_139) rfl rfl rfl (by decide +kernel) ⟨Nat.le_of_ble_eq_true rfl, Nat.le_of_ble_eq_true rfl⟩) ⟨mw_blind st_S.blind, mw_recv B hI hx1 rfl, mw_pre B hI (hSt.call hI hA)⟩ rfl rfl hl.1 rfl (lv_room (Nat.le_of_ble_eq_true rfl)) dX0_leadOfThree_24 ⟨Nat.le_of_ble_eq_true rfl, Nat.le_of_ble_eq_true rfl⟩) (fun r f H locs hp hI2 => ?_)
  clear hI
  have hI := hI2
  clear hI2
  obtain ⟨rfl, rfl⟩ := hp
  rw [show (if (nm : Int) - 1 - 1 < 0 then 0 else pz gx nx ((nm : Int) - 1 - 1).toNat) = p0_ gx nx ((nm : Int) - 1 - 1) from rfl]
  refine mv_i2l B dX0_leadOfThree_27 (by omega) ?_
  refine mv_ladd B dX0_leadOfThree_28 ?_
  refine mv_lstore_n (lv' := [(3, .long (lI (((p0_ gx nx ((nm : Int) - 1)) * (1000000)) + (p0_ gx nx ((nm : Int) - 1 - 1))))), (2, .int (iI (((nm : Int)) - (1)))), (0, .ref q), (1, .ref x)]) B dX0_leadOfThree_29 rfl hl (by decide) rfl (fun ls hl => ?_)
  refine mv_lload_n B dX0_leadOfThree_30 rfl (lv_at hl 0 rfl) ?_
  refine mv_ldc2 (z := 1000000) B dX0_leadOfThree_31 kw_244 (by decide) ?_
  refine mv_lmul B dX0_leadOfThree_34 ?_
  refine mv_aload_n B dX0_leadOfThree_35 rfl (lv_at hl 3 rfl) ?_
  refine mv_iload_n B dX0_leadOfThree_36 rfl (lv_at hl 1 rfl) ?_
  refine mv_iconst B dX0_leadOfThree_37 ?_
  refine mv_isub B dX0_leadOfThree_38 ?_
  refine mw_calli hI hA (va_runV (As := [.int (iI ((((nm : Int)) - (1)) - (2)))]) (rest := [.long (lI ((((p0_ gx nx ((nm : Int) - 1)) * (1000000)) + (p0_ gx nx ((nm : Int) - 1 - 1))) * (1000000)))]) B.fix (t_X1_partOrZero l D kA H.size f hx1 hxr1 hn2 (by omega)) (cwV 1 B.2.2.2.2.1 (gV kw_243 kw_137 kw_138 kw_2 kw_139) rfl rfl rfl (by decide +kernel) ⟨Nat.le_of_ble_eq_true rfl, Nat.le_of_ble_eq_true rfl⟩) ⟨mw_blind st_S.blind, mw_recv B hI hx1 rfl, mw_pre B hI (hSt.call hI hA)⟩ rfl rfl hl.1 rfl (lv_room (Nat.le_of_ble_eq_true rfl)) dX0_leadOfThree_39 ⟨Nat.le_of_ble_eq_true rfl, Nat.le_of_ble_eq_true rfl⟩) (fun r f H locs hp hI2 => ?_)
  clear hI
  have hI := hI2
  clear hI2
  obtain ⟨rfl, rfl⟩ := hp
  rw [show (if (nm : Int) - 1 - 2 < 0 then 0 else pz gx nx ((nm : Int) - 1 - 2).toNat) = p0_ gx nx ((nm : Int) - 1 - 2) from rfl]
  refine mv_i2l B dX0_leadOfThree_42 (by omega) ?_
  refine mv_ladd B dX0_leadOfThree_43 ?_
  exact mw_lret B hQ hrt hI ⟨rfl, hf⟩ dX0_leadOfThree_44
abbrev rm_X0_foretellSteps : Room := { frames := 2, cells := 0, slots := 0, locals := 45 }
set_option maxHeartbeats 4000000 in
set_option maxRecDepth 100000 in
/-- foretellSteps -/
theorem t_X0_foretellSteps (l : Launch) (D : va_G) (kA : Nat → ClassId) (sz : Nat) (f0 : mw_M) {q un mo fe : Nat} {a_ b_ c_ d_ : Int} {rmo rfe : Nat} {bm bf : Int} {nm nf : Nat} {gm gf : Nat → Int} (hq : f0 q = some (prc un mo fe a_ b_ c_ d_)) (hm : f0 mo = some (wh rmo (nm : Int) bm)) (hmr : f0 rmo = some (mw_ar (kA 0) 104 gm)) (hf_ : f0 fe = some (wh rfe (nf : Int) bf)) (hfr : f0 rfe = some (mw_ar (kA 0) 104 gf)) (cm : cn gm nm) (cf : cn gf nf) (hn : 1 ≤ nm) (hle : dv gf nf ≤ dv gm nm) : mw_Mv l yX0_foretellSteps (Cond.code yX0_foretellSteps cX0_foretellSteps 14 (none) :: gw) rm_X0_foretellSteps D vwCl (tyL kA) st_S [.ref q] f0 sz (fun f => ∃ a b c d, f q = some (prc un mo fe a b c d) ∧ (∀ k, k ≠ q → f k = f0 k) ∧ lhO (dv gm nm) (dv gf nf) a b c d) 0 0 := by
  refine mw_ofv (cc := cX0_foretellSteps) (maxL := 14) (ret := none) (by decide) rfl (Nat.le_of_ble_eq_true rfl) ?_
  intro p e s m below meth c A ls Q hQ B hrt hnm hA hI hSt hl
  have hl : lv_has ls 14 [(0, .ref q)] := hl
  obtain ⟨f, hI, hf⟩ : ∃ f, mw_I D vwCl A s s.heap [] f ∧ f = f0 := ⟨f0, hI, rfl⟩
  have hq1 : f q = some (prc un mo fe a_ b_ c_ d_) := by rw [hf]; exact hq
  have hm1 : f mo = some (wh rmo (nm : Int) bm) := by rw [hf]; exact hm
  have hmr1 : f rmo = some (mw_ar (kA 0) 104 gm) := by rw [hf]; exact hmr
  have hf1 : f fe = some (wh rfe (nf : Int) bf) := by rw [hf]; exact hf_
  have hfr1 : f rfe = some (mw_ar (kA 0) 104 gf) := by rw [hf]; exact hfr
  have hnf : nf ≤ nm := by
    rcases Nat.lt_or_ge nm nf with q | q
    · have := cm.lt cf q; omega
    · exact q
  have U0 := dv_nn cm.2.1
  have V0 := dv_nn cf.2.1
  have X1 := l3_in cm.2.1 nm
  have Y1 := l3_in cf.2.1 nm
  have X2 := l3_top cm hn
  obtain ⟨K, P, hK, hP, sp⟩ := l3_split hn
  obtain ⟨u0, ua, ub, eU⟩ := sp gm nm cm.2.1 (Nat.le_refl nm)
  obtain ⟨v0, va, vb, eV⟩ := sp gf nf cf.2.1 hnf
  have YX := l3_le hP hK ub va eU eV hle
  have m1 := cm.1
  have m2 := cf.1
  refine mv_aload_n B dX0_foretellSteps_0 rfl (lv_at hl 0 rfl) ?_
  refine mv_aload_n B dX0_foretellSteps_1 rfl (lv_at hl 0 rfl) ?_
  refine mw_get (C := RX0) (T := TX0) (N := 7) B hI hq1 uin_X0 rfl 1 (by decide) kw_47 rfl dX0_foretellSteps_2 ?_
  refine mw_calll hI hA (va_runV (As := [.ref mo]) (rest := []) B.fix (t_X0_leadOfThree l D kA s.heap.size f hq1 hm1 hm1 hmr1 m1 m1 cm.2.1) (cwV 1 B.2.2.2.2.1 (gV kw_239 kw_241 ks_11 kw_3 kw_242) rfl rfl rfl (by decide +kernel) ⟨Nat.le_of_ble_eq_true rfl, Nat.le_of_ble_eq_true rfl⟩) ⟨mw_blind st_S.blind, mw_recv B hI hq1 rfl, mw_pre B hI (hSt.call hI hA)⟩ rfl rfl hl.1 rfl (lv_room (Nat.le_of_ble_eq_true rfl)) dX0_foretellSteps_5 ⟨Nat.le_of_ble_eq_true rfl, Nat.le_of_ble_eq_true rfl⟩) (fun r f H locs hp hI2 => ?_)
  clear hI
  have hI := hI2
  clear hI2
  obtain ⟨rfl, rfl⟩ := hp
  refine mv_lstore_n (lv' := [(1, .long (lI (l3 gm nm nm))), (0, .ref q)]) B dX0_foretellSteps_8 rfl hl (by decide) rfl (fun ls hl => ?_)
  refine mv_aload_n B dX0_foretellSteps_9 rfl (lv_at hl 1 rfl) ?_
  refine mv_aload_n B dX0_foretellSteps_10 rfl (lv_at hl 1 rfl) ?_
  refine mw_get (C := RX0) (T := TX0) (N := 7) B hI hq1 uin_X0 rfl 2 (by decide) kw_48 rfl dX0_foretellSteps_11 ?_
  refine mw_calll hI hA (va_runV (As := [.ref fe]) (rest := []) B.fix (t_X0_leadOfThree l D kA H.size f hq1 hm1 hf1 hfr1 m1 m2 cf.2.1) (cwV 1 B.2.2.2.2.1 (gV kw_239 kw_241 ks_11 kw_3 kw_242) rfl rfl rfl (by decide +kernel) ⟨Nat.le_of_ble_eq_true rfl, Nat.le_of_ble_eq_true rfl⟩) ⟨mw_blind st_S.blind, mw_recv B hI hq1 rfl, mw_pre B hI (hSt.call hI hA)⟩ rfl rfl hl.1 rfl (lv_room (Nat.le_of_ble_eq_true rfl)) dX0_foretellSteps_14 ⟨Nat.le_of_ble_eq_true rfl, Nat.le_of_ble_eq_true rfl⟩) (fun r f H locs hp hI2 => ?_)
  clear hI
  have hI := hI2
  clear hI2
  obtain ⟨rfl, rfl⟩ := hp
  refine mv_lstore_n (lv' := [(3, .long (lI (l3 gf nf nm))), (1, .long (lI (l3 gm nm nm))), (0, .ref q)]) B dX0_foretellSteps_17 rfl hl (by decide) rfl (fun ls hl => ?_)
  refine mv_aload_n B dX0_foretellSteps_18 rfl (lv_at hl 2 rfl) ?_
  refine mv_lconst1 B dX0_foretellSteps_19 ?_
  have ho0 : ∀ k, k ≠ q → f k = f0 k := fun k _ => by rw [hf]
  refine mw_put2 (C := RX0) (T := TX0) (N := 7) B hI hq1 uin_X0 tyX0 tyX0_ok nmX0 rfl 3 (by decide) kw_49 rfl rfl rfl (Nat.le_of_ble_eq_true rfl) dX0_foretellSteps_20 (fun f H locs hqa ho1 hI => ?_)
  refine mv_aload_n B dX0_foretellSteps_23 rfl (lv_at hl 2 rfl) ?_
  refine mv_lconst0 B dX0_foretellSteps_24 ?_
  refine mw_put2 (C := RX0) (T := TX0) (N := 7) B hI hqa uin_X0 tyX0 tyX0_ok nmX0 rfl 4 (by decide) kw_50 rfl rfl rfl (Nat.le_of_ble_eq_true rfl) dX0_foretellSteps_25 (fun f H locs hqb ho2 hI => ?_)
  refine mv_aload_n B dX0_foretellSteps_28 rfl (lv_at hl 2 rfl) ?_
  refine mv_lconst0 B dX0_foretellSteps_29 ?_
  refine mw_put2 (C := RX0) (T := TX0) (N := 7) B hI hqb uin_X0 tyX0 tyX0_ok nmX0 rfl 5 (by decide) kw_51 rfl rfl rfl (Nat.le_of_ble_eq_true rfl) dX0_foretellSteps_30 (fun f H locs hqc ho3 hI => ?_)
  refine mv_aload_n B dX0_foretellSteps_33 rfl (lv_at hl 2 rfl) ?_
  refine mv_lconst1 B dX0_foretellSteps_34 ?_
  refine mw_put2 (C := RX0) (T := TX0) (N := 7) B hI hqc uin_X0 tyX0 tyX0_ok nmX0 rfl 6 (by decide) kw_52 rfl rfl rfl (Nat.le_of_ble_eq_true rfl) dX0_foretellSteps_35 (fun f H locs hqd ho4 hI => ?_)
  refine mv_iconst B dX0_foretellSteps_38 ?_
  refine mv_istore (lv' := [(5, .int (iI (0))), (3, .long (lI (l3 gf nf nm))), (1, .long (lI (l3 gm nm nm))), (0, .ref q)]) B dX0_foretellSteps_39 hl (by decide) rfl (fun ls hl => ?_)
  have ho : ∀ k, k ≠ q → f k = f0 k := fun k hk => by rw [ho4 k hk, ho3 k hk, ho2 k hk, ho1 k hk]; exact ho0 k hk
  have loop : ∀ (μ : Nat) (j : Nat) (i x y a b c_1 d : Int) (f : mw_M) (H : Heap) (locs : List Loc) (ls : Array Slot), 64 - j < μ → i = (j : Int) → j ≤ 64 → lh (l3 gm nm nm) (l3 gf nf nm) (dv gm nm) (dv gf nf) a b c_1 d x y → a * dv gm nm + b * dv gf nf ≤ dv gm nm → x ≤ l3 gm nm nm → f q = some (prc un mo fe a b c_1 d) → (∀ k, k ≠ q → f k = f0 k) → mw_I D vwCl A s H locs f → lv_has ls 14 [(5, .int (iI (i))), (3, .long (lI (y))), (1, .long (lI (x))), (0, .ref q)] → W p l e rm_X0_foretellSteps s m ([.ref q] : List Value).toArray below meth c H locs 0 0 Q (F0 m 41 ls []) := by
    intro μ
    induction μ with
    | zero => intro j i x y a b c_1 d f H locs ls hμ; exact absurd hμ (Nat.not_lt_zero _)
    | succ μ ih =>
      intro j i x y a b c_1 d f H locs ls hμ hi hj hlh hu hx hq ho hI hl
      have hy := hlh.2.2.1
      have hbd := hlh.2.2.2.2.1
      refine mv_iload B dX0_foretellSteps_41 (lv_at hl 0 rfl) ?_
      refine mv_bipush B dX0_foretellSteps_43 (by decide) ?_
      refine mv_icmp_ge (tgt := 181) B dX0_foretellSteps_45 (by decide) (by omega) (fun hd0 => ?_) (fun hd0 => ?_)
      · exact mw_vret B hQ hrt hI ⟨a, b, c_1, d, hq, ho, hlh.out hu⟩ dX0_foretellSteps_181
      · refine mv_lload_n B dX0_foretellSteps_48 rfl (lv_at hl 1 rfl) ?_
        refine mv_aload_n B dX0_foretellSteps_49 rfl (lv_at hl 3 rfl) ?_
        refine mw_get (C := RX0) (T := TX0) (N := 7) B hI hq uin_X0 rfl 5 (by decide) kw_51 rfl dX0_foretellSteps_50 ?_
        refine mv_ladd B dX0_foretellSteps_53 ?_
        refine mv_lstore (lv' := [(6, .long (lI ((y) + (c_1)))), (5, .int (iI (i))), (3, .long (lI (y))), (1, .long (lI (x))), (0, .ref q)]) B dX0_foretellSteps_54 hl (by decide) rfl (fun ls hl => ?_)
        refine mv_lload_n B dX0_foretellSteps_56 rfl (lv_at hl 2 rfl) ?_
        refine mv_aload_n B dX0_foretellSteps_57 rfl (lv_at hl 4 rfl) ?_
        refine mw_get (C := RX0) (T := TX0) (N := 7) B hI hq uin_X0 rfl 6 (by decide) kw_52 rfl dX0_foretellSteps_58 ?_
        refine mv_ladd B dX0_foretellSteps_61 ?_
        refine mv_lstore (lv' := [(8, .long (lI ((y) + (d)))), (6, .long (lI ((y) + (c_1)))), (5, .int (iI (i))), (3, .long (lI (y))), (1, .long (lI (x))), (0, .ref q)]) B dX0_foretellSteps_62 hl (by decide) rfl (fun ls hl => ?_)
        refine mv_lload B dX0_foretellSteps_64 (lv_at hl 1 rfl) ?_
        refine mv_lconst0 B dX0_foretellSteps_66 ?_
        refine mv_lcmp_le (tgt := 78) B dX0_foretellSteps_67 dX0_foretellSteps_68 (by decide) (by omega) (fun hd1 => ?_) (fun hd1 => ?_)
        · exact mw_vret B hQ hrt hI ⟨a, b, c_1, d, hq, ho, hlh.out hu⟩ dX0_foretellSteps_78
        · refine mv_lload B dX0_foretellSteps_71 (lv_at hl 0 rfl) ?_
          refine mv_lconst0 B dX0_foretellSteps_73 ?_
          refine mv_lcmp_gt (tgt := 79) B dX0_foretellSteps_74 dX0_foretellSteps_75 (by decide) (by omega) (fun hd2 => ?_) (fun hd2 => ?_)
          · refine mv_lload_n B dX0_foretellSteps_79 rfl (lv_at hl 4 rfl) ?_
            refine mv_aload_n B dX0_foretellSteps_80 rfl (lv_at hl 5 rfl) ?_
            refine mw_get (C := RX0) (T := TX0) (N := 7) B hI hq uin_X0 rfl 3 (by decide) kw_49 rfl dX0_foretellSteps_81 ?_
            refine mv_ladd B dX0_foretellSteps_84 ?_
            refine mv_lload B dX0_foretellSteps_85 (lv_at hl 1 rfl) ?_
            refine mv_ldiv B dX0_foretellSteps_87 (by omega) ?_
            refine mv_lstore (lv' := [(10, .long (lI (((x) + (a)) / ((y) + (c_1))))), (8, .long (lI ((y) + (d)))), (6, .long (lI ((y) + (c_1)))), (5, .int (iI (i))), (3, .long (lI (y))), (1, .long (lI (x))), (0, .ref q)]) B dX0_foretellSteps_88 hl (by decide) rfl (fun ls hl => ?_)
            refine mv_lload B dX0_foretellSteps_90 (lv_at hl 0 rfl) ?_
            refine mv_lload_n B dX0_foretellSteps_92 rfl (lv_at hl 5 rfl) ?_
            refine mv_aload_n B dX0_foretellSteps_93 rfl (lv_at hl 6 rfl) ?_
            refine mw_get (C := RX0) (T := TX0) (N := 7) B hI hq uin_X0 rfl 4 (by decide) kw_50 rfl dX0_foretellSteps_94 ?_
            refine mv_ladd B dX0_foretellSteps_97 ?_
            refine mv_lload B dX0_foretellSteps_98 (lv_at hl 1 rfl) ?_
            refine mv_ldiv B dX0_foretellSteps_100 (by omega) ?_
            have d1 : 0 ≤ (x + a) / (y + c_1) ∧ (x + a) / (y + c_1) ≤ x + a := ⟨Int.ediv_nonneg (by omega) (by omega), Int.ediv_le_self _ (by omega)⟩
            have d2 : 0 ≤ (x + b) / (y + d) ∧ (x + b) / (y + d) ≤ x + b := ⟨Int.ediv_nonneg (by omega) (by omega), Int.ediv_le_self _ (by omega)⟩
            refine mv_lcmp_eq (tgt := 106) B dX0_foretellSteps_101 dX0_foretellSteps_102 (by decide) (by omega) (fun hd3 => ?_) (fun hd3 => ?_)
            · refine mv_lload_n B dX0_foretellSteps_106 rfl (lv_at hl 5 rfl) ?_
              refine mv_lload B dX0_foretellSteps_107 (lv_at hl 0 rfl) ?_
              refine mv_lload_n B dX0_foretellSteps_109 rfl (lv_at hl 4 rfl) ?_
              refine mv_lmul B dX0_foretellSteps_110 ?_
              refine mv_lsub B dX0_foretellSteps_111 ?_
              refine mv_lstore (lv' := [(12, .long (lI ((x) - ((((x) + (a)) / ((y) + (c_1))) * (y))))), (10, .long (lI (((x) + (a)) / ((y) + (c_1))))), (8, .long (lI ((y) + (d)))), (6, .long (lI ((y) + (c_1)))), (5, .int (iI (i))), (3, .long (lI (y))), (1, .long (lI (x))), (0, .ref q)]) B dX0_foretellSteps_112 hl (by decide) rfl (fun ls hl => ?_)
              refine mv_lload_n B dX0_foretellSteps_114 rfl (lv_at hl 5 rfl) ?_
              refine mv_lstore_n (lv' := [(1, .long (lI (y))), (12, .long (lI ((x) - ((((x) + (a)) / ((y) + (c_1))) * (y))))), (10, .long (lI (((x) + (a)) / ((y) + (c_1))))), (8, .long (lI ((y) + (d)))), (6, .long (lI ((y) + (c_1)))), (5, .int (iI (i))), (3, .long (lI (y))), (0, .ref q)]) B dX0_foretellSteps_115 rfl hl (by decide) rfl (fun ls hl => ?_)
              refine mv_lload B dX0_foretellSteps_116 (lv_at hl 1 rfl) ?_
              refine mv_lstore_n (lv' := [(3, .long (lI ((x) - ((((x) + (a)) / ((y) + (c_1))) * (y))))), (1, .long (lI (y))), (12, .long (lI ((x) - ((((x) + (a)) / ((y) + (c_1))) * (y))))), (10, .long (lI (((x) + (a)) / ((y) + (c_1))))), (8, .long (lI ((y) + (d)))), (6, .long (lI ((y) + (c_1)))), (5, .int (iI (i))), (0, .ref q)]) B dX0_foretellSteps_118 rfl hl (by decide) rfl (fun ls hl => ?_)
              refine mv_aload_n B dX0_foretellSteps_119 rfl (lv_at hl 7 rfl) ?_
              refine mw_get (C := RX0) (T := TX0) (N := 7) B hI hq uin_X0 rfl 3 (by decide) kw_49 rfl dX0_foretellSteps_120 ?_
              refine mv_lload B dX0_foretellSteps_123 (lv_at hl 3 rfl) ?_
              refine mv_aload_n B dX0_foretellSteps_125 rfl (lv_at hl 7 rfl) ?_
              refine mw_get (C := RX0) (T := TX0) (N := 7) B hI hq uin_X0 rfl 5 (by decide) kw_51 rfl dX0_foretellSteps_126 ?_
              refine mv_lmul B dX0_foretellSteps_129 ?_
              refine mv_lsub B dX0_foretellSteps_130 ?_
              refine mv_lstore (lv' := [(12, .long (lI ((a) - ((((x) + (a)) / ((y) + (c_1))) * (c_1))))), (3, .long (lI ((x) - ((((x) + (a)) / ((y) + (c_1))) * (y))))), (1, .long (lI (y))), (10, .long (lI (((x) + (a)) / ((y) + (c_1))))), (8, .long (lI ((y) + (d)))), (6, .long (lI ((y) + (c_1)))), (5, .int (iI (i))), (0, .ref q)]) B dX0_foretellSteps_131 hl (by decide) rfl (fun ls hl => ?_)
              refine mv_aload_n B dX0_foretellSteps_133 rfl (lv_at hl 7 rfl) ?_
              refine mv_aload_n B dX0_foretellSteps_134 rfl (lv_at hl 7 rfl) ?_
              refine mw_get (C := RX0) (T := TX0) (N := 7) B hI hq uin_X0 rfl 5 (by decide) kw_51 rfl dX0_foretellSteps_135 ?_
              refine mw_put2 (C := RX0) (T := TX0) (N := 7) B hI hq uin_X0 tyX0 tyX0_ok nmX0 rfl 3 (by decide) kw_49 rfl rfl rfl (Nat.le_of_ble_eq_true rfl) dX0_foretellSteps_138 (fun f H locs hq1 ho1 hI => ?_)
              refine mv_aload_n B dX0_foretellSteps_141 rfl (lv_at hl 7 rfl) ?_
              refine mv_lload B dX0_foretellSteps_142 (lv_at hl 0 rfl) ?_
              refine mw_put2 (C := RX0) (T := TX0) (N := 7) B hI hq1 uin_X0 tyX0 tyX0_ok nmX0 rfl 5 (by decide) kw_51 rfl rfl rfl (Nat.le_of_ble_eq_true rfl) dX0_foretellSteps_144 (fun f H locs hq2 ho2 hI => ?_)
              refine mv_aload_n B dX0_foretellSteps_147 rfl (lv_at hl 7 rfl) ?_
              refine mw_get (C := RX0) (T := TX0) (N := 7) B hI hq2 uin_X0 rfl 4 (by decide) kw_50 rfl dX0_foretellSteps_148 ?_
              refine mv_lload B dX0_foretellSteps_151 (lv_at hl 3 rfl) ?_
              refine mv_aload_n B dX0_foretellSteps_153 rfl (lv_at hl 7 rfl) ?_
              refine mw_get (C := RX0) (T := TX0) (N := 7) B hI hq2 uin_X0 rfl 6 (by decide) kw_52 rfl dX0_foretellSteps_154 ?_
              refine mv_lmul B dX0_foretellSteps_157 ?_
              refine mv_lsub B dX0_foretellSteps_158 ?_
              refine mv_lstore (lv' := [(12, .long (lI ((b) - ((((x) + (a)) / ((y) + (c_1))) * (d))))), (3, .long (lI ((x) - ((((x) + (a)) / ((y) + (c_1))) * (y))))), (1, .long (lI (y))), (10, .long (lI (((x) + (a)) / ((y) + (c_1))))), (8, .long (lI ((y) + (d)))), (6, .long (lI ((y) + (c_1)))), (5, .int (iI (i))), (0, .ref q)]) B dX0_foretellSteps_159 hl (by decide) rfl (fun ls hl => ?_)
              refine mv_aload_n B dX0_foretellSteps_161 rfl (lv_at hl 7 rfl) ?_
              refine mv_aload_n B dX0_foretellSteps_162 rfl (lv_at hl 7 rfl) ?_
              refine mw_get (C := RX0) (T := TX0) (N := 7) B hI hq2 uin_X0 rfl 6 (by decide) kw_52 rfl dX0_foretellSteps_163 ?_
              refine mw_put2 (C := RX0) (T := TX0) (N := 7) B hI hq2 uin_X0 tyX0 tyX0_ok nmX0 rfl 4 (by decide) kw_50 rfl rfl rfl (Nat.le_of_ble_eq_true rfl) dX0_foretellSteps_166 (fun f H locs hq3 ho3 hI => ?_)
              refine mv_aload_n B dX0_foretellSteps_169 rfl (lv_at hl 7 rfl) ?_
              refine mv_lload B dX0_foretellSteps_170 (lv_at hl 0 rfl) ?_
              refine mw_put2 (C := RX0) (T := TX0) (N := 7) B hI hq3 uin_X0 tyX0 tyX0_ok nmX0 rfl 6 (by decide) kw_52 rfl rfl rfl (Nat.le_of_ble_eq_true rfl) dX0_foretellSteps_172 (fun f H locs hq4 ho4 hI => ?_)
              refine mv_iinc (k := 6) (lv' := [(5, .int (iI (i + 1))), (12, .long (lI ((b) - ((((x) + (a)) / ((y) + (c_1))) * (d))))), (3, .long (lI ((x) - ((((x) + (a)) / ((y) + (c_1))) * (y))))), (1, .long (lI (y))), (10, .long (lI (((x) + (a)) / ((y) + (c_1))))), (8, .long (lI ((y) + (d)))), (6, .long (lI ((y) + (c_1)))), (0, .ref q)]) B dX0_foretellSteps_175 hl rfl (by decide) rfl (fun ls hl => ?_)
              refine mv_goto (tgt := 41) B dX0_foretellSteps_178 (by decide) ?_
              have st := lh_step hK eU eV hP ⟨ua, ub⟩ ⟨va, vb⟩ X1.2 Y1.2 hlh (by omega) (by omega) rfl hd3
              exact ih (j + 1) _ _ _ _ _ _ _ f H locs ls (by omega) (by omega) (by omega) st (by have := hlh.2.2.2.2.2.1; omega) (by omega) hq4 (fun k hk => by rw [ho4 k hk, ho3 k hk, ho2 k hk, ho1 k hk]; exact ho k hk) hI (lv_sub hl [0, 2, 3, 7] rfl)
            · exact mw_vret B hQ hrt hI ⟨a, b, c_1, d, hq, ho, hlh.out hu⟩ dX0_foretellSteps_105
          · exact mw_vret B hQ hrt hI ⟨a, b, c_1, d, hq, ho, hlh.out hu⟩ dX0_foretellSteps_78
  exact loop 65 0 _ _ _ _ _ _ _ f H locs ls (by decide) rfl (by decide) (lh_init Y1.1 YX X2 V0 hle) (by rw [Int.one_mul, Int.zero_mul]; omega) (Int.le_refl _) hqd ho hI (lv_sub hl [0, 1, 2, 3] rfl)
end
section
abbrev rm_X0_takeForetoldSteps : Room := { frames := 2, cells := 0, slots := 0, locals := 46 }
set_option maxHeartbeats 4000000 in
set_option maxRecDepth 100000 in
/-- takeForetoldSteps -/
theorem t_X0_takeForetoldSteps (l : Launch) (D : va_G) (kA : Nat → ClassId) (sz : Nat) (f0 : mw_M) {q un mo fe : Nat} {a_ b_ c_ d_ : Int} {rmo rfe : Nat} {U V : Int} (hq : f0 q = some (prc un mo fe a_ b_ c_ d_)) (hm : Rp (kA 0) f0 mo rmo U) (hf_ : Rp (kA 0) f0 fe rfe V) (t1 : fe ≠ mo) (t2 : rfe ≠ rmo) (hV0 : 0 ≤ V) (hle : V ≤ U) (ho : lhO U V a_ b_ c_ d_) : mw_Mv l yX0_takeForetoldSteps (Cond.code yX0_takeForetoldSteps cX0_takeForetoldSteps 17 (none) :: gw) rm_X0_takeForetoldSteps D vwCl (tyL kA) st_S [.ref q] f0 sz (fun f => Rp (kA 0) f mo rmo (a_ * U + b_ * V) ∧ Rp (kA 0) f fe rfe (c_ * U + d_ * V) ∧ fo2 f0 f mo rmo fe rfe) 0 0 := by
  refine mw_ofv (cc := cX0_takeForetoldSteps) (maxL := 17) (ret := none) (by decide) rfl (Nat.le_of_ble_eq_true rfl) ?_
  intro p e s m below meth c A ls Q hQ B hrt hnm hA hI hSt hl
  have hl : lv_has ls 17 [(0, .ref q)] := hl
  obtain ⟨gm, nm, bm, hm, hmr, hzm⟩ := hm
  obtain ⟨gf, nf, bf, hf1, hfr, hzf⟩ := hf_
  obtain ⟨f, hI, hT⟩ : ∃ f, mw_I D vwCl A s s.heap [] f ∧ d2 (kA 0) f0 mo rmo fe rfe f gm (nm : Int) bm gf (nf : Int) bf := ⟨f0, hI, d2.self hm hmr hf1 hfr⟩
  have m1 := hzm.1
  have m2 := hzf.1
  have q1 := hzm.b0
  have q2 := hzf.b0
  have q3 := hzm.nat
  have q4 := hzf.nat
  have eU : dv gm nm = U := by omega
  have eV : dv gf nf = V := by omega
  have n1 := prc_ne hq hm
  have n2 := prc_ne hq hf1
  have n3 := prc_neA hq hmr
  have n4 := prc_neA hq hfr
  have hnf : nf ≤ nm := bp_size hzm hzf (by omega)
  obtain ⟨⟨ba1, ba2, bb1, bb2, bc1, bc2, bd1, bd2⟩, ⟨o1, o2, o3⟩, -, -⟩ := ho
  have UP : U < 1000000 ^ nm := by rw [← eU]; exact dv_lt hzm.2.1
  refine mv_aload_n B dX0_takeForetoldSteps_0 rfl (lv_at hl 0 rfl) ?_
  refine mw_get (C := RX0) (T := TX0) (N := 7) B hI (hT.get hq (Ne.symm n1) (Ne.symm n3) (Ne.symm n2) (Ne.symm n4)) uin_X0 rfl 1 (by decide) kw_47 rfl dX0_takeForetoldSteps_1 ?_
  refine ww_size B hI hT.1 uin_X1 kw_26 dX0_takeForetoldSteps_4 ?_
  refine mv_istore_n (lv' := [(1, .int (iI ((nm : Int)))), (0, .ref q)]) B dX0_takeForetoldSteps_7 rfl hl (by decide) rfl (fun ls hl => ?_)
  refine mv_aload_n B dX0_takeForetoldSteps_8 rfl (lv_at hl 1 rfl) ?_
  refine mw_get (C := RX0) (T := TX0) (N := 7) B hI (hT.get hq (Ne.symm n1) (Ne.symm n3) (Ne.symm n2) (Ne.symm n4)) uin_X0 rfl 1 (by decide) kw_47 rfl dX0_takeForetoldSteps_9 ?_
  refine ww_parts B hI hT.1 uin_X1 kw_24 dX0_takeForetoldSteps_12 ?_
  refine mv_astore_n (lv' := [(2, .ref rmo), (1, .int (iI ((nm : Int)))), (0, .ref q)]) B dX0_takeForetoldSteps_15 rfl hl (by decide) rfl (fun ls hl => ?_)
  refine mv_aload_n B dX0_takeForetoldSteps_16 rfl (lv_at hl 2 rfl) ?_
  refine mw_get (C := RX0) (T := TX0) (N := 7) B hI (hT.get hq (Ne.symm n1) (Ne.symm n3) (Ne.symm n2) (Ne.symm n4)) uin_X0 rfl 2 (by decide) kw_48 rfl dX0_takeForetoldSteps_17 ?_
  refine ww_parts B hI hT.2.2.1 uin_X1 kw_24 dX0_takeForetoldSteps_20 ?_
  refine mv_astore_n (lv' := [(3, .ref rfe), (2, .ref rmo), (1, .int (iI ((nm : Int)))), (0, .ref q)]) B dX0_takeForetoldSteps_23 rfl hl (by decide) rfl (fun ls hl => ?_)
  refine mv_lconst0 B dX0_takeForetoldSteps_24 ?_
  refine mv_lstore (lv' := [(4, .long (lI (0))), (3, .ref rfe), (2, .ref rmo), (1, .int (iI ((nm : Int)))), (0, .ref q)]) B dX0_takeForetoldSteps_25 hl (by decide) rfl (fun ls hl => ?_)
  refine mv_lconst0 B dX0_takeForetoldSteps_27 ?_
  refine mv_lstore (lv' := [(6, .long (lI (0))), (4, .long (lI (0))), (3, .ref rfe), (2, .ref rmo), (1, .int (iI ((nm : Int)))), (0, .ref q)]) B dX0_takeForetoldSteps_28 hl (by decide) rfl (fun ls hl => ?_)
  refine mv_aload_n B dX0_takeForetoldSteps_30 rfl (lv_at hl 2 rfl) ?_
  refine mv_aload_n B dX0_takeForetoldSteps_31 rfl (lv_at hl 5 rfl) ?_
  refine mw_get (C := RX0) (T := TX0) (N := 7) B hI (hT.get hq (Ne.symm n1) (Ne.symm n3) (Ne.symm n2) (Ne.symm n4)) uin_X0 rfl 2 (by decide) kw_48 rfl dX0_takeForetoldSteps_32 ?_
  refine ww_size B hI hT.2.2.1 uin_X1 kw_26 dX0_takeForetoldSteps_35 ?_
  refine mv_iload_n B dX0_takeForetoldSteps_38 rfl (lv_at hl 4 rfl) ?_
  refine mv_iconst B dX0_takeForetoldSteps_39 ?_
  refine mw_callv hI hA (va_runS (As := [.ref rfe, .int (iI ((nf : Int))), .int (iI ((nm : Int))), .int (iI (0))]) (rest := []) B.fix (t_XA_fill l D kA s.heap.size f (a0 := nf) (b0 := nm) (x := 0) hT.2.2.2.1 hnf m1) (va_cwS 4 B.2.2.2.2.1 (gT kw_250 kw_251 kw_7 kw_252) rfl rfl rfl (by decide +kernel) ⟨Nat.le_of_ble_eq_true rfl, Nat.le_of_ble_eq_true rfl⟩) ⟨mw_blind st_S.blind, mw_pre B hI (hSt.call hI hA)⟩ rfl rfl hl.1 rfl (lv_room (Nat.le_of_ble_eq_true rfl)) dX0_takeForetoldSteps_40 ⟨Nat.le_of_ble_eq_true rfl, Nat.le_of_ble_eq_true rfl⟩) (fun f H locs hp hI2 => ?_)
  clear hI
  have hI := hI2
  clear hI2
  obtain ⟨⟨gz, k1, k2, k3⟩, k4⟩ := hp
  have hT := hT.t t1 t2 ((wSt.self hT.2.2.1 hT.2.2.2.1).row k1 k4)
  have dgz : dg gz nm := fun i hi => by
    rcases Nat.lt_or_ge i nf with q | q
    · rw [k3 i (Or.inl q)]; exact hzf.2.1 i q
    · rw [k2 i q hi]; decide
  have dvz : dv gz nm = V := by rw [dv_trim hnf (fun i h1 h2 => k2 i h1 h2), dv_congr (fun i hi => k3 i (Or.inl hi))]; exact eV
  refine mv_iconst B dX0_takeForetoldSteps_43 ?_
  refine mv_istore (lv' := [(8, .int (iI (0))), (6, .long (lI (0))), (4, .long (lI (0))), (3, .ref rfe), (2, .ref rmo), (1, .int (iI ((nm : Int)))), (0, .ref q)]) B dX0_takeForetoldSteps_44 hl (by decide) rfl (fun ls hl => ?_)
  have loop : ∀ (μ : Nat) (j : Nat) (i cm cf : Int) (g1 g2 : Nat → Int) (f : mw_M) (H : Heap) (locs : List Loc) (ls : Array Slot), nm - j < μ → i = (j : Int) → j ≤ nm → (-2000000000 ≤ cm ∧ cm ≤ 2000000000) → (-2000000000 ≤ cf ∧ cf ≤ 2000000000) → dg g1 nm → dg g2 nm → (∀ i, j ≤ i → g1 i = gm i) → (∀ i, j ≤ i → g2 i = gz i) → dv g1 j + cm * 1000000 ^ j = a_ * dv gm j + b_ * dv gz j → dv g2 j + cf * 1000000 ^ j = c_ * dv gm j + d_ * dv gz j → mw_I D vwCl A s H locs f → d2 (kA 0) f0 mo rmo fe rfe f g1 (nm : Int) bm g2 (nf : Int) bf → lv_has ls 17 [(8, .int (iI (i))), (6, .long (lI (cf))), (4, .long (lI (cm))), (3, .ref rfe), (2, .ref rmo), (1, .int (iI ((nm : Int)))), (0, .ref q)] → W p l e rm_X0_takeForetoldSteps s m ([.ref q] : List Value).toArray below meth c H locs 0 0 Q (F0 m 46 ls []) := by
    intro μ
    induction μ with
    | zero => intro j i cm cf g1 g2 f H locs ls hμ; exact absurd hμ (Nat.not_lt_zero _)
    | succ μ ih =>
      intro j i cm cf g1 g2 f H locs ls hμ hi hj hcm hcf dg1 dg2 s1 s2 v1 v2 hI hT hl
      refine mv_iload B dX0_takeForetoldSteps_46 (lv_at hl 0 rfl) ?_
      refine mv_iload_n B dX0_takeForetoldSteps_48 rfl (lv_at hl 5 rfl) ?_
      refine mv_icmp_ge (tgt := 166) B dX0_takeForetoldSteps_49 (by decide) (by omega) (fun hd0 => ?_) (fun hd0 => ?_)
      · obtain rfl : nm = j := by omega
        rw [eU, dvz] at v1 v2
        have p0 := bp_pos nm
        have w1 := dv_nn dg1
        have w2 := dv_lt dg1
        have w3 := dv_nn dg2
        have w4 := dv_lt dg2
        have z1 : cm = 0 := t_zero p0 (by omega) (by omega)
        have z2 : cf = 0 := t_zero p0 (by omega) (by omega)
        rw [z1, Int.zero_mul, Int.add_zero] at v1
        rw [z2, Int.zero_mul, Int.add_zero] at v2
        refine mv_aload_n B dX0_takeForetoldSteps_166 rfl (lv_at hl 6 rfl) ?_
        refine mw_get (C := RX0) (T := TX0) (N := 7) B hI (hT.get hq (Ne.symm n1) (Ne.symm n3) (Ne.symm n2) (Ne.symm n4)) uin_X0 rfl 1 (by decide) kw_47 rfl dX0_takeForetoldSteps_167 ?_
        refine mv_iload_n B dX0_takeForetoldSteps_170 rfl (lv_at hl 5 rfl) ?_
        refine mw_callv hI hA (va_runV (As := [.int (iI ((nm : Int)))]) (rest := []) B.fix (t_X1_trimTo l D kA H.size f (k := nm) hT.1 hT.2.1 m1 dg1) (cwV 1 B.2.2.2.2.1 (gV kw_258 kw_106 kw_107 kw_2 kw_108) rfl rfl rfl (by decide +kernel) ⟨Nat.le_of_ble_eq_true rfl, Nat.le_of_ble_eq_true rfl⟩) ⟨mw_blind st_S.blind, mw_recv B hI hT.1 rfl, mw_pre B hI (hSt.call hI hA)⟩ rfl rfl hl.1 rfl (lv_room (Nat.le_of_ble_eq_true rfl)) dX0_takeForetoldSteps_171 ⟨Nat.le_of_ble_eq_true rfl, Nat.le_of_ble_eq_true rfl⟩) (fun f H locs hp hI2 => ?_)
        clear hI
        have hI := hI2
        clear hI2
        obtain ⟨n1', a1, a2, a3, hS⟩ := hp
        have hT := hT.h t1 t2 hS
        have e1 := dv_trim a1 a2
        refine mv_aload_n B dX0_takeForetoldSteps_174 rfl (lv_at hl 6 rfl) ?_
        refine mw_get (C := RX0) (T := TX0) (N := 7) B hI (hT.get hq (Ne.symm n1) (Ne.symm n3) (Ne.symm n2) (Ne.symm n4)) uin_X0 rfl 2 (by decide) kw_48 rfl dX0_takeForetoldSteps_175 ?_
        refine mv_iload_n B dX0_takeForetoldSteps_178 rfl (lv_at hl 5 rfl) ?_
        refine mw_callv hI hA (va_runV (As := [.int (iI ((nm : Int)))]) (rest := []) B.fix (t_X1_trimTo l D kA H.size f (k := nm) hT.2.2.1 hT.2.2.2.1 m1 dg2) (cwV 1 B.2.2.2.2.1 (gV kw_258 kw_106 kw_107 kw_2 kw_108) rfl rfl rfl (by decide +kernel) ⟨Nat.le_of_ble_eq_true rfl, Nat.le_of_ble_eq_true rfl⟩) ⟨mw_blind st_S.blind, mw_recv B hI hT.2.2.1 rfl, mw_pre B hI (hSt.call hI hA)⟩ rfl rfl hl.1 rfl (lv_room (Nat.le_of_ble_eq_true rfl)) dX0_takeForetoldSteps_179 ⟨Nat.le_of_ble_eq_true rfl, Nat.le_of_ble_eq_true rfl⟩) (fun f H locs hp hI2 => ?_)
        clear hI
        have hI := hI2
        clear hI2
        obtain ⟨n2', c1, c2, c3, hS⟩ := hp
        have hT := hT.t t1 t2 hS
        have e2 := dv_trim c1 c2
        exact mw_vret B hQ hrt hI ⟨⟨g1, n1', _, hT.1, hT.2.1, rp_of ⟨by omega, dg1.sub a1, a3⟩ (e1.symm.trans v1) (Or.inl ⟨by omega, rfl⟩)⟩, ⟨g2, n2', _, hT.2.2.1, hT.2.2.2.1, rp_of ⟨by omega, dg2.sub c1, c3⟩ (e2.symm.trans v2) (Or.inl ⟨by omega, rfl⟩)⟩, hT.2.2.2.2⟩ dX0_takeForetoldSteps_182
      · have x1 := hzm.2.1 j (by omega)
        have y1 := dgz j (by omega)
        have r1 := s1 j (Nat.le_refl j)
        have r2 := s2 j (Nat.le_refl j)
        have g1x := ab_rng ⟨ba1, ba2⟩ ⟨bb1, bb2⟩ x1 y1
        have g2x := ab_rng ⟨bc1, bc2⟩ ⟨bd1, bd2⟩ x1 y1
        refine mv_aload_n B dX0_takeForetoldSteps_52 rfl (lv_at hl 4 rfl) ?_
        refine mv_iload B dX0_takeForetoldSteps_53 (lv_at hl 0 rfl) ?_
        refine mw_iald B hI 0 hT.2.1 rfl (j) (by omega) (by omega) (by decide) dX0_takeForetoldSteps_55 ?_
        rw [r1]
        refine mv_i2l B dX0_takeForetoldSteps_56 (by omega) ?_
        refine mv_lstore (lv' := [(9, .long (lI (gm j))), (8, .int (iI (i))), (6, .long (lI (cf))), (4, .long (lI (cm))), (3, .ref rfe), (2, .ref rmo), (1, .int (iI ((nm : Int)))), (0, .ref q)]) B dX0_takeForetoldSteps_57 hl (by decide) rfl (fun ls hl => ?_)
        refine mv_aload_n B dX0_takeForetoldSteps_59 rfl (lv_at hl 4 rfl) ?_
        refine mv_iload B dX0_takeForetoldSteps_60 (lv_at hl 1 rfl) ?_
        refine mw_iald B hI 0 hT.2.2.2.1 rfl (j) (by omega) (by omega) (by decide) dX0_takeForetoldSteps_62 ?_
        rw [r2]
        refine mv_i2l B dX0_takeForetoldSteps_63 (by omega) ?_
        refine mv_lstore (lv' := [(11, .long (lI (gz j))), (9, .long (lI (gm j))), (8, .int (iI (i))), (6, .long (lI (cf))), (4, .long (lI (cm))), (3, .ref rfe), (2, .ref rmo), (1, .int (iI ((nm : Int)))), (0, .ref q)]) B dX0_takeForetoldSteps_64 hl (by decide) rfl (fun ls hl => ?_)
        refine mv_aload_n B dX0_takeForetoldSteps_66 rfl (lv_at hl 8 rfl) ?_
        refine mw_get (C := RX0) (T := TX0) (N := 7) B hI (hT.get hq (Ne.symm n1) (Ne.symm n3) (Ne.symm n2) (Ne.symm n4)) uin_X0 rfl 3 (by decide) kw_49 rfl dX0_takeForetoldSteps_67 ?_
        refine mv_lload B dX0_takeForetoldSteps_70 (lv_at hl 1 rfl) ?_
        refine mv_lmul B dX0_takeForetoldSteps_72 ?_
        refine mv_aload_n B dX0_takeForetoldSteps_73 rfl (lv_at hl 8 rfl) ?_
        refine mw_get (C := RX0) (T := TX0) (N := 7) B hI (hT.get hq (Ne.symm n1) (Ne.symm n3) (Ne.symm n2) (Ne.symm n4)) uin_X0 rfl 4 (by decide) kw_50 rfl dX0_takeForetoldSteps_74 ?_
        refine mv_lload B dX0_takeForetoldSteps_77 (lv_at hl 0 rfl) ?_
        refine mv_lmul B dX0_takeForetoldSteps_79 ?_
        refine mv_ladd B dX0_takeForetoldSteps_80 ?_
        refine mv_lload B dX0_takeForetoldSteps_81 (lv_at hl 4 rfl) ?_
        refine mv_ladd B dX0_takeForetoldSteps_83 ?_
        refine mv_ldc2 (z := 1000000000000000000) B dX0_takeForetoldSteps_84 kw_256 (by decide) ?_
        refine mv_ladd B dX0_takeForetoldSteps_87 ?_
        refine mv_nml (fun na hna => ?_)
        refine mv_lstore (lv' := [(13, .long (lI (na))), (11, .long (lI (gz j))), (9, .long (lI (gm j))), (8, .int (iI (i))), (6, .long (lI (cf))), (4, .long (lI (cm))), (3, .ref rfe), (2, .ref rmo), (1, .int (iI ((nm : Int)))), (0, .ref q)]) B dX0_takeForetoldSteps_88 hl (by decide) rfl (fun ls hl => ?_)
        refine mv_aload_n B dX0_takeForetoldSteps_90 rfl (lv_at hl 9 rfl) ?_
        refine mw_get (C := RX0) (T := TX0) (N := 7) B hI (hT.get hq (Ne.symm n1) (Ne.symm n3) (Ne.symm n2) (Ne.symm n4)) uin_X0 rfl 5 (by decide) kw_51 rfl dX0_takeForetoldSteps_91 ?_
        refine mv_lload B dX0_takeForetoldSteps_94 (lv_at hl 2 rfl) ?_
        refine mv_lmul B dX0_takeForetoldSteps_96 ?_
        refine mv_aload_n B dX0_takeForetoldSteps_97 rfl (lv_at hl 9 rfl) ?_
        refine mw_get (C := RX0) (T := TX0) (N := 7) B hI (hT.get hq (Ne.symm n1) (Ne.symm n3) (Ne.symm n2) (Ne.symm n4)) uin_X0 rfl 6 (by decide) kw_52 rfl dX0_takeForetoldSteps_98 ?_
        refine mv_lload B dX0_takeForetoldSteps_101 (lv_at hl 1 rfl) ?_
        refine mv_lmul B dX0_takeForetoldSteps_103 ?_
        refine mv_ladd B dX0_takeForetoldSteps_104 ?_
        refine mv_lload B dX0_takeForetoldSteps_105 (lv_at hl 4 rfl) ?_
        refine mv_ladd B dX0_takeForetoldSteps_107 ?_
        refine mv_ldc2 (z := 1000000000000000000) B dX0_takeForetoldSteps_108 kw_256 (by decide) ?_
        refine mv_ladd B dX0_takeForetoldSteps_111 ?_
        refine mv_nml (fun nb hnb => ?_)
        refine mv_lstore (lv' := [(15, .long (lI (nb))), (13, .long (lI (na))), (11, .long (lI (gz j))), (9, .long (lI (gm j))), (8, .int (iI (i))), (6, .long (lI (cf))), (4, .long (lI (cm))), (3, .ref rfe), (2, .ref rmo), (1, .int (iI ((nm : Int)))), (0, .ref q)]) B dX0_takeForetoldSteps_112 hl (by decide) rfl (fun ls hl => ?_)
        refine mv_lload B dX0_takeForetoldSteps_114 (lv_at hl 1 rfl) ?_
        refine mv_ldc2 (z := 1000000) B dX0_takeForetoldSteps_116 kw_244 (by decide) ?_
        have na1 : 0 ≤ na ∧ na ≤ 2000000000000000000 := by omega
        have nb1 : 0 ≤ nb ∧ nb ≤ 2000000000000000000 := by omega
        refine mv_ldiv B dX0_takeForetoldSteps_119 (by omega) ?_
        refine mv_ldc2 (z := 1000000000000) B dX0_takeForetoldSteps_120 kw_257 (by decide) ?_
        refine mv_lsub B dX0_takeForetoldSteps_123 ?_
        refine mv_lstore (lv' := [(4, .long (lI (((na) / (1000000)) - (1000000000000)))), (15, .long (lI (nb))), (13, .long (lI (na))), (11, .long (lI (gz j))), (9, .long (lI (gm j))), (8, .int (iI (i))), (6, .long (lI (cf))), (3, .ref rfe), (2, .ref rmo), (1, .int (iI ((nm : Int)))), (0, .ref q)]) B dX0_takeForetoldSteps_124 hl (by decide) rfl (fun ls hl => ?_)
        refine mv_lload B dX0_takeForetoldSteps_126 (lv_at hl 1 rfl) ?_
        refine mv_ldc2 (z := 1000000) B dX0_takeForetoldSteps_128 kw_244 (by decide) ?_
        refine mv_ldiv B dX0_takeForetoldSteps_131 (by omega) ?_
        refine mv_ldc2 (z := 1000000000000) B dX0_takeForetoldSteps_132 kw_257 (by decide) ?_
        refine mv_lsub B dX0_takeForetoldSteps_135 ?_
        refine mv_lstore (lv' := [(6, .long (lI (((nb) / (1000000)) - (1000000000000)))), (4, .long (lI (((na) / (1000000)) - (1000000000000)))), (15, .long (lI (nb))), (13, .long (lI (na))), (11, .long (lI (gz j))), (9, .long (lI (gm j))), (8, .int (iI (i))), (3, .ref rfe), (2, .ref rmo), (1, .int (iI ((nm : Int)))), (0, .ref q)]) B dX0_takeForetoldSteps_136 hl (by decide) rfl (fun ls hl => ?_)
        refine mv_aload_n B dX0_takeForetoldSteps_138 rfl (lv_at hl 8 rfl) ?_
        refine mv_iload B dX0_takeForetoldSteps_139 (lv_at hl 6 rfl) ?_
        refine mv_lload B dX0_takeForetoldSteps_141 (lv_at hl 3 rfl) ?_
        refine mv_ldc2 (z := 1000000) B dX0_takeForetoldSteps_143 kw_244 (by decide) ?_
        refine mv_lrem B dX0_takeForetoldSteps_146 (by omega) ?_
        refine mv_l2i B dX0_takeForetoldSteps_147 ?_
        refine ww_iast B hI (wSt.self hT.1 hT.2.1) (j) (by omega) (by omega) dX0_takeForetoldSteps_148 (fun f H locs hS hI => ?_)
        have hT := hT.h t1 t2 hS
        refine mv_aload_n B dX0_takeForetoldSteps_149 rfl (lv_at hl 7 rfl) ?_
        refine mv_iload B dX0_takeForetoldSteps_150 (lv_at hl 6 rfl) ?_
        refine mv_lload B dX0_takeForetoldSteps_152 (lv_at hl 2 rfl) ?_
        refine mv_ldc2 (z := 1000000) B dX0_takeForetoldSteps_154 kw_244 (by decide) ?_
        refine mv_lrem B dX0_takeForetoldSteps_157 (by omega) ?_
        refine mv_l2i B dX0_takeForetoldSteps_158 ?_
        refine ww_iast B hI (wSt.self hT.2.2.1 hT.2.2.2.1) (j) (by omega) (by omega) dX0_takeForetoldSteps_159 (fun f H locs hS hI => ?_)
        have hT := hT.t t1 t2 hS
        refine mv_iinc (k := 6) (lv' := [(8, .int (iI (i + 1))), (6, .long (lI (((nb) / (1000000)) - (1000000000000)))), (4, .long (lI (((na) / (1000000)) - (1000000000000)))), (15, .long (lI (nb))), (13, .long (lI (na))), (11, .long (lI (gz j))), (9, .long (lI (gm j))), (3, .ref rfe), (2, .ref rmo), (1, .int (iI ((nm : Int)))), (0, .ref q)]) B dX0_takeForetoldSteps_160 hl rfl (by decide) rfl (fun ls hl => ?_)
        refine mv_goto (tgt := 46) B dX0_takeForetoldSteps_163 (by decide) ?_
        refine ih (j + 1) _ _ _ _ _ f H locs ls (by omega) (by omega) (by omega) (by omega) (by omega) (dg1.up (by omega)) (dg2.up (by omega)) (fun i h1 => by rw [upI_ne _ _ (by omega)]; exact s1 i (by omega)) (fun i h1 => by rw [upI_ne _ _ (by omega)]; exact s2 i (by omega)) ?_ ?_ hI hT (lv_sub hl [0, 1, 2, 7, 8, 9, 10] rfl)
        · rw [dv_up_s, dv_s, dv_s, bp_s]
          exact fs_step v1 (by omega)
        · rw [dv_up_s, dv_s, dv_s, bp_s]
          exact fs_step v2 (by omega)
  exact loop (nm + 1) 0 _ _ _ gm gz f H locs ls (by omega) rfl (by omega) (by decide) (by decide) hzm.2.1 dgz (fun _ _ => rfl) (fun _ _ => rfl) (by simp [dv_0]) (by simp [dv_0]) hI hT (lv_sub hl [0, 1, 2, 3, 4, 5, 6] rfl)
end
section
/-! the common divisor: what stays between the calls -/
theorem Rp.keepq {cI : ClassId} {f f1 : mw_M} {q un mo fe x rx : Nat} {a b c d z : Int} (hx : Rp cI f x rx z) (hq : f q = some (prc un mo fe a b c d)) (ho : ∀ k, k ≠ q → f1 k = f k) : Rp cI f1 x rx z := by
  obtain ⟨g, n, b', h1, h2, h3⟩ := hx
  exact ⟨g, n, b', by rw [ho x (prc_ne hq h1)]; exact h1, by rw [ho rx (prc_neA hq h2)]; exact h2, h3⟩
theorem Rp.keep2 {cI : ClassId} {f f1 : mw_M} {h r t rt x rx : Nat} {z zh zt : Int} (hx : Rp cI f x rx z) (hf : fo2 f f1 h r t rt) (hh : Rp cI f h r zh) (ht : Rp cI f t rt zt) (h1 : x ≠ h) (h2 : rx ≠ r) (h3 : x ≠ t) (h4 : rx ≠ rt) : Rp cI f1 x rx z := by
  obtain ⟨g, n, b, a1, a2, a3⟩ := hx
  obtain ⟨_, _, _, b1, b2, -⟩ := hh
  obtain ⟨_, _, _, c1, c2, -⟩ := ht
  exact ⟨g, n, b, by rw [hf x h1 (wh_ne a1 b2) h3 (wh_ne a1 c2)]; exact a1, by rw [hf rx (Ne.symm (wh_ne b1 a2)) h2 (Ne.symm (wh_ne c1 a2)) h4]; exact a2, a3⟩
theorem prc_fo {cI : ClassId} {f f1 : mw_M} {h r q un mo fe : Nat} {a b c d z : Int} (hq : f q = some (prc un mo fe a b c d)) (hh : Rp cI f h r z) (hf : fo f f1 h r) : f1 q = some (prc un mo fe a b c d) := by
  obtain ⟨_, _, _, b1, b2, -⟩ := hh
  rw [hf q (Ne.symm (prc_ne hq b1)) (Ne.symm (prc_neA hq b2))]; exact hq
theorem prc_fo2 {cI : ClassId} {f f1 : mw_M} {h r t rt q un mo fe : Nat} {a b c d zh zt : Int} (hq : f q = some (prc un mo fe a b c d)) (hh : Rp cI f h r zh) (ht : Rp cI f t rt zt) (hf : fo2 f f1 h r t rt) : f1 q = some (prc un mo fe a b c d) := by
  obtain ⟨_, _, _, b1, b2, -⟩ := hh
  obtain ⟨_, _, _, c1, c2, -⟩ := ht
  rw [hf q (Ne.symm (prc_ne hq b1)) (Ne.symm (prc_neA hq b2)) (Ne.symm (prc_ne hq c1)) (Ne.symm (prc_neA hq c2))]; exact hq
theorem rp.abs {g : Nat → Int} {n : Nat} {b z : Int} (h : rp g n b z) : rp g n 0 (z.natAbs : Int) := ⟨h.1, h.2.1, h.2.2.1, Or.inl ⟨rfl, h.nat⟩⟩
/-- the addresses of the pair and of its three numbers -/
def pk_ (q un run p1 r1 p2 r2 k : Nat) : Prop := k = q ∨ k = un ∨ k = run ∨ k = p1 ∨ k = r1 ∨ k = p2 ∨ k = r2
def swp (p1 r1 p2 r2 mo rmo fe rfe : Nat) : Prop := (mo = p1 ∧ rmo = r1 ∧ fe = p2 ∧ rfe = r2) ∨ (mo = p2 ∧ rmo = r2 ∧ fe = p1 ∧ rfe = r1)
/-- more holds U, fewer V -/
def cdI (cI : ClassId) (f0 f : mw_M) (q un run p1 r1 p2 r2 : Nat) (G : Int) (mo rmo fe rfe : Nat) (U V : Int) : Prop :=
  swp p1 r1 p2 r2 mo rmo fe rfe ∧ (∃ a b c d, f q = some (prc un mo fe a b c d)) ∧ Rp cI f mo rmo U ∧ Rp cI f fe rfe V ∧ (∃ v, Rp cI f un run v) ∧ 0 ≤ V ∧ V ≤ U ∧ (Int.gcd U V : Int) = G ∧ U < 1000000 ^ 103 ∧ ∀ k, ¬ pk_ q un run p1 r1 p2 r2 k → f k = f0 k
theorem swp.ne {p1 r1 p2 r2 mo rmo fe rfe un run : Nat} (h : swp p1 r1 p2 r2 mo rmo fe rfe) (h1 : p1 ≠ p2) (h2 : r1 ≠ r2) (h3 : un ≠ p1) (h4 : un ≠ p2) (h5 : run ≠ r1) (h6 : run ≠ r2) : mo ≠ fe ∧ rmo ≠ rfe ∧ un ≠ mo ∧ un ≠ fe ∧ run ≠ rmo ∧ run ≠ rfe := by
  rcases h with ⟨rfl, rfl, rfl, rfl⟩ | ⟨rfl, rfl, rfl, rfl⟩
  · exact ⟨h1, h2, h3, h4, h5, h6⟩
  · exact ⟨Ne.symm h1, Ne.symm h2, h4, h3, h6, h5⟩
theorem swp.sw {p1 r1 p2 r2 mo rmo fe rfe : Nat} (h : swp p1 r1 p2 r2 mo rmo fe rfe) : swp p1 r1 p2 r2 fe rfe mo rmo := by
  rcases h with ⟨rfl, rfl, rfl, rfl⟩ | ⟨rfl, rfl, rfl, rfl⟩
  · exact Or.inr ⟨rfl, rfl, rfl, rfl⟩
  · exact Or.inl ⟨rfl, rfl, rfl, rfl⟩
theorem pk_.ne {q un run p1 r1 p2 r2 k mo rmo fe rfe : Nat} (h : ¬ pk_ q un run p1 r1 p2 r2 k) (hs : swp p1 r1 p2 r2 mo rmo fe rfe) : k ≠ q ∧ k ≠ un ∧ k ≠ run ∧ k ≠ mo ∧ k ≠ rmo ∧ k ≠ fe ∧ k ≠ rfe := by
  unfold pk_ at h
  rcases hs with ⟨rfl, rfl, rfl, rfl⟩ | ⟨rfl, rfl, rfl, rfl⟩ <;> (simp only [not_or] at h; obtain ⟨a, b, c, d, e, f, g⟩ := h)
  · exact ⟨a, b, c, d, e, f, g⟩
  · exact ⟨a, b, c, f, g, d, e⟩
theorem cd_end {U V G : Int} (hg : (Int.gcd U V : Int) = G) (hV : V = 0) (hU : 0 ≤ U) : U = G := by
  subst hV
  rw [← hg, Int.gcd_zero_right]
  omega
theorem cd_div {U V : Int} (hV : 0 < V) (hle : V ≤ U) : U.tmod V = U % V ∧ 0 ≤ U % V ∧ U % V ≤ V ∧ (Int.gcd V (U % V) : Int) = Int.gcd U V ∧ 2 * (V * (U % V)) ≤ U * V := by
  have h1 := Int.emod_nonneg U (show V ≠ 0 by omega)
  have h2 := Int.emod_lt_of_pos U hV
  have h3 := Int.mul_ediv_add_emod U V
  have e : U % V = U - U / V * V := by rw [Int.mul_comm (U / V)]; omega
  refine ⟨Int.tmod_eq_emod_of_nonneg (by omega), h1, by omega, ?_, ?_⟩
  · rw [e]
    exact congrArg _ (eu_gcd U V (U / V))
  · exact eu_half (by omega) hle e h1 h2 (Int.ediv_nonneg (by omega) (by omega))
theorem cd_half {U V U' V' M : Int} {j : Nat} (h : 2 * (U' * V') ≤ U * V) (hm : U * V * 2 ^ j ≤ M) : U' * V' * 2 ^ (j + 1) ≤ M := by
  have p0 : (0 : Int) < 2 ^ j := Int.pow_pos (by decide)
  have h1 : 2 * (U' * V') * 2 ^ j ≤ U * V * 2 ^ j := Int.mul_le_mul_of_nonneg_right h (by omega)
  have e : U' * V' * 2 ^ (j + 1) = 2 * (U' * V') * 2 ^ j := by rw [Int.pow_succ]; grind
  omega
theorem cd_start {U V : Int} (hU : 0 ≤ U) (hV : 0 ≤ V) (h1 : U < 1000000 ^ 103) (h2 : V < 1000000 ^ 103) : U * V * 2 ^ 0 ≤ 1000000 ^ 206 := by
  have h := mul_lt_lt hU h1 hV h2
  rw [← bp_add] at h
  rw [Int.pow_zero, Int.mul_one]
  exact Int.le_of_lt h
theorem cd_stop {U V : Int} (hV : 0 ≤ V) (hle : V ≤ U) (hm : U * V * 2 ^ 10000 ≤ 1000000 ^ 206) : V = 0 := by
  rcases Int.lt_or_le 0 V with q | q
  · have h1 : 1 * 1 ≤ U * V := Int.mul_le_mul (by omega) (by omega) (by decide) (by omega)
    have p0 : (0 : Int) < 2 ^ 10000 := Int.pow_pos (by decide)
    have h2 : 1 * 2 ^ 10000 ≤ U * V * 2 ^ 10000 := Int.mul_le_mul_of_nonneg_right h1 (by omega)
    have h3 : (1000000 : Int) ^ 206 < 2 ^ 10000 := by decide +kernel
    omega
  · omega
end
section
theorem gcd_abs (a b : Int) : Int.gcd (a.natAbs : Int) (b.natAbs : Int) = Int.gcd a b := rfl
end
section
abbrev rm_X0_commonDivisor : Room := { frames := 3, cells := 0, slots := 0, locals := 85 }
set_option maxHeartbeats 4000000 in
set_option maxRecDepth 100000 in
/-- commonDivisor -/
theorem t_X0_commonDivisor (l : Launch) (D : va_G) (kA : Nat → ClassId) (sz : Nat) (f0 : mw_M) {q un run mo rmo fe rfe x rx y ry : Nat} {a_ b_ c_ d_ vu vm vf zx zy : Int} (hq : f0 q = some (prc un mo fe a_ b_ c_ d_)) (hun : Rp (kA 0) f0 un run vu) (hmo : Rp (kA 0) f0 mo rmo vm) (hfe : Rp (kA 0) f0 fe rfe vf) (hx : Rp (kA 0) f0 x rx zx) (hy : Rp (kA 0) f0 y ry zy) (n1 : mo ≠ fe) (n2 : rmo ≠ rfe) (n3 : un ≠ mo) (n4 : un ≠ fe) (n5 : run ≠ rmo) (n6 : run ≠ rfe) (x2 : x ≠ mo) (x3 : x ≠ fe) (x5 : rx ≠ rmo) (x6 : rx ≠ rfe) (y2 : y ≠ mo) (y3 : y ≠ fe) (y5 : ry ≠ rmo) (y6 : ry ≠ rfe) (k1 : (zx.natAbs : Int) < 1000000 ^ 103) (k2 : (zy.natAbs : Int) < 1000000 ^ 103) : mw_Mr l yX0_commonDivisor (Cond.code yX0_commonDivisor cX0_commonDivisor 4 ((some (.object "BigDesk$Whole"))) :: gw) rm_X0_commonDivisor D vwCl (tyL kA) st_S [.ref q, .ref x, .ref y] f0 sz (fun u => ∃ mo' rmo' fe' rfe' a b c d, swp mo rmo fe rfe mo' rmo' fe' rfe' ∧ u.1 = mo' ∧ u.2 q = some (prc un mo' fe' a b c d) ∧ Rp (kA 0) u.2 mo' rmo' (Int.gcd zx zy : Int) ∧ (∃ v, Rp (kA 0) u.2 fe' rfe' v) ∧ (∃ v, Rp (kA 0) u.2 un run v) ∧ ∀ k, ¬ pk_ q un run mo rmo fe rfe k → u.2 k = f0 k) 0 0 := by
  refine mw_ofr (cc := cX0_commonDivisor) (maxL := 4) (ret := (some (.object "BigDesk$Whole"))) (by decide) rfl (Nat.le_of_ble_eq_true rfl) ?_
  intro p e s m below meth c A ls Q hQ B hrt hnm hA hI hSt hl
  have hl : lv_has ls 4 [(0, .ref q), (1, .ref x), (2, .ref y)] := hl
  obtain ⟨f, hI, hf⟩ : ∃ f, mw_I D vwCl A s s.heap [] f ∧ f = f0 := ⟨f0, hI, rfl⟩
  have ho : ∀ k, ¬ pk_ q un run mo rmo fe rfe k → f k = f0 k := fun k _ => by rw [hf]
  rw [← hf] at hq hun hmo hfe hx hy
  have hpk : ∀ k, ¬ pk_ q un run mo rmo fe rfe k → k ≠ q ∧ k ≠ un ∧ k ≠ run ∧ k ≠ mo ∧ k ≠ rmo ∧ k ≠ fe ∧ k ≠ rfe := fun k h => pk_.ne h (Or.inl ⟨rfl, rfl, rfl, rfl⟩)
  refine mv_aload_n B dX0_commonDivisor_0 rfl (lv_at hl 0 rfl) ?_
  refine mw_get (C := RX0) (T := TX0) (N := 7) B hI hq uin_X0 rfl 1 (by decide) kw_47 rfl dX0_commonDivisor_1 ?_
  refine mv_aload_n B dX0_commonDivisor_4 rfl (lv_at hl 1 rfl) ?_
  obtain ⟨_, _, _, cmo, -, -⟩ := id hmo
  refine mw_callv hI hA (va_runV (As := [.ref x]) (rest := []) B.fix (t_X1_take l D kA s.heap.size f hmo.w hx (Or.inr ⟨x2, x5⟩)) (cwV 1 B.2.2.2.2.1 (gV kw_228 kw_154 kw_155 kw_2 kw_156) rfl rfl rfl (by decide +kernel) ⟨Nat.le_of_ble_eq_true rfl, Nat.le_of_ble_eq_true rfl⟩) ⟨mw_blind st_S.blind, mw_recv B hI cmo rfl, mw_pre B hI (hSt.call hI hA)⟩ rfl rfl hl.1 rfl (lv_room (Nat.le_of_ble_eq_true rfl)) dX0_commonDivisor_5 ⟨Nat.le_of_ble_eq_true rfl, Nat.le_of_ble_eq_true rfl⟩) (fun f H locs hp hI2 => ?_)
  clear hI
  have hI := hI2
  clear hI2
  obtain ⟨hmo', o1⟩ := hp
  have hun := hun.keep o1 hmo.w n3 n5
  have hfe := hfe.keep o1 hmo.w (Ne.symm n1) (Ne.symm n2)
  have hy := hy.keep o1 hmo.w y2 y5
  have hq := prc_fo hq hmo o1
  have ho : ∀ k, ¬ pk_ q un run mo rmo fe rfe k → f k = f0 k := fun k h => (o1 k (hpk k h).2.2.2.1 (hpk k h).2.2.2.2.1).trans (ho k h)
  have hmo := hmo'
  refine mv_aload_n B dX0_commonDivisor_8 rfl (lv_at hl 0 rfl) ?_
  refine mw_get (C := RX0) (T := TX0) (N := 7) B hI hq uin_X0 rfl 2 (by decide) kw_48 rfl dX0_commonDivisor_9 ?_
  refine mv_aload_n B dX0_commonDivisor_12 rfl (lv_at hl 2 rfl) ?_
  obtain ⟨_, _, _, cfe, -, -⟩ := id hfe
  refine mw_callv hI hA (va_runV (As := [.ref y]) (rest := []) B.fix (t_X1_take l D kA H.size f hfe.w hy (Or.inr ⟨y3, y6⟩)) (cwV 1 B.2.2.2.2.1 (gV kw_228 kw_154 kw_155 kw_2 kw_156) rfl rfl rfl (by decide +kernel) ⟨Nat.le_of_ble_eq_true rfl, Nat.le_of_ble_eq_true rfl⟩) ⟨mw_blind st_S.blind, mw_recv B hI cfe rfl, mw_pre B hI (hSt.call hI hA)⟩ rfl rfl hl.1 rfl (lv_room (Nat.le_of_ble_eq_true rfl)) dX0_commonDivisor_13 ⟨Nat.le_of_ble_eq_true rfl, Nat.le_of_ble_eq_true rfl⟩) (fun f H locs hp hI2 => ?_)
  clear hI
  have hI := hI2
  clear hI2
  obtain ⟨hfe', o1⟩ := hp
  have hun := hun.keep o1 hfe.w n4 n6
  have hmo := hmo.keep o1 hfe.w n1 n2
  have hq := prc_fo hq hfe o1
  have ho : ∀ k, ¬ pk_ q un run mo rmo fe rfe k → f k = f0 k := fun k h => (o1 k (hpk k h).2.2.2.2.2.1 (hpk k h).2.2.2.2.2.2).trans (ho k h)
  have hfe := hfe'
  refine mv_aload_n B dX0_commonDivisor_16 rfl (lv_at hl 0 rfl) ?_
  refine mw_get (C := RX0) (T := TX0) (N := 7) B hI hq uin_X0 rfl 1 (by decide) kw_47 rfl dX0_commonDivisor_17 ?_
  refine mv_iconst B dX0_commonDivisor_20 ?_
  obtain ⟨gm, nm, bm, c1, c2, c3_⟩ := id hmo
  refine ww_putb B hI (wSt.self c1 c2) (Or.inl rfl) uin_X1 kw_28 dX0_commonDivisor_21 (fun f H locs hS hI => ?_)
  have hN := hS.toRp c3_.abs
  have hun := hun.keep hN.2 hmo.w n3 n5
  have hfe := hfe.keep hN.2 hmo.w (Ne.symm n1) (Ne.symm n2)
  have hq := prc_fo hq hmo hN.2
  have ho : ∀ k, ¬ pk_ q un run mo rmo fe rfe k → f k = f0 k := fun k h => (hN.2 k (hpk k h).2.2.2.1 (hpk k h).2.2.2.2.1).trans (ho k h)
  have hmo := hN.1
  refine mv_aload_n B dX0_commonDivisor_24 rfl (lv_at hl 0 rfl) ?_
  refine mw_get (C := RX0) (T := TX0) (N := 7) B hI hq uin_X0 rfl 2 (by decide) kw_48 rfl dX0_commonDivisor_25 ?_
  refine mv_iconst B dX0_commonDivisor_28 ?_
  obtain ⟨gf, nf, bf, c1, c2, c3_⟩ := id hfe
  refine ww_putb B hI (wSt.self c1 c2) (Or.inl rfl) uin_X1 kw_28 dX0_commonDivisor_29 (fun f H locs hS hI => ?_)
  have hN := hS.toRp c3_.abs
  have hun := hun.keep hN.2 hfe.w n4 n6
  have hmo := hmo.keep hN.2 hfe.w n1 n2
  have hq := prc_fo hq hfe hN.2
  have ho : ∀ k, ¬ pk_ q un run mo rmo fe rfe k → f k = f0 k := fun k h => (hN.2 k (hpk k h).2.2.2.2.2.1 (hpk k h).2.2.2.2.2.2).trans (ho k h)
  have hfe := hN.1
  refine mv_aload_n B dX0_commonDivisor_32 rfl (lv_at hl 0 rfl) ?_
  refine mw_get (C := RX0) (T := TX0) (N := 7) B hI hq uin_X0 rfl 1 (by decide) kw_47 rfl dX0_commonDivisor_33 ?_
  refine mv_aload_n B dX0_commonDivisor_36 rfl (lv_at hl 0 rfl) ?_
  refine mw_get (C := RX0) (T := TX0) (N := 7) B hI hq uin_X0 rfl 2 (by decide) kw_48 rfl dX0_commonDivisor_37 ?_
  obtain ⟨g1, m1, b1, e1, e2, e3⟩ := id hmo
  obtain ⟨g2, m2, b2, e4, e5, e6⟩ := id hfe
  refine mw_calli hI hA (va_runV (As := [.ref fe]) (rest := []) B.fix (t_X1_compareParts l D kA H.size f e1 e2 e4 e5 e3.toCn e6.toCn) (cwV 1 B.2.2.2.2.1 (gV kw_229 kw_129 kw_130 kw_2 kw_131) rfl rfl rfl (by decide +kernel) ⟨Nat.le_of_ble_eq_true rfl, Nat.le_of_ble_eq_true rfl⟩) ⟨mw_blind st_S.blind, mw_recv B hI e1 rfl, mw_pre B hI (hSt.call hI hA)⟩ rfl rfl hl.1 rfl (lv_room (Nat.le_of_ble_eq_true rfl)) dX0_commonDivisor_40 ⟨Nat.le_of_ble_eq_true rfl, Nat.le_of_ble_eq_true rfl⟩) (fun r f H locs hp hI2 => ?_)
  clear hI
  have hI := hI2
  clear hI2
  obtain ⟨rfl, rfl⟩ := hp
  have q1 := e3.nat
  have q2 := e6.nat
  have q3 := c3_in (dv g1 m1) (dv g2 m2)
  have j50 : ∀ (mo1 rmo1 fe1 rfe1 : Nat) (U V : Int) (f : mw_M) (H : Heap) (locs : List Loc), cdI (kA 0) f0 f q un run mo rmo fe rfe (Int.gcd zx zy : Int) mo1 rmo1 fe1 rfe1 U V → mw_I D vwCl A s H locs f → W p l e rm_X0_commonDivisor s m ([.ref q, .ref x, .ref y] : List Value).toArray below meth c H locs 0 0 Q (F0 m 50 ls []) := by
    intro mo1 rmo1 fe1 rfe1 U V f H locs hC hI
    have hm0 := cd_start (U := U) (V := V) (by have := hC.2.2.2.2.2; omega) hC.2.2.2.2.2.1 hC.2.2.2.2.2.2.2.2.1 (by have := hC.2.2.2.2.2; omega)
    refine mv_iconst B dX0_commonDivisor_50 ?_
    refine mv_istore_n (lv' := [(3, .int (iI (0))), (0, .ref q), (1, .ref x), (2, .ref y)]) B dX0_commonDivisor_51 rfl hl (by decide) rfl (fun ls hl => ?_)
    have loop : ∀ (μ : Nat) (j : Nat) (i : Int) (mo1 rmo1 fe1 rfe1 : Nat) (U V : Int) (f : mw_M) (H : Heap) (locs : List Loc) (ls : Array Slot), 10000 - j < μ → i = (j : Int) → j ≤ 10000 → cdI (kA 0) f0 f q un run mo rmo fe rfe (Int.gcd zx zy : Int) mo1 rmo1 fe1 rfe1 U V → U * V * 2 ^ j ≤ 1000000 ^ 206 → mw_I D vwCl A s H locs f → lv_has ls 4 [(3, .int (iI (i))), (0, .ref q), (1, .ref x), (2, .ref y)] → W p l e rm_X0_commonDivisor s m ([.ref q, .ref x, .ref y] : List Value).toArray below meth c H locs 0 0 Q (F0 m 52 ls []) := by
      intro μ
      induction μ with
      | zero => intro j i mo1 rmo1 fe1 rfe1 U V f H locs ls hμ; exact absurd hμ (Nat.not_lt_zero _)
      | succ μ ih =>
        intro j i mo1 rmo1 fe1 rfe1 U V f H locs ls hμ hi hj hC hm hI hl
        obtain ⟨hsw, ⟨a, b, c_1, d, hq⟩, hmo, hfe, ⟨vu, hun⟩, V0, VU, hG, UB, ho⟩ := hC
        obtain ⟨n1, n2, n3, n4, n5, n6⟩ := hsw.ne n1 n2 n3 n4 n5 n6
        obtain ⟨g1, m1, b1, e1, e2, e3⟩ := id hmo
        obtain ⟨g2, m2, b2, e4, e5, e6⟩ := id hfe
        have q1 := e3.nat
        have q2 := e6.nat
        have l1 := e3.1
        have l2 := e6.1
        have z2 := e6.zero
        have z1 := e3.zero
        refine mv_iload_n B dX0_commonDivisor_52 rfl (lv_at hl 0 rfl) ?_
        refine mv_sipush B dX0_commonDivisor_53 (by decide) ?_
        refine mv_icmp_ge (tgt := 114) B dX0_commonDivisor_56 (by decide) (by omega) (fun hd0 => ?_) (fun hd0 => ?_)
        · have hV0 : V = 0 := cd_stop V0 VU (by rw [show j = 10000 by omega] at hm; exact hm)
          refine mv_aload_n B dX0_commonDivisor_114 rfl (lv_at hl 1 rfl) ?_
          refine mw_get (C := RX0) (T := TX0) (N := 7) B hI hq uin_X0 rfl 1 (by decide) kw_47 rfl dX0_commonDivisor_115 ?_
          exact mw_aret B hQ hrt hI ⟨mo1, rmo1, fe1, rfe1, a, b, c_1, d, hsw, rfl, hq, by rw [← cd_end hG hV0 (by omega)]; exact hmo, ⟨_, hfe⟩, ⟨_, hun⟩, ho⟩ dX0_commonDivisor_118
        · refine mv_aload_n B dX0_commonDivisor_59 rfl (lv_at hl 1 rfl) ?_
          refine mw_get (C := RX0) (T := TX0) (N := 7) B hI hq uin_X0 rfl 2 (by decide) kw_48 rfl dX0_commonDivisor_60 ?_
          refine mw_calli hI hA (va_runV (As := []) (rest := []) B.fix (t_X1_isZero l D kA H.size f e4 (by omega)) (cwV 0 B.2.2.2.2.1 (gV kw_234 kw_192 kw_193 kw_2 kw_194) rfl rfl rfl (by decide +kernel) ⟨Nat.le_of_ble_eq_true rfl, Nat.le_of_ble_eq_true rfl⟩) ⟨mw_blind st_S.blind, mw_recv B hI e4 rfl, mw_pre B hI (hSt.call hI hA)⟩ rfl rfl hl.1 rfl (lv_room (Nat.le_of_ble_eq_true rfl)) dX0_commonDivisor_63 ⟨Nat.le_of_ble_eq_true rfl, Nat.le_of_ble_eq_true rfl⟩) (fun r f H locs hp hI2 => ?_)
          clear hI
          have hI := hI2
          clear hI2
          obtain ⟨rfl, rfl⟩ := hp
          refine mv_if_ne (tgt := 114) B dX0_commonDivisor_66 (by decide) (by split <;> omega) (fun hd1 => ?_) (fun hd1 => ?_)
          · have hV0 : V = 0 := by
              by_cases q : (m2 : Int) = 0
              · omega
              · rw [if_neg q] at hd1; exact absurd rfl hd1
            refine mv_aload_n B dX0_commonDivisor_114 rfl (lv_at hl 1 rfl) ?_
            refine mw_get (C := RX0) (T := TX0) (N := 7) B hI hq uin_X0 rfl 1 (by decide) kw_47 rfl dX0_commonDivisor_115 ?_
            exact mw_aret B hQ hrt hI ⟨mo1, rmo1, fe1, rfe1, a, b, c_1, d, hsw, rfl, hq, by rw [← cd_end hG hV0 (by omega)]; exact hmo, ⟨_, hfe⟩, ⟨_, hun⟩, ho⟩ dX0_commonDivisor_118
          · have hm2 : ¬ (m2 : Int) = 0 := fun q => by rw [if_pos q] at hd1; omega
            have hV1 : 0 < V := by omega
            refine mv_aload_n B dX0_commonDivisor_69 rfl (lv_at hl 1 rfl) ?_
            refine mw_callv hI hA (va_runV (As := []) (rest := []) B.fix (t_X0_foretellSteps l D kA H.size f hq e1 e2 e4 e5 e3.toCn e6.toCn (by omega) (by omega)) (cwV 0 B.2.2.2.2.1 (gV kw_235 kw_237 ks_10 kw_3 kw_238) rfl rfl rfl (by decide +kernel) ⟨Nat.le_of_ble_eq_true rfl, Nat.le_of_ble_eq_true rfl⟩) ⟨mw_blind st_S.blind, mw_recv B hI hq rfl, mw_pre B hI (hSt.call hI hA)⟩ rfl rfl hl.1 rfl (lv_room (Nat.le_of_ble_eq_true rfl)) dX0_commonDivisor_70 ⟨Nat.le_of_ble_eq_true rfl, Nat.le_of_ble_eq_true rfl⟩) (fun f H locs hp hI2 => ?_)
            clear hI
            have hI := hI2
            clear hI2
            obtain ⟨a, b, c_1, d, hq', o1, hO⟩ := hp
            rw [show dv g1 m1 = U by omega, show dv g2 m2 = V by omega] at hO
            have hmo := hmo.keepq hq o1
            have hfe := hfe.keepq hq o1
            have hun := hun.keepq hq o1
            have ho : ∀ k, ¬ pk_ q un run mo rmo fe rfe k → f k = f0 k := fun k h => (o1 k (pk_.ne h hsw).1).trans (ho k h)
            have hq := hq'
            have hbb := hO.1
            refine mv_aload_n B dX0_commonDivisor_73 rfl (lv_at hl 1 rfl) ?_
            refine mw_get (C := RX0) (T := TX0) (N := 7) B hI hq uin_X0 rfl 4 (by decide) kw_50 rfl dX0_commonDivisor_74 ?_
            refine mv_lconst0 B dX0_commonDivisor_77 ?_
            refine mv_lcmp_ne (tgt := 104) B dX0_commonDivisor_78 dX0_commonDivisor_79 (by decide) (by omega) (fun hd2 => ?_) (fun hd2 => ?_)
            · refine mv_aload_n B dX0_commonDivisor_104 rfl (lv_at hl 1 rfl) ?_
              refine mw_callv hI hA (va_runV (As := []) (rest := []) B.fix (t_X0_takeForetoldSteps l D kA H.size f hq hmo hfe (Ne.symm n1) (Ne.symm n2) V0 VU hO) (cwV 0 B.2.2.2.2.1 (gV kw_246 kw_248 ks_12 kw_3 kw_249) rfl rfl rfl (by decide +kernel) ⟨Nat.le_of_ble_eq_true rfl, Nat.le_of_ble_eq_true rfl⟩) ⟨mw_blind st_S.blind, mw_recv B hI hq rfl, mw_pre B hI (hSt.call hI hA)⟩ rfl rfl hl.1 rfl (lv_room (Nat.le_of_ble_eq_true rfl)) dX0_commonDivisor_105 ⟨Nat.le_of_ble_eq_true rfl, Nat.le_of_ble_eq_true rfl⟩) (fun f H locs hp hI2 => ?_)
              clear hI
              have hI := hI2
              clear hI2
              obtain ⟨hmo', hfe', o1⟩ := hp
              have hun := hun.keep2 o1 hmo hfe n3 n5 n4 n6
              have hq := prc_fo2 hq hmo hfe o1
              have ho : ∀ k, ¬ pk_ q un run mo rmo fe rfe k → f k = f0 k := fun k h => (o1 k (pk_.ne h hsw).2.2.2.1 (pk_.ne h hsw).2.2.2.2.1 (pk_.ne h hsw).2.2.2.2.2.1 (pk_.ne h hsw).2.2.2.2.2.2).trans (ho k h)
              have hh2 : 2 * ((a * U + b * V) * (c_1 * U + d * V)) ≤ U * V := by
                rcases hO.2.2.2 with ⟨_, r2, _, _⟩ | r2
                · exact absurd r2 hd2
                · exact r2
              refine mv_iinc (k := 0) (lv' := [(3, .int (iI (i + 1))), (0, .ref q), (1, .ref x), (2, .ref y)]) B dX0_commonDivisor_108 hl rfl (by decide) rfl (fun ls hl => ?_)
              refine mv_goto (tgt := 52) B dX0_commonDivisor_111 (by decide) ?_
              exact ih (j + 1) _ mo1 rmo1 fe1 rfe1 _ _ f H locs ls (by omega) (by omega) (by omega) ⟨hsw, ⟨a, b, c_1, d, hq⟩, hmo', hfe', ⟨_, hun⟩, hO.2.1.1, hO.2.1.2.1, by rw [← hG, hO.2.2.1], by have := hO.2.1.2.2; omega, ho⟩ (cd_half hh2 hm) hI (lv_sub hl [0, 1, 2, 3] rfl)
            · refine mv_aload_n B dX0_commonDivisor_82 rfl (lv_at hl 1 rfl) ?_
              refine mw_get (C := RX0) (T := TX0) (N := 7) B hI hq uin_X0 rfl 1 (by decide) kw_47 rfl dX0_commonDivisor_83 ?_
              refine mv_aload_n B dX0_commonDivisor_86 rfl (lv_at hl 1 rfl) ?_
              refine mw_get (C := RX0) (T := TX0) (N := 7) B hI hq uin_X0 rfl 2 (by decide) kw_48 rfl dX0_commonDivisor_87 ?_
              refine mv_aload_n B dX0_commonDivisor_90 rfl (lv_at hl 1 rfl) ?_
              refine mw_get (C := RX0) (T := TX0) (N := 7) B hI hq uin_X0 rfl 0 (by decide) kw_46 rfl dX0_commonDivisor_91 ?_
              obtain ⟨_, _, _, cmo, -, -⟩ := id hmo
              refine mw_callv hI hA (va_runV (As := [.ref fe1, .ref un]) (rest := []) B.fix (t_X1_divideBy l D kA H.size f hmo hfe hun.w (Ne.symm n1) (Ne.symm n2) n3 n5 n4 n6 (by omega) (by omega)) (cwV 2 B.2.2.2.2.1 (gV kw_245 kw_196 kw_197 kw_2 kw_198) rfl rfl rfl (by decide +kernel) ⟨Nat.le_of_ble_eq_true rfl, Nat.le_of_ble_eq_true rfl⟩) ⟨mw_blind st_S.blind, mw_recv B hI cmo rfl, mw_pre B hI (hSt.call hI hA)⟩ rfl rfl hl.1 rfl (lv_room (Nat.le_of_ble_eq_true rfl)) dX0_commonDivisor_94 ⟨Nat.le_of_ble_eq_true rfl, Nat.le_of_ble_eq_true rfl⟩) (fun f H locs hp hI2 => ?_)
              clear hI
              have hI := hI2
              clear hI2
              obtain ⟨hmo', hun', o1⟩ := hp
              obtain ⟨t1, t2, t3, t4, t5⟩ := cd_div hV1 VU
              rw [t1] at hmo'
              have hfe := hfe.keep2 o1 hmo hun (Ne.symm n1) (Ne.symm n2) (Ne.symm n4) (Ne.symm n6)
              have hq := prc_fo2 hq hmo hun o1
              have ho : ∀ k, ¬ pk_ q un run mo rmo fe rfe k → f k = f0 k := fun k h => (o1 k (pk_.ne h hsw).2.2.2.1 (pk_.ne h hsw).2.2.2.2.1 (pk_.ne h hsw).2.1 (pk_.ne h hsw).2.2.1).trans (ho k h)
              refine mv_aload_n B dX0_commonDivisor_97 rfl (lv_at hl 1 rfl) ?_
              refine mw_callv hI hA (va_runV (As := []) (rest := []) B.fix (t_X0_change l D kA H.size f hq) (cwV 0 B.2.2.2.2.1 (gV kw_230 kw_232 ks_9 kw_3 kw_233) rfl rfl rfl (by decide +kernel) ⟨Nat.le_of_ble_eq_true rfl, Nat.le_of_ble_eq_true rfl⟩) ⟨mw_blind st_S.blind, mw_recv B hI hq rfl, mw_pre B hI (hSt.call hI hA)⟩ rfl rfl hl.1 rfl (lv_room (Nat.le_of_ble_eq_true rfl)) dX0_commonDivisor_98 ⟨Nat.le_of_ble_eq_true rfl, Nat.le_of_ble_eq_true rfl⟩) (fun f H locs hp hI2 => ?_)
              clear hI
              have hI := hI2
              clear hI2
              obtain ⟨hq', o2⟩ := hp
              have hmo := hmo'.keepq hq o2
              have hfe := hfe.keepq hq o2
              have hun := hun'.keepq hq o2
              have ho : ∀ k, ¬ pk_ q un run mo rmo fe rfe k → f k = f0 k := fun k h => (o2 k (pk_.ne h hsw).1).trans (ho k h)
              refine mv_goto (tgt := 108) B dX0_commonDivisor_101 (by decide) ?_
              refine mv_iinc (k := 0) (lv' := [(3, .int (iI (i + 1))), (0, .ref q), (1, .ref x), (2, .ref y)]) B dX0_commonDivisor_108 hl rfl (by decide) rfl (fun ls hl => ?_)
              refine mv_goto (tgt := 52) B dX0_commonDivisor_111 (by decide) ?_
              exact ih (j + 1) _ fe1 rfe1 mo1 rmo1 _ _ f H locs ls (by omega) (by omega) (by omega) ⟨hsw.sw, ⟨a, b, c_1, d, hq'⟩, hfe, hmo, ⟨_, hun⟩, t2, t3, by rw [t4]; exact hG, by omega, ho⟩ (cd_half t5 hm) hI (lv_sub hl [0, 1, 2, 3] rfl)
    exact loop 10001 0 _ mo1 rmo1 fe1 rfe1 U V f H locs ls (by decide) rfl (by decide) hC hm0 hI (lv_sub hl [0, 1, 2, 3] rfl)
  refine mv_if_ge (tgt := 50) B dX0_commonDivisor_43 (by decide) (by omega) (fun hd9 => ?_) (fun hd9 => ?_)
  · exact j50 mo rmo fe rfe _ _ f H locs ⟨Or.inl ⟨rfl, rfl, rfl, rfl⟩, ⟨_, _, _, _, hq⟩, hmo, hfe, ⟨_, hun⟩, by omega, by omega, by rw [gcd_abs], by omega, ho⟩ hI
  · refine mv_aload_n B dX0_commonDivisor_46 rfl (lv_at hl 0 rfl) ?_
    refine mw_callv hI hA (va_runV (As := []) (rest := []) B.fix (t_X0_change l D kA H.size f hq) (cwV 0 B.2.2.2.2.1 (gV kw_230 kw_232 ks_9 kw_3 kw_233) rfl rfl rfl (by decide +kernel) ⟨Nat.le_of_ble_eq_true rfl, Nat.le_of_ble_eq_true rfl⟩) ⟨mw_blind st_S.blind, mw_recv B hI hq rfl, mw_pre B hI (hSt.call hI hA)⟩ rfl rfl hl.1 rfl (lv_room (Nat.le_of_ble_eq_true rfl)) dX0_commonDivisor_47 ⟨Nat.le_of_ble_eq_true rfl, Nat.le_of_ble_eq_true rfl⟩) (fun f H locs hp hI2 => ?_)
    clear hI
    have hI := hI2
    clear hI2
    obtain ⟨hq', o2⟩ := hp
    have hmo := hmo.keepq hq o2
    have hfe := hfe.keepq hq o2
    have hun := hun.keepq hq o2
    have ho : ∀ k, ¬ pk_ q un run mo rmo fe rfe k → f k = f0 k := fun k h => (o2 k (hpk k h).1).trans (ho k h)
    exact j50 fe rfe mo rmo _ _ f H locs ⟨Or.inr ⟨rfl, rfl, rfl, rfl⟩, ⟨_, _, _, _, hq'⟩, hfe, hmo, ⟨_, hun⟩, by omega, by omega, by rw [gcd_abs, Int.gcd_comm], by omega, ho⟩ hI
end
section
/-! THE DESK: twenty-four numbers at addresses w i with rows ra i: 0..15 the slots, 16 upper, 17 lower, 18 first, 19 second, 20 quotient, 21 unused, 22 and 23 the pair's two -/
abbrev dkc (sl up lo fi se qu pa : Nat) : va_E := .inr (2, [.ref sl, .ref up, .ref lo, .ref fi, .ref se, .ref qu, .ref pa])
def DK (kA : Nat → ClassId) (f : mw_M) (d sl pa : Nat) (w ra : Nat → Nat) (Y : Nat → Int) : Prop :=
  f d = some (dkc sl (w 16) (w 17) (w 18) (w 19) (w 20) pa) ∧
  (∃ gs, f sl = some (mw_qr (kA 1) 16 gs) ∧ ∀ i, i < 16 → gs i = some (w i)) ∧
  (∃ mo rmo fe rfe a b c e, swp (w 22) (ra 22) (w 23) (ra 23) mo rmo fe rfe ∧ f pa = some (prc (w 21) mo fe a b c e)) ∧
  (∀ i, i < 24 → Rp (kA 0) f (w i) (ra i) (Y i)) ∧ (∀ i j, i < 24 → j < 24 → i ≠ j → w i ≠ w j ∧ ra i ≠ ra j)
def dks (d sl pa : Nat) (w ra : Nat → Nat) (k : Nat) : Prop := k = d ∨ k = sl ∨ k = pa ∨ ∃ i, i < 24 ∧ (k = w i ∨ k = ra i)
section DESK
variable {kA : Nat → ClassId} {f f1 : mw_M} {d sl pa : Nat} {w ra : Nat → Nat} {Y : Nat → Int}
theorem dks_w {k i : Nat} (h : ¬ dks d sl pa w ra k) (hi : i < 24) : k ≠ w i ∧ k ≠ ra i := ⟨fun q => h (Or.inr (Or.inr (Or.inr ⟨i, hi, Or.inl q⟩))), fun q => h (Or.inr (Or.inr (Or.inr ⟨i, hi, Or.inr q⟩)))⟩
theorem DK.rp (h : DK kA f d sl pa w ra Y) {i : Nat} (hi : i < 24) : Rp (kA 0) f (w i) (ra i) (Y i) := h.2.2.2.1 i hi
theorem DK.ne (h : DK kA f d sl pa w ra Y) {i j : Nat} (hi : i < 24) (hj : j < 24) (hij : i ≠ j) : w i ≠ w j ∧ ra i ≠ ra j := h.2.2.2.2 i j hi hj hij
/-- the three cells that are no number -/
theorem DK.frame (h : DK kA f d sl pa w ra Y) (ho : ∀ k, (∀ i, i < 24 → k ≠ w i ∧ k ≠ ra i) → f1 k = f k) (hR : ∀ i, i < 24 → ∃ z, Rp (kA 0) f1 (w i) (ra i) z) {Y1 : Nat → Int} (hY : ∀ i, i < 24 → Rp (kA 0) f1 (w i) (ra i) (Y1 i)) : DK kA f1 d sl pa w ra Y1 := by
  obtain ⟨h1, ⟨gs, h2, h3⟩, ⟨mo, rmo, fe, rfe, a, b, c, e, h4, h5⟩, h6, h7⟩ := h
  have kd : ∀ i, i < 24 → d ≠ w i ∧ d ≠ ra i := fun i hi => by
    obtain ⟨g, n, b', q1, q2, -⟩ := h6 i hi
    exact ⟨fun q => (by rw [← q, h1] at q1; simp [ciW] at q1), fun q => (by rw [← q, h1] at q2; cases q2)⟩
  have ks : ∀ i, i < 24 → sl ≠ w i ∧ sl ≠ ra i := fun i hi => by
    obtain ⟨g, n, b', q1, q2, -⟩ := h6 i hi
    exact ⟨fun q => (by rw [← q, h2] at q1; cases q1), fun q => (by rw [← q, h2] at q2; simp at q2)⟩
  have kp : ∀ i, i < 24 → pa ≠ w i ∧ pa ≠ ra i := fun i hi => by
    obtain ⟨g, n, b', q1, q2, -⟩ := h6 i hi
    exact ⟨Ne.symm (prc_ne h5 q1), Ne.symm (prc_neA h5 q2)⟩
  exact ⟨by rw [ho d kd]; exact h1, ⟨gs, by rw [ho sl ks]; exact h2, h3⟩, ⟨mo, rmo, fe, rfe, a, b, c, e, h4, by rw [ho pa kp]; exact h5⟩, hY, h7⟩
theorem DK.upd (h : DK kA f d sl pa w ra Y) {t : Nat} {z : Int} (ht : t < 24) (hR : Rp (kA 0) f1 (w t) (ra t) z) (hf : fo f f1 (w t) (ra t)) : DK kA f1 d sl pa w ra (upI Y t z) := by
  have hY : ∀ i, i < 24 → Rp (kA 0) f1 (w i) (ra i) (upI Y t z i) := fun i hi => by
    by_cases q : i = t
    · subst q; rw [upI_self]; exact hR
    · rw [upI_ne _ _ q]
      exact (h.rp hi).keep hf (h.rp ht).w (h.ne hi ht q).1 (h.ne hi ht q).2
  exact h.frame (fun k hk => hf k (hk t ht).1 (hk t ht).2) (fun i hi => ⟨_, hY i hi⟩) hY
theorem DK.upd2 (h : DK kA f d sl pa w ra Y) {t u : Nat} {z y : Int} (ht : t < 24) (hu : u < 24) (htu : t ≠ u) (hR : Rp (kA 0) f1 (w t) (ra t) z) (hR2 : Rp (kA 0) f1 (w u) (ra u) y) (hf : fo2 f f1 (w t) (ra t) (w u) (ra u)) : DK kA f1 d sl pa w ra (upI (upI Y t z) u y) := by
  have hY : ∀ i, i < 24 → Rp (kA 0) f1 (w i) (ra i) (upI (upI Y t z) u y i) := fun i hi => by
    by_cases q : i = u
    · subst q; rw [upI_self]; exact hR2
    · rw [upI_ne _ _ q]
      by_cases q2 : i = t
      · subst q2; rw [upI_self]; exact hR
      · rw [upI_ne _ _ q2]
        exact (h.rp hi).keep2 hf (h.rp ht) (h.rp hu) (h.ne hi ht q2).1 (h.ne hi ht q2).2 (h.ne hi hu q).1 (h.ne hi hu q).2
  exact h.frame (fun k hk => hf k (hk t ht).1 (hk t ht).2 (hk u hu).1 (hk u hu).2) (fun i hi => ⟨_, hY i hi⟩) hY
end DESK
abbrev sOk (a : Int) : Prop := 0 ≤ a ∧ a < 16
/-- a number is kept in a slot, if it is not too long -/
def kp (Y : Nat → Int) (t z : Int) : Int × (Nat → Int) := if (z.natAbs : Int) < 1000000 ^ 50 then (1, upI Y t.toNat z) else (-1, Y)
theorem kp_y {Y : Nat → Int} {t z : Int} (h : (z.natAbs : Int) < 1000000 ^ 50) : kp Y t z = (1, upI Y t.toNat z) := by unfold kp; rw [if_pos h]
theorem kp_n {Y : Nat → Int} {t z : Int} (h : ¬ (z.natAbs : Int) < 1000000 ^ 50) : kp Y t z = (-1, Y) := by unfold kp; rw [if_neg h]
/-- what each call answers, and what the slots hold behind it -/
def sp_set (Y : Nat → Int) (a v : Int) : Int × (Nat → Int) := if sOk a then (1, upI Y a.toNat v) else (-1, Y)
def sp_digit (Y : Nat → Int) (a d : Int) : Int × (Nat → Int) := if sOk a ∧ 0 ≤ d ∧ d ≤ 9 then kp Y a (10 * Y a.toNat + d) else (-1, Y)
def sp_copy (Y : Nat → Int) (a t : Int) : Int × (Nat → Int) := if sOk a ∧ sOk t then kp Y t (Y a.toNat) else (-1, Y)
def sp_sum (Y : Nat → Int) (a b t : Int) : Int × (Nat → Int) := if sOk a ∧ sOk b ∧ sOk t then kp Y t (Y a.toNat + Y b.toNat) else (-1, Y)
def sp_less (Y : Nat → Int) (a b t : Int) : Int × (Nat → Int) := if sOk a ∧ sOk b ∧ sOk t then kp Y t (Y a.toNat - Y b.toNat) else (-1, Y)
def sp_product (Y : Nat → Int) (a b t : Int) : Int × (Nat → Int) := if sOk a ∧ sOk b ∧ sOk t then kp Y t (Y a.toNat * Y b.toNat) else (-1, Y)
def sp_over (Y : Nat → Int) (a b t : Int) : Int × (Nat → Int) := if sOk a ∧ sOk b ∧ sOk t ∧ Y b.toNat ≠ 0 then kp Y t ((Y a.toNat).tdiv (Y b.toNat)) else (-1, Y)
def sp_left (Y : Nat → Int) (a b t : Int) : Int × (Nat → Int) := if sOk a ∧ sOk b ∧ sOk t ∧ Y b.toNat ≠ 0 then kp Y t ((Y a.toNat).tmod (Y b.toNat)) else (-1, Y)
def sp_divisor (Y : Nat → Int) (a b t : Int) : Int × (Nat → Int) := if sOk a ∧ sOk b ∧ sOk t then kp Y t (Int.gcd (Y a.toNat) (Y b.toNat) : Int) else (-1, Y)
def isq : Nat → Nat
  | 0 => 0
  | n + 1 => if (isq n + 1) * (isq n + 1) ≤ n + 1 then isq n + 1 else isq n
theorem isq_in (n : Nat) : isq n * isq n ≤ n ∧ n < (isq n + 1) * (isq n + 1) := by
  induction n with
  | zero => decide
  | succ n ih =>
    unfold isq
    by_cases q : (isq n + 1) * (isq n + 1) ≤ n + 1
    · rw [if_pos q]
      refine ⟨q, ?_⟩
      have : (isq n + 1 + 1) * (isq n + 1 + 1) = (isq n + 1) * (isq n + 1) + 2 * (isq n + 1) + 1 := by grind
      omega
    · rw [if_neg q]
      omega
/-- the greatest whole number whose square is not above z -/
def sqr (z : Int) : Int := (isq z.toNat : Int)
theorem sqr_in {z : Int} (h : 0 ≤ z) : 0 ≤ sqr z ∧ sqr z * sqr z ≤ z ∧ z < (sqr z + 1) * (sqr z + 1) := by
  have h1 := isq_in z.toNat
  unfold sqr
  refine ⟨by omega, ?_, ?_⟩
  · have : ((isq z.toNat * isq z.toNat : Nat) : Int) ≤ (z.toNat : Int) := Int.ofNat_le.mpr h1.1
    rw [Int.natCast_mul] at this
    omega
  · have : (z.toNat : Int) < (((isq z.toNat + 1) * (isq z.toNat + 1) : Nat) : Int) := Int.ofNat_lt.mpr h1.2
    rw [Int.natCast_mul, Int.natCast_add, show ((1 : Nat) : Int) = 1 from rfl] at this
    omega
theorem sqr_uniq {z s : Int} (h0 : 0 ≤ s) (h1 : s * s ≤ z) (h2 : z < (s + 1) * (s + 1)) : s = sqr z := by
  have hz : 0 ≤ z := by have := Int.mul_nonneg h0 h0; omega
  have k := sqr_in hz
  have a1 := sq_lt h0 (show 0 ≤ sqr z + 1 by omega) (by omega)
  have a2 := sq_lt k.1 (show 0 ≤ s + 1 by omega) (by omega)
  omega
def sp_root (Y : Nat → Int) (a t : Int) : Int × (Nat → Int) := if sOk a ∧ sOk t ∧ 0 ≤ Y a.toNat then kp Y t (sqr (Y a.toNat)) else (-1, Y)
def sp_power (Y : Nat → Int) (a e t : Int) : Int × (Nat → Int) := if sOk a ∧ sOk t ∧ 0 ≤ e ∧ e ≤ 1000 then kp Y t (Y a.toNat ^ e.toNat) else (-1, Y)
/-- two numbers in lowest terms, the lower one above 0 -/
def lwN (p q : Int) : Int := if q < 0 then -(p.tdiv (Int.gcd p q)) else p.tdiv (Int.gcd p q)
def lwD (p q : Int) : Int := (q.natAbs : Int) / (Int.gcd p q : Int)
def kp2 (Y : Nat → Int) (a b p q : Int) : Int × (Nat → Int) := if ((lwN p q).natAbs : Int) < 1000000 ^ 50 ∧ ((lwD p q).natAbs : Int) < 1000000 ^ 50 then (1, upI (upI Y a.toNat (lwN p q)) b.toNat (lwD p q)) else (-1, Y)
def sp_lowest (Y : Nat → Int) (a b : Int) : Int × (Nat → Int) := if sOk a ∧ sOk b ∧ a ≠ b ∧ Y b.toNat ≠ 0 then kp2 Y a b (Y a.toNat) (Y b.toNat) else (-1, Y)
def sp_fraction (Y : Nat → Int) (a b c d : Int) : Int × (Nat → Int) := if sOk a ∧ sOk b ∧ sOk c ∧ sOk d ∧ a ≠ b ∧ Y b.toNat ≠ 0 ∧ Y d.toNat ≠ 0 then kp2 Y a b (Y a.toNat * Y d.toNat + Y c.toNat * Y b.toNat) (Y b.toNat * Y d.toNat) else (-1, Y)
def sp_order (Y : Nat → Int) (a b : Int) : Int := if sOk a ∧ sOk b then 1 + c3 (Y a.toNat) (Y b.toNat) else -1
def sp_ratio (Y : Nat → Int) (a b c d : Int) : Int := if sOk a ∧ sOk b ∧ sOk c ∧ sOk d ∧ Y b.toNat ≠ 0 ∧ Y d.toNat ≠ 0 then (if (Y b.toNat < 0) = (Y d.toNat < 0) then 1 + c3 (Y a.toNat * Y d.toNat) (Y c.toNat * Y b.toNat) else 1 + c3 (Y c.toNat * Y b.toNat) (Y a.toNat * Y d.toNat)) else -1
def sp_sign (Y : Nat → Int) (a : Int) : Int := if sOk a then 1 + c3 (Y a.toNat) 0 else -1
noncomputable def ndg (m : Int) : Nat := Classical.epsilon (fun k => isnd m k)
theorem ndg_eq {m : Int} {k : Nat} (h : isnd m k) : ndg m = k := isnd_uniq (Classical.epsilon_spec (p := fun k => isnd m k) ⟨k, h⟩) h
noncomputable def sp_digits (Y : Nat → Int) (a : Int) : Int := if sOk a then (ndg ((Y a.toNat).natAbs : Int) : Int) else -1
noncomputable def sp_digitAt (Y : Nat → Int) (a i : Int) : Int := if sOk a ∧ 0 ≤ i ∧ i < (ndg ((Y a.toNat).natAbs : Int) : Int) then ((Y a.toNat).natAbs : Int) / 10 ^ (((ndg ((Y a.toNat).natAbs : Int) : Int) - 1 - i).toNat) % 10 else -1
def sp_modulo (Y : Nat → Int) (a m : Int) : Int := if sOk a ∧ 1 ≤ m ∧ m ≤ 1152921504606846976 then Y a.toNat % m else -1
def sp_low (Y : Nat → Int) (a : Int) : Int := if sOk a then Y a.toNat else 0
end
section
abbrev rm_X2_isSlot : Room := { frames := 0, cells := 0, slots := 0, locals := 0 }
set_option maxHeartbeats 4000000 in
set_option maxRecDepth 100000 in
/-- isSlot -/
theorem t_X2_isSlot (l : Launch) (D : va_G) (kA : Nat → ClassId) (sz : Nat) (f0 : mw_M) {x : Int} (hx : -2147483648 ≤ x ∧ x ≤ 2147483647) : mw_Mi l yX2_isSlot (Cond.code yX2_isSlot cX2_isSlot 1 ((some .boolean)) :: gw) rm_X2_isSlot D vwCl (tyL kA) st_S [.int (iI (x))] f0 sz (fun v f => v = iI (if sOk x then 1 else 0) ∧ f = f0) 0 0 := by
  refine mw_ofi (cc := cX2_isSlot) (maxL := 1) (ret := (some .boolean)) (by decide) rfl (Nat.le_of_ble_eq_true rfl) ?_
  intro p e s m below meth c A ls Q hQ B hrt hnm hA hI hSt hl
  have hl : lv_has ls 1 [(0, .int (iI (x)))] := hl
  obtain ⟨f, hI, hf⟩ : ∃ f, mw_I D vwCl A s s.heap [] f ∧ f = f0 := ⟨f0, hI, rfl⟩
  refine mv_iload_n B dX2_isSlot_0 rfl (lv_at hl 0 rfl) ?_
  refine mv_if_lt (tgt := 14) B dX2_isSlot_1 (by decide) (by omega) (fun hc => ?_) (fun hc => ?_)
  · refine mv_iconst B dX2_isSlot_14 ?_
    exact mw_zret B hQ hrt (by decide) hI ⟨by rw [if_neg (by omega)], hf⟩ dX2_isSlot_15
  · refine mv_iload_n B dX2_isSlot_4 rfl (lv_at hl 0 rfl) ?_
    refine mv_bipush B dX2_isSlot_5 (by decide) ?_
    refine mv_icmp_ge (tgt := 14) B dX2_isSlot_7 (by decide) (by omega) (fun hc2 => ?_) (fun hc2 => ?_)
    · refine mv_iconst B dX2_isSlot_14 ?_
      exact mw_zret B hQ hrt (by decide) hI ⟨by rw [if_neg (by omega)], hf⟩ dX2_isSlot_15
    · refine mv_iconst B dX2_isSlot_10 ?_
      refine mv_goto (tgt := 15) B dX2_isSlot_11 (by decide) ?_
      exact mw_zret B hQ hrt (by decide) hI ⟨by rw [if_pos (by omega)], hf⟩ dX2_isSlot_15
abbrev rm_X2_areSlots : Room := { frames := 1, cells := 0, slots := 0, locals := 20 }
set_option maxHeartbeats 4000000 in
set_option maxRecDepth 100000 in
/-- areSlots -/
theorem t_X2_areSlots (l : Launch) (D : va_G) (kA : Nat → ClassId) (sz : Nat) (f0 : mw_M) {x y : Int} (hx : -2147483648 ≤ x ∧ x ≤ 2147483647) (hy : -2147483648 ≤ y ∧ y ≤ 2147483647) : mw_Mi l yX2_areSlots (Cond.code yX2_areSlots cX2_areSlots 2 ((some .boolean)) :: gw) rm_X2_areSlots D vwCl (tyL kA) st_S [.int (iI (x)), .int (iI (y))] f0 sz (fun v f => v = iI (if sOk x ∧ sOk y then 1 else 0) ∧ f = f0) 0 0 := by
  refine mw_ofi (cc := cX2_areSlots) (maxL := 2) (ret := (some .boolean)) (by decide) rfl (Nat.le_of_ble_eq_true rfl) ?_
  intro p e s m below meth c A ls Q hQ B hrt hnm hA hI hSt hl
  have hl : lv_has ls 2 [(0, .int (iI (x))), (1, .int (iI (y)))] := hl
  obtain ⟨f, hI, hf⟩ : ∃ f, mw_I D vwCl A s s.heap [] f ∧ f = f0 := ⟨f0, hI, rfl⟩
  refine mv_iload_n B dX2_areSlots_0 rfl (lv_at hl 0 rfl) ?_
  refine mw_calli hI hA (va_runS (As := [.int (iI (x))]) (rest := []) B.fix (t_X2_isSlot l D kA s.heap.size f hx) (cwS 1 B.2.2.2.2.1 (gS kw_94 kw_95 kw_1 kw_96) rfl rfl rfl (by decide +kernel) ⟨Nat.le_of_ble_eq_true rfl, Nat.le_of_ble_eq_true rfl⟩) ⟨mw_blind st_S.blind, mw_pre B hI (hSt.call hI hA)⟩ rfl rfl hl.1 rfl (lv_room (Nat.le_of_ble_eq_true rfl)) dX2_areSlots_1 ⟨Nat.le_of_ble_eq_true rfl, Nat.le_of_ble_eq_true rfl⟩) (fun r f H locs hp hI2 => ?_)
  clear hI
  have hI := hI2
  clear hI2
  obtain ⟨rfl, rfl⟩ := hp
  refine mv_if_eq (tgt := 18) B dX2_areSlots_4 (by decide) (by split <;> omega) (fun hc => ?_) (fun hc => ?_)
  · refine mv_iconst B dX2_areSlots_18 ?_
    exact mw_zret B hQ hrt (by decide) hI ⟨by rw [if_neg (fun q => by simp [q] at hc)], hf⟩ dX2_areSlots_19
  · have h1 : sOk x := by
      by_cases q : sOk x
      · exact q
      · rw [if_neg q] at hc; exact absurd rfl hc
    refine mv_iload_n B dX2_areSlots_7 rfl (lv_at hl 1 rfl) ?_
    refine mw_calli hI hA (va_runS (As := [.int (iI (y))]) (rest := []) B.fix (t_X2_isSlot l D kA H.size f hy) (cwS 1 B.2.2.2.2.1 (gS kw_94 kw_95 kw_1 kw_96) rfl rfl rfl (by decide +kernel) ⟨Nat.le_of_ble_eq_true rfl, Nat.le_of_ble_eq_true rfl⟩) ⟨mw_blind st_S.blind, mw_pre B hI (hSt.call hI hA)⟩ rfl rfl hl.1 rfl (lv_room (Nat.le_of_ble_eq_true rfl)) dX2_areSlots_8 ⟨Nat.le_of_ble_eq_true rfl, Nat.le_of_ble_eq_true rfl⟩) (fun r f H locs hp hI2 => ?_)
    clear hI
    have hI := hI2
    clear hI2
    obtain ⟨rfl, rfl⟩ := hp
    refine mv_if_eq (tgt := 18) B dX2_areSlots_11 (by decide) (by split <;> omega) (fun hc2 => ?_) (fun hc2 => ?_)
    · refine mv_iconst B dX2_areSlots_18 ?_
      exact mw_zret B hQ hrt (by decide) hI ⟨by rw [if_neg (fun q => by simp [q.2] at hc2)], hf⟩ dX2_areSlots_19
    · have h2 : sOk y := by
        by_cases q : sOk y
        · exact q
        · rw [if_neg q] at hc2; exact absurd rfl hc2
      refine mv_iconst B dX2_areSlots_14 ?_
      refine mv_goto (tgt := 19) B dX2_areSlots_15 (by decide) ?_
      exact mw_zret B hQ hrt (by decide) hI ⟨by rw [if_pos ⟨h1, h2⟩], hf⟩ dX2_areSlots_19
abbrev rm_X2_keep : Room := { frames := 2, cells := 0, slots := 0, locals := 61 }
set_option maxHeartbeats 4000000 in
set_option maxRecDepth 100000 in
/-- keep -/
theorem t_X2_keep (l : Launch) (D : va_G) (kA : Nat → ClassId) (sz : Nat) (f0 : mw_M) {d sl pa : Nat} {w ra : Nat → Nat} {Y : Nat → Int} {t : Nat} {x : Int} (hD : DK kA f0 d sl pa w ra Y) (hB : ∀ i, i < 16 → ((Y i).natAbs : Int) < 1000000 ^ 50) (ht : t < 24) (hx : sOk x) : mw_Mi l yX2_keep (Cond.code yX2_keep cX2_keep 3 ((some .int)) :: gw) rm_X2_keep D vwCl (tyL kA) st_S [.ref d, .ref ((w t)), .int (iI (x))] f0 sz (fun v f => v = iI (kp Y x (Y t)).1 ∧ DK kA f d sl pa w ra (kp Y x (Y t)).2 ∧ ∀ k, ¬ dks d sl pa w ra k → f k = f0 k) 0 0 := by
  refine mw_ofi (cc := cX2_keep) (maxL := 3) (ret := (some .int)) (by decide) rfl (Nat.le_of_ble_eq_true rfl) ?_
  intro p e s m below meth c A ls Q hQ B hrt hnm hA hI hSt hl
  have hl : lv_has ls 3 [(0, .ref d), (1, .ref ((w t))), (2, .int (iI (x)))] := hl
  obtain ⟨f, hI, hf⟩ : ∃ f, mw_I D vwCl A s s.heap [] f ∧ f = f0 := ⟨f0, hI, rfl⟩
  rw [← hf] at hD
  have ho : ∀ k, ¬ dks d sl pa w ra k → f k = f0 k := fun k _ => by rw [hf]
  obtain ⟨g, n, b, c1, c2, c3_⟩ := id (hD.rp (i := t) (by omega))
  have m1 := c3_.1
  have m2 := c3_.size 50
  refine mv_aload_n B dX2_keep_0 rfl (lv_at hl 1 rfl) ?_
  refine mw_calli hI hA (va_runV (As := []) (rest := []) B.fix (t_X1_isTooLong l D kA s.heap.size f c1 (by omega)) (cwV 0 B.2.2.2.2.1 (gV kw_149 kw_150 kw_151 kw_2 kw_152) rfl rfl rfl (by decide +kernel) ⟨Nat.le_of_ble_eq_true rfl, Nat.le_of_ble_eq_true rfl⟩) ⟨mw_blind st_S.blind, mw_recv B hI c1 rfl, mw_pre B hI (hSt.call hI hA)⟩ rfl rfl hl.1 rfl (lv_room (Nat.le_of_ble_eq_true rfl)) dX2_keep_1 ⟨Nat.le_of_ble_eq_true rfl, Nat.le_of_ble_eq_true rfl⟩) (fun r f H locs hp hI2 => ?_)
  clear hI
  have hI := hI2
  clear hI2
  obtain ⟨rfl, rfl⟩ := hp
  refine mv_if_eq (tgt := 9) B dX2_keep_4 (by decide) (by split <;> omega) (fun hc => ?_) (fun hc => ?_)
  · have hfit : ((Y t).natAbs : Int) < 1000000 ^ 50 := m2.mp (by
      by_cases q : (n : Int) ≤ 50
      · omega
      · rw [if_neg q] at hc; exact absurd hc (by decide))
    refine mv_aload_n B dX2_keep_9 rfl (lv_at hl 0 rfl) ?_
    refine mw_get (C := RX2) (T := TX2) (N := 7) B hI hD.1 uin_X2 rfl 0 (by decide) kw_68 rfl dX2_keep_10 ?_
    refine mv_iload_n B dX2_keep_13 rfl (lv_at hl 2 rfl) ?_
    obtain ⟨gs, hs1, hs2⟩ := hD.2.1
    refine mw_aald B hI 1 hs1 rfl (x.toNat) (by omega) (by omega) (by decide) (hs2 _ (by omega)) dX2_keep_14 ?_
    refine mv_aload_n B dX2_keep_15 rfl (lv_at hl 1 rfl) ?_
    obtain ⟨_, _, _, cc, -, -⟩ := id (hD.rp (i := x.toNat) (by omega))
    have hd : w t = w x.toNat ∧ ra t = ra x.toNat ∨ w t ≠ w x.toNat ∧ ra t ≠ ra x.toNat := by
      by_cases q : t = x.toNat
      · left; rw [q]; exact ⟨rfl, rfl⟩
      · right; exact hD.ne ht (by omega) q
    refine mw_callv hI hA (va_runV (As := [.ref ((w t))]) (rest := []) B.fix (t_X1_take l D kA H.size f (hD.rp (i := x.toNat) (by omega)).w (hD.rp (i := t) (by omega)) hd) (cwV 1 B.2.2.2.2.1 (gV kw_153 kw_154 kw_155 kw_2 kw_156) rfl rfl rfl (by decide +kernel) ⟨Nat.le_of_ble_eq_true rfl, Nat.le_of_ble_eq_true rfl⟩) ⟨mw_blind st_S.blind, mw_recv B hI cc rfl, mw_pre B hI (hSt.call hI hA)⟩ rfl rfl hl.1 rfl (lv_room (Nat.le_of_ble_eq_true rfl)) dX2_keep_16 ⟨Nat.le_of_ble_eq_true rfl, Nat.le_of_ble_eq_true rfl⟩) (fun f H locs hp hI2 => ?_)
    clear hI
    have hI := hI2
    clear hI2
    obtain ⟨hR, o1⟩ := hp
    have ho : ∀ k, ¬ dks d sl pa w ra k → f k = f0 k := fun k h => (o1 k (dks_w h (show x.toNat < 24 by omega)).1 (dks_w h (show x.toNat < 24 by omega)).2).trans (ho k h)
    have hD := hD.upd (t := x.toNat) (by omega) hR o1
    refine mv_iconst B dX2_keep_19 ?_
    exact mw_iret B hQ hrt hI ⟨by rw [kp_y hfit], by rw [kp_y hfit]; exact hD, ho⟩ dX2_keep_20
  · have hfit : ¬ ((Y t).natAbs : Int) < 1000000 ^ 50 := fun q => hc (by rw [if_pos (by have := m2.mpr q; omega)])
    refine mv_iconst B dX2_keep_7 ?_
    exact mw_iret B hQ hrt hI ⟨by rw [kp_n hfit], by rw [kp_n hfit]; exact hD, ho⟩ dX2_keep_8
abbrev rm_X2_set : Room := { frames := 2, cells := 0, slots := 0, locals := 49 }
set_option maxHeartbeats 4000000 in
set_option maxRecDepth 100000 in
/-- set -/
theorem t_X2_set (l : Launch) (D : va_G) (kA : Nat → ClassId) (sz : Nat) (f0 : mw_M) {d sl pa : Nat} {w ra : Nat → Nat} {Y : Nat → Int} {x v_ : Int} (hD : DK kA f0 d sl pa w ra Y) (hB : ∀ i, i < 16 → ((Y i).natAbs : Int) < 1000000 ^ 50) (hx : -2147483648 ≤ x ∧ x ≤ 2147483647) (hv : -9223372036854775808 ≤ v_ ∧ v_ ≤ 9223372036854775807) : mw_Mi l yX2_set (Cond.code yX2_set cX2_set 4 ((some .int)) :: gw) rm_X2_set D vwCl (tyL kA) st_S [.ref d, .int (iI (x)), .long (lI (v_))] f0 sz (fun v f => v = iI (sp_set Y x v_).1 ∧ (∃ Y', DK kA f d sl pa w ra Y' ∧ ∀ i, i < 16 → Y' i = (sp_set Y x v_).2 i) ∧ ∀ k, ¬ dks d sl pa w ra k → f k = f0 k) 0 0 := by
  refine mw_ofi (cc := cX2_set) (maxL := 4) (ret := (some .int)) (by decide) rfl (Nat.le_of_ble_eq_true rfl) ?_
  intro p e s m below meth c A ls Q hQ B hrt hnm hA hI hSt hl
  have hl : lv_has ls 4 [(0, .ref d), (1, .int (iI (x))), (2, .long (lI (v_)))] := hl
  obtain ⟨f, hI, hf⟩ : ∃ f, mw_I D vwCl A s s.heap [] f ∧ f = f0 := ⟨f0, hI, rfl⟩
  rw [← hf] at hD
  have ho : ∀ k, ¬ dks d sl pa w ra k → f k = f0 k := fun k _ => by rw [hf]
  refine mv_iload_n B dX2_set_0 rfl (lv_at hl 1 rfl) ?_
  refine mw_calli hI hA (va_runS (As := [.int (iI (x))]) (rest := []) B.fix (t_X2_isSlot l D kA s.heap.size f hx) (cwS 1 B.2.2.2.2.1 (gS kw_94 kw_95 kw_1 kw_96) rfl rfl rfl (by decide +kernel) ⟨Nat.le_of_ble_eq_true rfl, Nat.le_of_ble_eq_true rfl⟩) ⟨mw_blind st_S.blind, mw_pre B hI (hSt.call hI hA)⟩ rfl rfl hl.1 rfl (lv_room (Nat.le_of_ble_eq_true rfl)) dX2_set_1 ⟨Nat.le_of_ble_eq_true rfl, Nat.le_of_ble_eq_true rfl⟩) (fun r f H locs hp hI2 => ?_)
  clear hI
  have hI := hI2
  clear hI2
  obtain ⟨rfl, rfl⟩ := hp
  refine mv_if_ne (tgt := 9) B dX2_set_4 (by decide) (by split <;> omega) (fun hc => ?_) (fun hc => ?_)
  · have h1 : sOk x := by
      by_cases q : sOk x
      · exact q
      · rw [if_neg q] at hc; exact absurd rfl hc
    refine mv_aload_n B dX2_set_9 rfl (lv_at hl 0 rfl) ?_
    refine mw_get (C := RX2) (T := TX2) (N := 7) B hI hD.1 uin_X2 rfl 0 (by decide) kw_68 rfl dX2_set_10 ?_
    refine mv_iload_n B dX2_set_13 rfl (lv_at hl 1 rfl) ?_
    obtain ⟨gs, hs1, hs2⟩ := hD.2.1
    refine mw_aald B hI 1 hs1 rfl (x.toNat) (by omega) (by omega) (by decide) (hs2 _ (by omega)) dX2_set_14 ?_
    refine mv_lload_n B dX2_set_15 rfl (lv_at hl 2 rfl) ?_
    obtain ⟨_, _, _, cc, -, -⟩ := id (hD.rp (i := x.toNat) (by omega))
    refine mw_callv hI hA (va_runV (As := [.long (lI (v_))]) (rest := []) B.fix (t_X1_load l D kA H.size f (hD.rp (i := x.toNat) (by omega)).w hv) (cwV 1 B.2.2.2.2.1 (gV kw_97 kw_98 kw_99 kw_2 kw_100) rfl rfl rfl (by decide +kernel) ⟨Nat.le_of_ble_eq_true rfl, Nat.le_of_ble_eq_true rfl⟩) ⟨mw_blind st_S.blind, mw_recv B hI cc rfl, mw_pre B hI (hSt.call hI hA)⟩ rfl rfl hl.1 rfl (lv_room (Nat.le_of_ble_eq_true rfl)) dX2_set_16 ⟨Nat.le_of_ble_eq_true rfl, Nat.le_of_ble_eq_true rfl⟩) (fun f H locs hp hI2 => ?_)
    clear hI
    have hI := hI2
    clear hI2
    obtain ⟨hR, o1⟩ := hp
    have ho : ∀ k, ¬ dks d sl pa w ra k → f k = f0 k := fun k h => (o1 k (dks_w h (show x.toNat < 24 by omega)).1 (dks_w h (show x.toNat < 24 by omega)).2).trans (ho k h)
    have hD := hD.upd (t := x.toNat) (by omega) hR o1
    refine mv_iconst B dX2_set_19 ?_
    have e9 : sp_set Y x v_ = (1, upI Y x.toNat v_) := by unfold sp_set; rw [if_pos h1]
    exact mw_iret B hQ hrt hI ⟨by rw [e9], ⟨_, hD, fun i hi => by rw [e9]⟩, ho⟩ dX2_set_20
  · have h1 : ¬ (sOk x) := fun q => by rw [if_pos q] at hc; exact absurd hc (by decide)
    refine mv_iconst B dX2_set_7 ?_
    have e9 : sp_set Y x v_ = (-1, Y) := by unfold sp_set; rw [if_neg h1]
    exact mw_iret B hQ hrt hI ⟨by rw [e9], ⟨Y, hD, fun i hi => by rw [e9]⟩, ho⟩ dX2_set_8
end
section
/-! pure rows for the desk -/
theorem kp_same {Y Y1 : Nat → Int} {x z z1 : Int} (hz : z1 = z) (hs : ∀ i, i < 16 → Y1 i = Y i) : (kp Y1 x z1).1 = (kp Y x z).1 ∧ ∀ i, i < 16 → (kp Y1 x z1).2 i = (kp Y x z).2 i := by
  subst hz
  by_cases q : (z1.natAbs : Int) < 1000000 ^ 50
  · rw [kp_y q, kp_y q]
    refine ⟨rfl, fun i hi => ?_⟩
    show upI Y1 x.toNat z1 i = upI Y x.toNat z1 i
    by_cases q2 : i = x.toNat
    · rw [q2, upI_self, upI_self]
    · rw [upI_ne _ _ q2, upI_ne _ _ q2]; exact hs i hi
  · rw [kp_n q, kp_n q]
    exact ⟨rfl, fun i hi => hs i hi⟩
theorem mulbd {a b : Int} (ha : (a.natAbs : Int) < 1000000 ^ 50) (hb : (b.natAbs : Int) < 1000000 ^ 50) : ((a * b).natAbs : Int) < 1000000 ^ 100 := by
  rw [Int.natAbs_mul, Int.natCast_mul]
  have h := mul_lt_lt (by omega) ha (by omega) hb
  rw [← bp_add] at h
  exact h
theorem b100 : (1000000 : Int) ^ 100 + 1000000 ^ 100 < 1000000 ^ 103 := by decide
theorem b50 : (1000000 : Int) ^ 50 < 1000000 ^ 100 ∧ (1000000 : Int) ^ 50 + 1000000 ^ 50 < 1000000 ^ 103 ∧ (10 : Int) < 1000000 ^ 50 := by decide
theorem absadd (a b : Int) : ((a + b).natAbs : Int) ≤ (a.natAbs : Int) + (b.natAbs : Int) ∧ ((a - b).natAbs : Int) ≤ (a.natAbs : Int) + (b.natAbs : Int) := by omega
end
section
abbrev rm_X2_product : Room := { frames := 3, cells := 0, slots := 0, locals := 83 }
set_option maxHeartbeats 4000000 in
set_option maxRecDepth 100000 in
/-- product -/
theorem t_X2_product (l : Launch) (D : va_G) (kA : Nat → ClassId) (sz : Nat) (f0 : mw_M) {d sl pa : Nat} {w ra : Nat → Nat} {Y : Nat → Int} {a b t : Int} (hD : DK kA f0 d sl pa w ra Y) (hB : ∀ i, i < 16 → ((Y i).natAbs : Int) < 1000000 ^ 50) (ha : -2147483648 ≤ a ∧ a ≤ 2147483647) (hb : -2147483648 ≤ b ∧ b ≤ 2147483647) (ht : -2147483648 ≤ t ∧ t ≤ 2147483647) : mw_Mi l yX2_product (Cond.code yX2_product cX2_product 4 ((some .int)) :: gw) rm_X2_product D vwCl (tyL kA) st_S [.ref d, .int (iI (a)), .int (iI (b)), .int (iI (t))] f0 sz (fun v f => v = iI (sp_product Y a b t).1 ∧ (∃ Y', DK kA f d sl pa w ra Y' ∧ ∀ i, i < 16 → Y' i = (sp_product Y a b t).2 i) ∧ ∀ k, ¬ dks d sl pa w ra k → f k = f0 k) 0 0 := by
  refine mw_ofi (cc := cX2_product) (maxL := 4) (ret := (some .int)) (by decide) rfl (Nat.le_of_ble_eq_true rfl) ?_
  intro p e s m below meth c A ls Q hQ B hrt hnm hA hI hSt hl
  have hl : lv_has ls 4 [(0, .ref d), (1, .int (iI (a))), (2, .int (iI (b))), (3, .int (iI (t)))] := hl
  obtain ⟨f, hI, hf⟩ : ∃ f, mw_I D vwCl A s s.heap [] f ∧ f = f0 := ⟨f0, hI, rfl⟩
  rw [← hf] at hD
  have ho : ∀ k, ¬ dks d sl pa w ra k → f k = f0 k := fun k _ => by rw [hf]
  have hsl : ∀ i, i < 16 → Y i = Y i := fun _ _ => rfl
  refine mv_iload_n B dX2_product_0 rfl (lv_at hl 1 rfl) ?_
  refine mv_iload_n B dX2_product_1 rfl (lv_at hl 2 rfl) ?_
  refine mw_calli hI hA (va_runS (As := [.int (iI (a)), .int (iI (b))]) (rest := []) B.fix (t_X2_areSlots l D kA s.heap.size f ha hb) (cwS 2 B.2.2.2.2.1 (gS kw_164 kw_165 kw_1 kw_166) rfl rfl rfl (by decide +kernel) ⟨Nat.le_of_ble_eq_true rfl, Nat.le_of_ble_eq_true rfl⟩) ⟨mw_blind st_S.blind, mw_pre B hI (hSt.call hI hA)⟩ rfl rfl hl.1 rfl (lv_room (Nat.le_of_ble_eq_true rfl)) dX2_product_2 ⟨Nat.le_of_ble_eq_true rfl, Nat.le_of_ble_eq_true rfl⟩) (fun r f H locs hp hI2 => ?_)
  clear hI
  have hI := hI2
  clear hI2
  obtain ⟨rfl, rfl⟩ := hp
  refine mv_if_eq (tgt := 15) B dX2_product_5 (by decide) (by split <;> omega) (fun hc => ?_) (fun hc => ?_)
  · have h1 : ¬ (sOk a ∧ sOk b) := fun q => by rw [if_pos q] at hc; exact absurd hc (by decide)
    refine mv_iconst B dX2_product_15 ?_
    have e9 : sp_product Y a b t = (-1, Y) := by unfold sp_product; rw [if_neg (fun q => h1 ⟨q.1, q.2.1⟩)]
    exact mw_iret B hQ hrt hI ⟨by rw [e9], ⟨_, hD, fun i hi => (hsl i hi).trans (by rw [e9])⟩, ho⟩ dX2_product_16
  · have h1 : sOk a ∧ sOk b := by
      by_cases q : sOk a ∧ sOk b
      · exact q
      · rw [if_neg q] at hc; exact absurd rfl hc
    refine mv_iload_n B dX2_product_8 rfl (lv_at hl 3 rfl) ?_
    refine mw_calli hI hA (va_runS (As := [.int (iI (t))]) (rest := []) B.fix (t_X2_isSlot l D kA H.size f ht) (cwS 1 B.2.2.2.2.1 (gS kw_94 kw_95 kw_1 kw_96) rfl rfl rfl (by decide +kernel) ⟨Nat.le_of_ble_eq_true rfl, Nat.le_of_ble_eq_true rfl⟩) ⟨mw_blind st_S.blind, mw_pre B hI (hSt.call hI hA)⟩ rfl rfl hl.1 rfl (lv_room (Nat.le_of_ble_eq_true rfl)) dX2_product_9 ⟨Nat.le_of_ble_eq_true rfl, Nat.le_of_ble_eq_true rfl⟩) (fun r f H locs hp hI2 => ?_)
    clear hI
    have hI := hI2
    clear hI2
    obtain ⟨rfl, rfl⟩ := hp
    refine mv_if_ne (tgt := 17) B dX2_product_12 (by decide) (by split <;> omega) (fun hc2 => ?_) (fun hc2 => ?_)
    · have h2 : sOk t := by
        by_cases q : sOk t
        · exact q
        · rw [if_neg q] at hc2; exact absurd rfl hc2
      refine mv_aload_n B dX2_product_17 rfl (lv_at hl 0 rfl) ?_
      refine mw_get (C := RX2) (T := TX2) (N := 7) B hI hD.1 uin_X2 rfl 1 (by decide) kw_69 rfl dX2_product_18 ?_
      refine mv_aload_n B dX2_product_21 rfl (lv_at hl 0 rfl) ?_
      refine mw_get (C := RX2) (T := TX2) (N := 7) B hI hD.1 uin_X2 rfl 0 (by decide) kw_68 rfl dX2_product_22 ?_
      refine mv_iload_n B dX2_product_25 rfl (lv_at hl 1 rfl) ?_
      obtain ⟨gs, hs1, hs2⟩ := hD.2.1
      refine mw_aald B hI 1 hs1 rfl (a.toNat) (by omega) (by omega) (by decide) (hs2 _ (by omega)) dX2_product_26 ?_
      refine mv_aload_n B dX2_product_27 rfl (lv_at hl 0 rfl) ?_
      refine mw_get (C := RX2) (T := TX2) (N := 7) B hI hD.1 uin_X2 rfl 0 (by decide) kw_68 rfl dX2_product_28 ?_
      refine mv_iload_n B dX2_product_31 rfl (lv_at hl 2 rfl) ?_
      obtain ⟨gs, hs1, hs2⟩ := hD.2.1
      refine mw_aald B hI 1 hs1 rfl (b.toNat) (by omega) (by omega) (by decide) (hs2 _ (by omega)) dX2_product_32 ?_
      obtain ⟨_, _, _, cc, -, -⟩ := id (hD.rp (i := 16) (by omega))
      refine mw_callv hI hA (va_runV (As := [.ref ((w (a.toNat))), .ref ((w (b.toNat)))]) (rest := []) B.fix (t_X1_takeProduct l D kA H.size f (hD.rp (i := 16) (by omega)).w (hD.rp (i := a.toNat) (by omega)) (hD.rp (i := b.toNat) (by omega)) (hD.ne (i := a.toNat) (j := 16) (by omega) (by omega) (by omega)).1 (hD.ne (i := a.toNat) (j := 16) (by omega) (by omega) (by omega)).2 (hD.ne (i := b.toNat) (j := 16) (by omega) (by omega) (by omega)).1 (hD.ne (i := b.toNat) (j := 16) (by omega) (by omega) (by omega)).2 (by rw [hsl _ (by omega)]; exact hB _ (by omega)) (by rw [hsl _ (by omega)]; exact hB _ (by omega))) (cwV 2 B.2.2.2.2.1 (gV kw_114 kw_115 kw_116 kw_2 kw_117) rfl rfl rfl (by decide +kernel) ⟨Nat.le_of_ble_eq_true rfl, Nat.le_of_ble_eq_true rfl⟩) ⟨mw_blind st_S.blind, mw_recv B hI cc rfl, mw_pre B hI (hSt.call hI hA)⟩ rfl rfl hl.1 rfl (lv_room (Nat.le_of_ble_eq_true rfl)) dX2_product_33 ⟨Nat.le_of_ble_eq_true rfl, Nat.le_of_ble_eq_true rfl⟩) (fun f H locs hp hI2 => ?_)
      clear hI
      have hI := hI2
      clear hI2
      obtain ⟨hR, o1⟩ := hp
      have ho : ∀ k, ¬ dks d sl pa w ra k → f k = f0 k := fun k h => (o1 k (dks_w h (show 16 < 24 by omega)).1 (dks_w h (show 16 < 24 by omega)).2).trans (ho k h)
      obtain ⟨Y1, hY1, hD⟩ : ∃ Z, Z = upI Y (16) (Y (a.toNat) * Y (b.toNat)) ∧ DK kA f d sl pa w ra Z := ⟨_, rfl, hD.upd (t := 16) (by omega) hR o1⟩
      have v1 : Y1 (16) = Y (a.toNat) * Y (b.toNat) := by rw [hY1, upI_self]
      have r1 : ∀ i, i ≠ 16 → Y1 i = Y i := fun i hi => by rw [hY1, upI_ne _ _ hi]
      have hsl : ∀ i, i < 16 → Y1 i = Y i := fun i hi => (r1 i (by omega)).trans (hsl i hi)
      refine mv_aload_n B dX2_product_36 rfl (lv_at hl 0 rfl) ?_
      refine mv_aload_n B dX2_product_37 rfl (lv_at hl 0 rfl) ?_
      refine mw_get (C := RX2) (T := TX2) (N := 7) B hI hD.1 uin_X2 rfl 1 (by decide) kw_69 rfl dX2_product_38 ?_
      refine mv_iload_n B dX2_product_41 rfl (lv_at hl 3 rfl) ?_
      refine mw_calli hI hA (va_runV (As := [.ref ((w 16)), .int (iI (t))]) (rest := []) B.fix (t_X2_keep l D kA H.size f (t := 16) hD (fun i hi => by rw [hsl i hi]; exact hB i hi) (by omega) h2) (cwV 2 B.2.2.2.2.1 (gV kw_145 kw_147 ks_2 kw_1 kw_148) rfl rfl rfl (by decide +kernel) ⟨Nat.le_of_ble_eq_true rfl, Nat.le_of_ble_eq_true rfl⟩) ⟨mw_blind st_S.blind, mw_recv B hI hD.1 rfl, mw_pre B hI (hSt.call hI hA)⟩ rfl rfl hl.1 rfl (lv_room (Nat.le_of_ble_eq_true rfl)) dX2_product_42 ⟨Nat.le_of_ble_eq_true rfl, Nat.le_of_ble_eq_true rfl⟩) (fun r f H locs hp hI2 => ?_)
      clear hI
      have hI := hI2
      clear hI2
      obtain ⟨rfl, hD, o1⟩ := hp
      have ho : ∀ k, ¬ dks d sl pa w ra k → f k = f0 k := fun k h => (o1 k h).trans (ho k h)
      have e9 : sp_product Y a b t = kp Y (t) (Y a.toNat * Y b.toNat) := by unfold sp_product; rw [if_pos ⟨h1.1, h1.2, h2⟩]
      have e7 : Y1 (16) = Y a.toNat * Y b.toNat := by rw [v1]
      have e8 := kp_same (x := t) e7 hsl
      exact mw_iret B hQ hrt hI ⟨(congrArg iI e8.1).trans (by rw [e9]), ⟨_, hD, fun i hi => (e8.2 i hi).trans (by rw [e9])⟩, ho⟩ dX2_product_45
    · have h2 : ¬ (sOk t) := fun q => by rw [if_pos q] at hc2; exact absurd hc2 (by decide)
      refine mv_iconst B dX2_product_15 ?_
      have e9 : sp_product Y a b t = (-1, Y) := by unfold sp_product; rw [if_neg (fun q => h2 q.2.2)]
      exact mw_iret B hQ hrt hI ⟨by rw [e9], ⟨_, hD, fun i hi => (hsl i hi).trans (by rw [e9])⟩, ho⟩ dX2_product_16
abbrev rm_X2_addOrTakeAway : Room := { frames := 3, cells := 0, slots := 0, locals := 83 }
set_option maxHeartbeats 4000000 in
set_option maxRecDepth 100000 in
/-- addOrTakeAway -/
theorem t_X2_addOrTakeAway (l : Launch) (D : va_G) (kA : Nat → ClassId) (sz : Nat) (f0 : mw_M) {d sl pa : Nat} {w ra : Nat → Nat} {Y : Nat → Int} {a b t aw : Int} (hD : DK kA f0 d sl pa w ra Y) (hB : ∀ i, i < 16 → ((Y i).natAbs : Int) < 1000000 ^ 50) (ha : -2147483648 ≤ a ∧ a ≤ 2147483647) (hb : -2147483648 ≤ b ∧ b ≤ 2147483647) (ht : -2147483648 ≤ t ∧ t ≤ 2147483647) (haw : aw = 0 ∨ aw = 1) : mw_Mi l yX2_addOrTakeAway (Cond.code yX2_addOrTakeAway cX2_addOrTakeAway 5 ((some .int)) :: gw) rm_X2_addOrTakeAway D vwCl (tyL kA) st_S [.ref d, .int (iI (a)), .int (iI (b)), .int (iI (t)), .int (iI (aw))] f0 sz (fun v f => v = iI (if aw = 0 then sp_sum Y a b t else sp_less Y a b t).1 ∧ (∃ Y', DK kA f d sl pa w ra Y' ∧ ∀ i, i < 16 → Y' i = (if aw = 0 then sp_sum Y a b t else sp_less Y a b t).2 i) ∧ ∀ k, ¬ dks d sl pa w ra k → f k = f0 k) 0 0 := by
  refine mw_ofi (cc := cX2_addOrTakeAway) (maxL := 5) (ret := (some .int)) (by decide) rfl (Nat.le_of_ble_eq_true rfl) ?_
  intro p e s m below meth c A ls Q hQ B hrt hnm hA hI hSt hl
  have hl : lv_has ls 5 [(0, .ref d), (1, .int (iI (a))), (2, .int (iI (b))), (3, .int (iI (t))), (4, .int (iI (aw)))] := hl
  obtain ⟨f, hI, hf⟩ : ∃ f, mw_I D vwCl A s s.heap [] f ∧ f = f0 := ⟨f0, hI, rfl⟩
  rw [← hf] at hD
  have ho : ∀ k, ¬ dks d sl pa w ra k → f k = f0 k := fun k _ => by rw [hf]
  have hsl : ∀ i, i < 16 → Y i = Y i := fun _ _ => rfl
  obtain ⟨S, hS0⟩ : ∃ S, S = (if aw = 0 then sp_sum Y a b t else sp_less Y a b t) := ⟨_, rfl⟩
  rw [← hS0] at hQ
  have hSy : sOk a ∧ sOk b ∧ sOk t → S = kp Y t (if aw = 0 then Y a.toNat + Y b.toNat else Y a.toNat - Y b.toNat) := fun q => by
    rcases haw with e | e
    · rw [hS0, if_pos e, if_pos e]; unfold sp_sum; rw [if_pos q]
    · rw [hS0, if_neg (by omega), if_neg (by omega)]; unfold sp_less; rw [if_pos q]
  have hSn : ¬ (sOk a ∧ sOk b ∧ sOk t) → S = (-1, Y) := fun q => by
    rcases haw with e | e
    · rw [hS0, if_pos e]; unfold sp_sum; rw [if_neg q]
    · rw [hS0, if_neg (by omega)]; unfold sp_less; rw [if_neg q]
  refine mv_iload_n B dX2_addOrTakeAway_0 rfl (lv_at hl 1 rfl) ?_
  refine mv_iload_n B dX2_addOrTakeAway_1 rfl (lv_at hl 2 rfl) ?_
  refine mw_calli hI hA (va_runS (As := [.int (iI (a)), .int (iI (b))]) (rest := []) B.fix (t_X2_areSlots l D kA s.heap.size f ha hb) (cwS 2 B.2.2.2.2.1 (gS kw_164 kw_165 kw_1 kw_166) rfl rfl rfl (by decide +kernel) ⟨Nat.le_of_ble_eq_true rfl, Nat.le_of_ble_eq_true rfl⟩) ⟨mw_blind st_S.blind, mw_pre B hI (hSt.call hI hA)⟩ rfl rfl hl.1 rfl (lv_room (Nat.le_of_ble_eq_true rfl)) dX2_addOrTakeAway_2 ⟨Nat.le_of_ble_eq_true rfl, Nat.le_of_ble_eq_true rfl⟩) (fun r f H locs hp hI2 => ?_)
  clear hI
  have hI := hI2
  clear hI2
  obtain ⟨rfl, rfl⟩ := hp
  refine mv_if_eq (tgt := 15) B dX2_addOrTakeAway_5 (by decide) (by split <;> omega) (fun hc => ?_) (fun hc => ?_)
  · have h1 : ¬ (sOk a ∧ sOk b) := fun q => by rw [if_pos q] at hc; exact absurd hc (by decide)
    refine mv_iconst B dX2_addOrTakeAway_15 ?_
    have e9 := hSn (fun q => h1 ⟨q.1, q.2.1⟩)
    exact mw_iret B hQ hrt hI ⟨by rw [e9], ⟨_, hD, fun i hi => (hsl i hi).trans (by rw [e9])⟩, ho⟩ dX2_addOrTakeAway_16
  · have h1 : sOk a ∧ sOk b := by
      by_cases q : sOk a ∧ sOk b
      · exact q
      · rw [if_neg q] at hc; exact absurd rfl hc
    refine mv_iload_n B dX2_addOrTakeAway_8 rfl (lv_at hl 3 rfl) ?_
    refine mw_calli hI hA (va_runS (As := [.int (iI (t))]) (rest := []) B.fix (t_X2_isSlot l D kA H.size f ht) (cwS 1 B.2.2.2.2.1 (gS kw_94 kw_95 kw_1 kw_96) rfl rfl rfl (by decide +kernel) ⟨Nat.le_of_ble_eq_true rfl, Nat.le_of_ble_eq_true rfl⟩) ⟨mw_blind st_S.blind, mw_pre B hI (hSt.call hI hA)⟩ rfl rfl hl.1 rfl (lv_room (Nat.le_of_ble_eq_true rfl)) dX2_addOrTakeAway_9 ⟨Nat.le_of_ble_eq_true rfl, Nat.le_of_ble_eq_true rfl⟩) (fun r f H locs hp hI2 => ?_)
    clear hI
    have hI := hI2
    clear hI2
    obtain ⟨rfl, rfl⟩ := hp
    refine mv_if_ne (tgt := 17) B dX2_addOrTakeAway_12 (by decide) (by split <;> omega) (fun hc2 => ?_) (fun hc2 => ?_)
    · have h2 : sOk t := by
        by_cases q : sOk t
        · exact q
        · rw [if_neg q] at hc2; exact absurd rfl hc2
      refine mv_aload_n B dX2_addOrTakeAway_17 rfl (lv_at hl 0 rfl) ?_
      refine mw_get (C := RX2) (T := TX2) (N := 7) B hI hD.1 uin_X2 rfl 1 (by decide) kw_69 rfl dX2_addOrTakeAway_18 ?_
      refine mv_aload_n B dX2_addOrTakeAway_21 rfl (lv_at hl 0 rfl) ?_
      refine mw_get (C := RX2) (T := TX2) (N := 7) B hI hD.1 uin_X2 rfl 0 (by decide) kw_68 rfl dX2_addOrTakeAway_22 ?_
      refine mv_iload_n B dX2_addOrTakeAway_25 rfl (lv_at hl 1 rfl) ?_
      obtain ⟨gs, hs1, hs2⟩ := hD.2.1
      refine mw_aald B hI 1 hs1 rfl (a.toNat) (by omega) (by omega) (by decide) (hs2 _ (by omega)) dX2_addOrTakeAway_26 ?_
      refine mv_aload_n B dX2_addOrTakeAway_27 rfl (lv_at hl 0 rfl) ?_
      refine mw_get (C := RX2) (T := TX2) (N := 7) B hI hD.1 uin_X2 rfl 0 (by decide) kw_68 rfl dX2_addOrTakeAway_28 ?_
      refine mv_iload_n B dX2_addOrTakeAway_31 rfl (lv_at hl 2 rfl) ?_
      obtain ⟨gs, hs1, hs2⟩ := hD.2.1
      refine mw_aald B hI 1 hs1 rfl (b.toNat) (by omega) (by omega) (by decide) (hs2 _ (by omega)) dX2_addOrTakeAway_32 ?_
      refine mv_iload B dX2_addOrTakeAway_33 (lv_at hl 4 rfl) ?_
      have ba := hB a.toNat (by omega)
      have bb := hB b.toNat (by omega)
      have b5 := b50
      obtain ⟨_, _, _, cc, -, -⟩ := id (hD.rp (i := 16) (by omega))
      refine mw_callv hI hA (va_runV (As := [.ref ((w (a.toNat))), .ref ((w (b.toNat))), .int (iI (aw))]) (rest := []) B.fix (t_X1_takeSum l D kA H.size f (hD.rp (i := 16) (by omega)).w (hD.rp (i := a.toNat) (by omega)) (hD.rp (i := b.toNat) (by omega)) (hD.ne (i := a.toNat) (j := 16) (by omega) (by omega) (by omega)).1 (hD.ne (i := a.toNat) (j := 16) (by omega) (by omega) (by omega)).2 (hD.ne (i := b.toNat) (j := 16) (by omega) (by omega) (by omega)).1 (hD.ne (i := b.toNat) (j := 16) (by omega) (by omega) (by omega)).2 (by omega) (by omega) (by omega)) (cwV 3 B.2.2.2.2.1 (gV kw_124 kw_125 kw_126 kw_2 kw_127) rfl rfl rfl (by decide +kernel) ⟨Nat.le_of_ble_eq_true rfl, Nat.le_of_ble_eq_true rfl⟩) ⟨mw_blind st_S.blind, mw_recv B hI cc rfl, mw_pre B hI (hSt.call hI hA)⟩ rfl rfl hl.1 rfl (lv_room (Nat.le_of_ble_eq_true rfl)) dX2_addOrTakeAway_35 ⟨Nat.le_of_ble_eq_true rfl, Nat.le_of_ble_eq_true rfl⟩) (fun f H locs hp hI2 => ?_)
      clear hI
      have hI := hI2
      clear hI2
      obtain ⟨hR, o1⟩ := hp
      have ho : ∀ k, ¬ dks d sl pa w ra k → f k = f0 k := fun k h => (o1 k (dks_w h (show 16 < 24 by omega)).1 (dks_w h (show 16 < 24 by omega)).2).trans (ho k h)
      obtain ⟨Y1, hY1, hD⟩ : ∃ Z, Z = upI Y (16) (if aw = 0 then Y (a.toNat) + Y (b.toNat) else Y (a.toNat) - Y (b.toNat)) ∧ DK kA f d sl pa w ra Z := ⟨_, rfl, hD.upd (t := 16) (by omega) hR o1⟩
      have v1 : Y1 (16) = if aw = 0 then Y (a.toNat) + Y (b.toNat) else Y (a.toNat) - Y (b.toNat) := by rw [hY1, upI_self]
      have r1 : ∀ i, i ≠ 16 → Y1 i = Y i := fun i hi => by rw [hY1, upI_ne _ _ hi]
      have hsl : ∀ i, i < 16 → Y1 i = Y i := fun i hi => (r1 i (by omega)).trans (hsl i hi)
      refine mv_aload_n B dX2_addOrTakeAway_38 rfl (lv_at hl 0 rfl) ?_
      refine mv_aload_n B dX2_addOrTakeAway_39 rfl (lv_at hl 0 rfl) ?_
      refine mw_get (C := RX2) (T := TX2) (N := 7) B hI hD.1 uin_X2 rfl 1 (by decide) kw_69 rfl dX2_addOrTakeAway_40 ?_
      refine mv_iload_n B dX2_addOrTakeAway_43 rfl (lv_at hl 3 rfl) ?_
      refine mw_calli hI hA (va_runV (As := [.ref ((w 16)), .int (iI (t))]) (rest := []) B.fix (t_X2_keep l D kA H.size f (t := 16) hD (fun i hi => by rw [hsl i hi]; exact hB i hi) (by omega) h2) (cwV 2 B.2.2.2.2.1 (gV kw_145 kw_147 ks_2 kw_1 kw_148) rfl rfl rfl (by decide +kernel) ⟨Nat.le_of_ble_eq_true rfl, Nat.le_of_ble_eq_true rfl⟩) ⟨mw_blind st_S.blind, mw_recv B hI hD.1 rfl, mw_pre B hI (hSt.call hI hA)⟩ rfl rfl hl.1 rfl (lv_room (Nat.le_of_ble_eq_true rfl)) dX2_addOrTakeAway_44 ⟨Nat.le_of_ble_eq_true rfl, Nat.le_of_ble_eq_true rfl⟩) (fun r f H locs hp hI2 => ?_)
      clear hI
      have hI := hI2
      clear hI2
      obtain ⟨rfl, hD, o1⟩ := hp
      have ho : ∀ k, ¬ dks d sl pa w ra k → f k = f0 k := fun k h => (o1 k h).trans (ho k h)
      have e9 := hSy ⟨h1.1, h1.2, h2⟩
      have e8 := kp_same (x := t) v1 hsl
      exact mw_iret B hQ hrt hI ⟨(congrArg iI e8.1).trans (by rw [e9]), ⟨_, hD, fun i hi => (e8.2 i hi).trans (by rw [e9])⟩, ho⟩ dX2_addOrTakeAway_47
    · have h2 : ¬ (sOk t) := fun q => by rw [if_pos q] at hc2; exact absurd hc2 (by decide)
      refine mv_iconst B dX2_addOrTakeAway_15 ?_
      have e9 := hSn (fun q => h2 q.2.2)
      exact mw_iret B hQ hrt hI ⟨by rw [e9], ⟨_, hD, fun i hi => (hsl i hi).trans (by rw [e9])⟩, ho⟩ dX2_addOrTakeAway_16
abbrev rm_X2_sum : Room := { frames := 4, cells := 0, slots := 0, locals := 107 }
set_option maxHeartbeats 4000000 in
set_option maxRecDepth 100000 in
/-- sum -/
theorem t_X2_sum (l : Launch) (D : va_G) (kA : Nat → ClassId) (sz : Nat) (f0 : mw_M) {d sl pa : Nat} {w ra : Nat → Nat} {Y : Nat → Int} {a b t : Int} (hD : DK kA f0 d sl pa w ra Y) (hB : ∀ i, i < 16 → ((Y i).natAbs : Int) < 1000000 ^ 50) (ha : -2147483648 ≤ a ∧ a ≤ 2147483647) (hb : -2147483648 ≤ b ∧ b ≤ 2147483647) (ht : -2147483648 ≤ t ∧ t ≤ 2147483647) : mw_Mi l yX2_sum (Cond.code yX2_sum cX2_sum 4 ((some .int)) :: gw) rm_X2_sum D vwCl (tyL kA) st_S [.ref d, .int (iI (a)), .int (iI (b)), .int (iI (t))] f0 sz (fun v f => v = iI (sp_sum Y a b t).1 ∧ (∃ Y', DK kA f d sl pa w ra Y' ∧ ∀ i, i < 16 → Y' i = (sp_sum Y a b t).2 i) ∧ ∀ k, ¬ dks d sl pa w ra k → f k = f0 k) 0 0 := by
  refine mw_ofi (cc := cX2_sum) (maxL := 4) (ret := (some .int)) (by decide) rfl (Nat.le_of_ble_eq_true rfl) ?_
  intro p e s m below meth c A ls Q hQ B hrt hnm hA hI hSt hl
  have hl : lv_has ls 4 [(0, .ref d), (1, .int (iI (a))), (2, .int (iI (b))), (3, .int (iI (t)))] := hl
  obtain ⟨f, hI, hf⟩ : ∃ f, mw_I D vwCl A s s.heap [] f ∧ f = f0 := ⟨f0, hI, rfl⟩
  rw [← hf] at hD
  have ho : ∀ k, ¬ dks d sl pa w ra k → f k = f0 k := fun k _ => by rw [hf]
  refine mv_aload_n B dX2_sum_0 rfl (lv_at hl 0 rfl) ?_
  refine mv_iload_n B dX2_sum_1 rfl (lv_at hl 1 rfl) ?_
  refine mv_iload_n B dX2_sum_2 rfl (lv_at hl 2 rfl) ?_
  refine mv_iload_n B dX2_sum_3 rfl (lv_at hl 3 rfl) ?_
  refine mv_iconst B dX2_sum_4 ?_
  refine mw_calli hI hA (va_runV (As := [.int (iI (a)), .int (iI (b)), .int (iI (t)), .int (iI (0))]) (rest := []) B.fix (t_X2_addOrTakeAway l D kA s.heap.size f (aw := 0) hD hB ha hb ht (by decide)) (cwV 4 B.2.2.2.2.1 (gV kw_171 kw_173 ks_3 kw_1 kw_174) rfl rfl rfl (by decide +kernel) ⟨Nat.le_of_ble_eq_true rfl, Nat.le_of_ble_eq_true rfl⟩) ⟨mw_blind st_S.blind, mw_recv B hI hD.1 rfl, mw_pre B hI (hSt.call hI hA)⟩ rfl rfl hl.1 rfl (lv_room (Nat.le_of_ble_eq_true rfl)) dX2_sum_5 ⟨Nat.le_of_ble_eq_true rfl, Nat.le_of_ble_eq_true rfl⟩) (fun r f H locs hp hI2 => ?_)
  clear hI
  have hI := hI2
  clear hI2
  obtain ⟨rfl, hD, o1⟩ := hp
  exact mw_iret B hQ hrt hI ⟨rfl, hD, fun k h => (o1 k h).trans (ho k h)⟩ dX2_sum_8
abbrev rm_X2_less : Room := { frames := 4, cells := 0, slots := 0, locals := 107 }
set_option maxHeartbeats 4000000 in
set_option maxRecDepth 100000 in
/-- less -/
theorem t_X2_less (l : Launch) (D : va_G) (kA : Nat → ClassId) (sz : Nat) (f0 : mw_M) {d sl pa : Nat} {w ra : Nat → Nat} {Y : Nat → Int} {a b t : Int} (hD : DK kA f0 d sl pa w ra Y) (hB : ∀ i, i < 16 → ((Y i).natAbs : Int) < 1000000 ^ 50) (ha : -2147483648 ≤ a ∧ a ≤ 2147483647) (hb : -2147483648 ≤ b ∧ b ≤ 2147483647) (ht : -2147483648 ≤ t ∧ t ≤ 2147483647) : mw_Mi l yX2_less (Cond.code yX2_less cX2_less 4 ((some .int)) :: gw) rm_X2_less D vwCl (tyL kA) st_S [.ref d, .int (iI (a)), .int (iI (b)), .int (iI (t))] f0 sz (fun v f => v = iI (sp_less Y a b t).1 ∧ (∃ Y', DK kA f d sl pa w ra Y' ∧ ∀ i, i < 16 → Y' i = (sp_less Y a b t).2 i) ∧ ∀ k, ¬ dks d sl pa w ra k → f k = f0 k) 0 0 := by
  refine mw_ofi (cc := cX2_less) (maxL := 4) (ret := (some .int)) (by decide) rfl (Nat.le_of_ble_eq_true rfl) ?_
  intro p e s m below meth c A ls Q hQ B hrt hnm hA hI hSt hl
  have hl : lv_has ls 4 [(0, .ref d), (1, .int (iI (a))), (2, .int (iI (b))), (3, .int (iI (t)))] := hl
  obtain ⟨f, hI, hf⟩ : ∃ f, mw_I D vwCl A s s.heap [] f ∧ f = f0 := ⟨f0, hI, rfl⟩
  rw [← hf] at hD
  have ho : ∀ k, ¬ dks d sl pa w ra k → f k = f0 k := fun k _ => by rw [hf]
  refine mv_aload_n B dX2_less_0 rfl (lv_at hl 0 rfl) ?_
  refine mv_iload_n B dX2_less_1 rfl (lv_at hl 1 rfl) ?_
  refine mv_iload_n B dX2_less_2 rfl (lv_at hl 2 rfl) ?_
  refine mv_iload_n B dX2_less_3 rfl (lv_at hl 3 rfl) ?_
  refine mv_iconst B dX2_less_4 ?_
  refine mw_calli hI hA (va_runV (As := [.int (iI (a)), .int (iI (b)), .int (iI (t)), .int (iI (1))]) (rest := []) B.fix (t_X2_addOrTakeAway l D kA s.heap.size f (aw := 1) hD hB ha hb ht (by decide)) (cwV 4 B.2.2.2.2.1 (gV kw_171 kw_173 ks_3 kw_1 kw_174) rfl rfl rfl (by decide +kernel) ⟨Nat.le_of_ble_eq_true rfl, Nat.le_of_ble_eq_true rfl⟩) ⟨mw_blind st_S.blind, mw_recv B hI hD.1 rfl, mw_pre B hI (hSt.call hI hA)⟩ rfl rfl hl.1 rfl (lv_room (Nat.le_of_ble_eq_true rfl)) dX2_less_5 ⟨Nat.le_of_ble_eq_true rfl, Nat.le_of_ble_eq_true rfl⟩) (fun r f H locs hp hI2 => ?_)
  clear hI
  have hI := hI2
  clear hI2
  obtain ⟨rfl, hD, o1⟩ := hp
  exact mw_iret B hQ hrt hI ⟨rfl, hD, fun k h => (o1 k h).trans (ho k h)⟩ dX2_less_8
abbrev rm_X2_copy : Room := { frames := 3, cells := 0, slots := 0, locals := 83 }
set_option maxHeartbeats 4000000 in
set_option maxRecDepth 100000 in
/-- copy -/
theorem t_X2_copy (l : Launch) (D : va_G) (kA : Nat → ClassId) (sz : Nat) (f0 : mw_M) {d sl pa : Nat} {w ra : Nat → Nat} {Y : Nat → Int} {a t : Int} (hD : DK kA f0 d sl pa w ra Y) (hB : ∀ i, i < 16 → ((Y i).natAbs : Int) < 1000000 ^ 50) (ha : -2147483648 ≤ a ∧ a ≤ 2147483647) (ht : -2147483648 ≤ t ∧ t ≤ 2147483647) : mw_Mi l yX2_copy (Cond.code yX2_copy cX2_copy 3 ((some .int)) :: gw) rm_X2_copy D vwCl (tyL kA) st_S [.ref d, .int (iI (a)), .int (iI (t))] f0 sz (fun v f => v = iI (sp_copy Y a t).1 ∧ (∃ Y', DK kA f d sl pa w ra Y' ∧ ∀ i, i < 16 → Y' i = (sp_copy Y a t).2 i) ∧ ∀ k, ¬ dks d sl pa w ra k → f k = f0 k) 0 0 := by
  refine mw_ofi (cc := cX2_copy) (maxL := 3) (ret := (some .int)) (by decide) rfl (Nat.le_of_ble_eq_true rfl) ?_
  intro p e s m below meth c A ls Q hQ B hrt hnm hA hI hSt hl
  have hl : lv_has ls 3 [(0, .ref d), (1, .int (iI (a))), (2, .int (iI (t)))] := hl
  obtain ⟨f, hI, hf⟩ : ∃ f, mw_I D vwCl A s s.heap [] f ∧ f = f0 := ⟨f0, hI, rfl⟩
  rw [← hf] at hD
  have ho : ∀ k, ¬ dks d sl pa w ra k → f k = f0 k := fun k _ => by rw [hf]
  have hsl : ∀ i, i < 16 → Y i = Y i := fun _ _ => rfl
  refine mv_iload_n B dX2_copy_0 rfl (lv_at hl 1 rfl) ?_
  refine mv_iload_n B dX2_copy_1 rfl (lv_at hl 2 rfl) ?_
  refine mw_calli hI hA (va_runS (As := [.int (iI (a)), .int (iI (t))]) (rest := []) B.fix (t_X2_areSlots l D kA s.heap.size f ha ht) (cwS 2 B.2.2.2.2.1 (gS kw_164 kw_165 kw_1 kw_166) rfl rfl rfl (by decide +kernel) ⟨Nat.le_of_ble_eq_true rfl, Nat.le_of_ble_eq_true rfl⟩) ⟨mw_blind st_S.blind, mw_pre B hI (hSt.call hI hA)⟩ rfl rfl hl.1 rfl (lv_room (Nat.le_of_ble_eq_true rfl)) dX2_copy_2 ⟨Nat.le_of_ble_eq_true rfl, Nat.le_of_ble_eq_true rfl⟩) (fun r f H locs hp hI2 => ?_)
  clear hI
  have hI := hI2
  clear hI2
  obtain ⟨rfl, rfl⟩ := hp
  refine mv_if_ne (tgt := 10) B dX2_copy_5 (by decide) (by split <;> omega) (fun hc => ?_) (fun hc => ?_)
  · have h1 : sOk a ∧ sOk t := by
      by_cases q : sOk a ∧ sOk t
      · exact q
      · rw [if_neg q] at hc; exact absurd rfl hc
    refine mv_aload_n B dX2_copy_10 rfl (lv_at hl 0 rfl) ?_
    refine mv_aload_n B dX2_copy_11 rfl (lv_at hl 0 rfl) ?_
    refine mw_get (C := RX2) (T := TX2) (N := 7) B hI hD.1 uin_X2 rfl 0 (by decide) kw_68 rfl dX2_copy_12 ?_
    refine mv_iload_n B dX2_copy_15 rfl (lv_at hl 1 rfl) ?_
    obtain ⟨gs, hs1, hs2⟩ := hD.2.1
    refine mw_aald B hI 1 hs1 rfl (a.toNat) (by omega) (by omega) (by decide) (hs2 _ (by omega)) dX2_copy_16 ?_
    refine mv_iload_n B dX2_copy_17 rfl (lv_at hl 2 rfl) ?_
    refine mw_calli hI hA (va_runV (As := [.ref ((w (a.toNat))), .int (iI (t))]) (rest := []) B.fix (t_X2_keep l D kA H.size f (t := a.toNat) hD (fun i hi => by rw [hsl i hi]; exact hB i hi) (by omega) h1.2) (cwV 2 B.2.2.2.2.1 (gV kw_145 kw_147 ks_2 kw_1 kw_148) rfl rfl rfl (by decide +kernel) ⟨Nat.le_of_ble_eq_true rfl, Nat.le_of_ble_eq_true rfl⟩) ⟨mw_blind st_S.blind, mw_recv B hI hD.1 rfl, mw_pre B hI (hSt.call hI hA)⟩ rfl rfl hl.1 rfl (lv_room (Nat.le_of_ble_eq_true rfl)) dX2_copy_18 ⟨Nat.le_of_ble_eq_true rfl, Nat.le_of_ble_eq_true rfl⟩) (fun r f H locs hp hI2 => ?_)
    clear hI
    have hI := hI2
    clear hI2
    obtain ⟨rfl, hD, o1⟩ := hp
    have ho : ∀ k, ¬ dks d sl pa w ra k → f k = f0 k := fun k h => (o1 k h).trans (ho k h)
    have e9 : sp_copy Y a t = kp Y (t) (Y a.toNat) := by unfold sp_copy; rw [if_pos h1]
    have e7 : Y (a.toNat) = Y a.toNat := by rfl
    have e8 := kp_same (x := t) e7 hsl
    exact mw_iret B hQ hrt hI ⟨(congrArg iI e8.1).trans (by rw [e9]), ⟨_, hD, fun i hi => (e8.2 i hi).trans (by rw [e9])⟩, ho⟩ dX2_copy_21
  · have h1 : ¬ (sOk a ∧ sOk t) := fun q => by rw [if_pos q] at hc; exact absurd hc (by decide)
    refine mv_iconst B dX2_copy_8 ?_
    have e9 : sp_copy Y a t = (-1, Y) := by unfold sp_copy; rw [if_neg h1]
    exact mw_iret B hQ hrt hI ⟨by rw [e9], ⟨_, hD, fun i hi => (hsl i hi).trans (by rw [e9])⟩, ho⟩ dX2_copy_9
abbrev rm_X2_digit : Room := { frames := 3, cells := 0, slots := 0, locals := 83 }
set_option maxHeartbeats 4000000 in
set_option maxRecDepth 100000 in
/-- digit -/
theorem t_X2_digit (l : Launch) (D : va_G) (kA : Nat → ClassId) (sz : Nat) (f0 : mw_M) {d sl pa : Nat} {w ra : Nat → Nat} {Y : Nat → Int} {a e_ : Int} (hD : DK kA f0 d sl pa w ra Y) (hB : ∀ i, i < 16 → ((Y i).natAbs : Int) < 1000000 ^ 50) (ha : -2147483648 ≤ a ∧ a ≤ 2147483647) (he_ : -2147483648 ≤ e_ ∧ e_ ≤ 2147483647) : mw_Mi l yX2_digit (Cond.code yX2_digit cX2_digit 3 ((some .int)) :: gw) rm_X2_digit D vwCl (tyL kA) st_S [.ref d, .int (iI (a)), .int (iI (e_))] f0 sz (fun v f => v = iI (sp_digit Y a e_).1 ∧ (∃ Y', DK kA f d sl pa w ra Y' ∧ ∀ i, i < 16 → Y' i = (sp_digit Y a e_).2 i) ∧ ∀ k, ¬ dks d sl pa w ra k → f k = f0 k) 0 0 := by
  refine mw_ofi (cc := cX2_digit) (maxL := 3) (ret := (some .int)) (by decide) rfl (Nat.le_of_ble_eq_true rfl) ?_
  intro p e s m below meth c A ls Q hQ B hrt hnm hA hI hSt hl
  have hl : lv_has ls 3 [(0, .ref d), (1, .int (iI (a))), (2, .int (iI (e_)))] := hl
  obtain ⟨f, hI, hf⟩ : ∃ f, mw_I D vwCl A s s.heap [] f ∧ f = f0 := ⟨f0, hI, rfl⟩
  rw [← hf] at hD
  have ho : ∀ k, ¬ dks d sl pa w ra k → f k = f0 k := fun k _ => by rw [hf]
  have hsl : ∀ i, i < 16 → Y i = Y i := fun _ _ => rfl
  refine mv_iload_n B dX2_digit_0 rfl (lv_at hl 1 rfl) ?_
  refine mw_calli hI hA (va_runS (As := [.int (iI (a))]) (rest := []) B.fix (t_X2_isSlot l D kA s.heap.size f ha) (cwS 1 B.2.2.2.2.1 (gS kw_94 kw_95 kw_1 kw_96) rfl rfl rfl (by decide +kernel) ⟨Nat.le_of_ble_eq_true rfl, Nat.le_of_ble_eq_true rfl⟩) ⟨mw_blind st_S.blind, mw_pre B hI (hSt.call hI hA)⟩ rfl rfl hl.1 rfl (lv_room (Nat.le_of_ble_eq_true rfl)) dX2_digit_1 ⟨Nat.le_of_ble_eq_true rfl, Nat.le_of_ble_eq_true rfl⟩) (fun r f H locs hp hI2 => ?_)
  clear hI
  have hI := hI2
  clear hI2
  obtain ⟨rfl, rfl⟩ := hp
  refine mv_if_eq (tgt := 17) B dX2_digit_4 (by decide) (by split <;> omega) (fun hc => ?_) (fun hc => ?_)
  · have h1 : ¬ (sOk a) := fun q => by rw [if_pos q] at hc; exact absurd hc (by decide)
    refine mv_iconst B dX2_digit_17 ?_
    have e9 : sp_digit Y a e_ = (-1, Y) := by unfold sp_digit; rw [if_neg (fun q => h1 q.1)]
    exact mw_iret B hQ hrt hI ⟨by rw [e9], ⟨_, hD, fun i hi => (hsl i hi).trans (by rw [e9])⟩, ho⟩ dX2_digit_18
  · have h1 : sOk a := by
      by_cases q : sOk a
      · exact q
      · rw [if_neg q] at hc; exact absurd rfl hc
    refine mv_iload_n B dX2_digit_7 rfl (lv_at hl 2 rfl) ?_
    refine mv_if_lt (tgt := 17) B dX2_digit_8 (by decide) (by omega) (fun hc2 => ?_) (fun hc2 => ?_)
    · refine mv_iconst B dX2_digit_17 ?_
      have e9 : sp_digit Y a e_ = (-1, Y) := by unfold sp_digit; rw [if_neg (fun q => by omega)]
      exact mw_iret B hQ hrt hI ⟨by rw [e9], ⟨_, hD, fun i hi => (hsl i hi).trans (by rw [e9])⟩, ho⟩ dX2_digit_18
    · refine mv_iload_n B dX2_digit_11 rfl (lv_at hl 2 rfl) ?_
      refine mv_bipush B dX2_digit_12 (by decide) ?_
      refine mv_icmp_le (tgt := 19) B dX2_digit_14 (by decide) (by omega) (fun hc3 => ?_) (fun hc3 => ?_)
      · have b5 := b50
        have ba := hB a.toNat (by omega)
        refine mv_aload_n B dX2_digit_19 rfl (lv_at hl 0 rfl) ?_
        refine mw_get (C := RX2) (T := TX2) (N := 7) B hI hD.1 uin_X2 rfl 4 (by decide) kw_72 rfl dX2_digit_20 ?_
        refine mv_ldc2 (z := 10) B dX2_digit_23 kw_113 (by decide) ?_
        obtain ⟨_, _, _, cc, -, -⟩ := id (hD.rp (i := 19) (by omega))
        refine mw_callv hI hA (va_runV (As := [.long (lI (10))]) (rest := []) B.fix (t_X1_load l D kA H.size f (hD.rp (i := 19) (by omega)).w (by decide)) (cwV 1 B.2.2.2.2.1 (gV kw_97 kw_98 kw_99 kw_2 kw_100) rfl rfl rfl (by decide +kernel) ⟨Nat.le_of_ble_eq_true rfl, Nat.le_of_ble_eq_true rfl⟩) ⟨mw_blind st_S.blind, mw_recv B hI cc rfl, mw_pre B hI (hSt.call hI hA)⟩ rfl rfl hl.1 rfl (lv_room (Nat.le_of_ble_eq_true rfl)) dX2_digit_26 ⟨Nat.le_of_ble_eq_true rfl, Nat.le_of_ble_eq_true rfl⟩) (fun f H locs hp hI2 => ?_)
        clear hI
        have hI := hI2
        clear hI2
        obtain ⟨hR, o1⟩ := hp
        have ho : ∀ k, ¬ dks d sl pa w ra k → f k = f0 k := fun k h => (o1 k (dks_w h (show 19 < 24 by omega)).1 (dks_w h (show 19 < 24 by omega)).2).trans (ho k h)
        obtain ⟨Y1, hY1, hD⟩ : ∃ Z, Z = upI Y (19) (10) ∧ DK kA f d sl pa w ra Z := ⟨_, rfl, hD.upd (t := 19) (by omega) hR o1⟩
        have v1 : Y1 (19) = 10 := by rw [hY1, upI_self]
        have r1 : ∀ i, i ≠ 19 → Y1 i = Y i := fun i hi => by rw [hY1, upI_ne _ _ hi]
        have hsl : ∀ i, i < 16 → Y1 i = Y i := fun i hi => (r1 i (by omega)).trans (hsl i hi)
        refine mv_aload_n B dX2_digit_29 rfl (lv_at hl 0 rfl) ?_
        refine mw_get (C := RX2) (T := TX2) (N := 7) B hI hD.1 uin_X2 rfl 3 (by decide) kw_71 rfl dX2_digit_30 ?_
        refine mv_aload_n B dX2_digit_33 rfl (lv_at hl 0 rfl) ?_
        refine mw_get (C := RX2) (T := TX2) (N := 7) B hI hD.1 uin_X2 rfl 0 (by decide) kw_68 rfl dX2_digit_34 ?_
        refine mv_iload_n B dX2_digit_37 rfl (lv_at hl 1 rfl) ?_
        obtain ⟨gs, hs1, hs2⟩ := hD.2.1
        refine mw_aald B hI 1 hs1 rfl (a.toNat) (by omega) (by omega) (by decide) (hs2 _ (by omega)) dX2_digit_38 ?_
        refine mv_aload_n B dX2_digit_39 rfl (lv_at hl 0 rfl) ?_
        refine mw_get (C := RX2) (T := TX2) (N := 7) B hI hD.1 uin_X2 rfl 4 (by decide) kw_72 rfl dX2_digit_40 ?_
        obtain ⟨_, _, _, cc, -, -⟩ := id (hD.rp (i := 18) (by omega))
        refine mw_callv hI hA (va_runV (As := [.ref ((w (a.toNat))), .ref ((w 19))]) (rest := []) B.fix (t_X1_takeProduct l D kA H.size f (hD.rp (i := 18) (by omega)).w (hD.rp (i := a.toNat) (by omega)) (hD.rp (i := 19) (by omega)) (hD.ne (i := a.toNat) (j := 18) (by omega) (by omega) (by omega)).1 (hD.ne (i := a.toNat) (j := 18) (by omega) (by omega) (by omega)).2 (hD.ne (i := 19) (j := 18) (by omega) (by omega) (by omega)).1 (hD.ne (i := 19) (j := 18) (by omega) (by omega) (by omega)).2 (by rw [hsl _ (by omega)]; exact hB _ (by omega)) (by rw [v1]; exact b5.2.2)) (cwV 2 B.2.2.2.2.1 (gV kw_114 kw_115 kw_116 kw_2 kw_117) rfl rfl rfl (by decide +kernel) ⟨Nat.le_of_ble_eq_true rfl, Nat.le_of_ble_eq_true rfl⟩) ⟨mw_blind st_S.blind, mw_recv B hI cc rfl, mw_pre B hI (hSt.call hI hA)⟩ rfl rfl hl.1 rfl (lv_room (Nat.le_of_ble_eq_true rfl)) dX2_digit_43 ⟨Nat.le_of_ble_eq_true rfl, Nat.le_of_ble_eq_true rfl⟩) (fun f H locs hp hI2 => ?_)
        clear hI
        have hI := hI2
        clear hI2
        obtain ⟨hR, o1⟩ := hp
        have ho : ∀ k, ¬ dks d sl pa w ra k → f k = f0 k := fun k h => (o1 k (dks_w h (show 18 < 24 by omega)).1 (dks_w h (show 18 < 24 by omega)).2).trans (ho k h)
        obtain ⟨Y2, hY2, hD⟩ : ∃ Z, Z = upI Y1 (18) (Y1 (a.toNat) * Y1 (19)) ∧ DK kA f d sl pa w ra Z := ⟨_, rfl, hD.upd (t := 18) (by omega) hR o1⟩
        have v2 : Y2 (18) = Y1 (a.toNat) * Y1 (19) := by rw [hY2, upI_self]
        have r2 : ∀ i, i ≠ 18 → Y2 i = Y1 i := fun i hi => by rw [hY2, upI_ne _ _ hi]
        have hsl : ∀ i, i < 16 → Y2 i = Y i := fun i hi => (r2 i (by omega)).trans (hsl i hi)
        have hx1 : Y1 a.toNat = Y a.toNat := r1 _ (by omega)
        refine mv_aload_n B dX2_digit_46 rfl (lv_at hl 0 rfl) ?_
        refine mw_get (C := RX2) (T := TX2) (N := 7) B hI hD.1 uin_X2 rfl 4 (by decide) kw_72 rfl dX2_digit_47 ?_
        refine mv_iload_n B dX2_digit_50 rfl (lv_at hl 2 rfl) ?_
        refine mv_i2l B dX2_digit_51 (by omega) ?_
        obtain ⟨_, _, _, cc, -, -⟩ := id (hD.rp (i := 19) (by omega))
        refine mw_callv hI hA (va_runV (As := [.long (lI (e_))]) (rest := []) B.fix (t_X1_load l D kA H.size f (hD.rp (i := 19) (by omega)).w (by omega)) (cwV 1 B.2.2.2.2.1 (gV kw_97 kw_98 kw_99 kw_2 kw_100) rfl rfl rfl (by decide +kernel) ⟨Nat.le_of_ble_eq_true rfl, Nat.le_of_ble_eq_true rfl⟩) ⟨mw_blind st_S.blind, mw_recv B hI cc rfl, mw_pre B hI (hSt.call hI hA)⟩ rfl rfl hl.1 rfl (lv_room (Nat.le_of_ble_eq_true rfl)) dX2_digit_52 ⟨Nat.le_of_ble_eq_true rfl, Nat.le_of_ble_eq_true rfl⟩) (fun f H locs hp hI2 => ?_)
        clear hI
        have hI := hI2
        clear hI2
        obtain ⟨hR, o1⟩ := hp
        have ho : ∀ k, ¬ dks d sl pa w ra k → f k = f0 k := fun k h => (o1 k (dks_w h (show 19 < 24 by omega)).1 (dks_w h (show 19 < 24 by omega)).2).trans (ho k h)
        obtain ⟨Y3, hY3, hD⟩ : ∃ Z, Z = upI Y2 (19) (e_) ∧ DK kA f d sl pa w ra Z := ⟨_, rfl, hD.upd (t := 19) (by omega) hR o1⟩
        have v3 : Y3 (19) = e_ := by rw [hY3, upI_self]
        have r3 : ∀ i, i ≠ 19 → Y3 i = Y2 i := fun i hi => by rw [hY3, upI_ne _ _ hi]
        have hsl : ∀ i, i < 16 → Y3 i = Y i := fun i hi => (r3 i (by omega)).trans (hsl i hi)
        refine mv_aload_n B dX2_digit_55 rfl (lv_at hl 0 rfl) ?_
        refine mw_get (C := RX2) (T := TX2) (N := 7) B hI hD.1 uin_X2 rfl 1 (by decide) kw_69 rfl dX2_digit_56 ?_
        refine mv_aload_n B dX2_digit_59 rfl (lv_at hl 0 rfl) ?_
        refine mw_get (C := RX2) (T := TX2) (N := 7) B hI hD.1 uin_X2 rfl 3 (by decide) kw_71 rfl dX2_digit_60 ?_
        refine mv_aload_n B dX2_digit_63 rfl (lv_at hl 0 rfl) ?_
        refine mw_get (C := RX2) (T := TX2) (N := 7) B hI hD.1 uin_X2 rfl 4 (by decide) kw_72 rfl dX2_digit_64 ?_
        refine mv_iconst B dX2_digit_67 ?_
        have h18 : Y3 18 = Y a.toNat * 10 := by rw [r3 18 (by decide), v2, v1, hx1]
        have b18 : ((Y3 18).natAbs : Int) < 1000000 ^ 100 := by rw [h18]; exact mulbd ba b5.2.2
        have bb := b100
        obtain ⟨_, _, _, cc, -, -⟩ := id (hD.rp (i := 16) (by omega))
        refine mw_callv hI hA (va_runV (As := [.ref ((w 18)), .ref ((w 19)), .int (iI (0))]) (rest := []) B.fix (t_X1_takeSum l D kA H.size f (hD.rp (i := 16) (by omega)).w (hD.rp (i := 18) (by omega)) (hD.rp (i := 19) (by omega)) (hD.ne (i := 18) (j := 16) (by omega) (by omega) (by omega)).1 (hD.ne (i := 18) (j := 16) (by omega) (by omega) (by omega)).2 (hD.ne (i := 19) (j := 16) (by omega) (by omega) (by omega)).1 (hD.ne (i := 19) (j := 16) (by omega) (by omega) (by omega)).2 (by omega) (by omega) (by rw [v3]; omega)) (cwV 3 B.2.2.2.2.1 (gV kw_124 kw_125 kw_126 kw_2 kw_127) rfl rfl rfl (by decide +kernel) ⟨Nat.le_of_ble_eq_true rfl, Nat.le_of_ble_eq_true rfl⟩) ⟨mw_blind st_S.blind, mw_recv B hI cc rfl, mw_pre B hI (hSt.call hI hA)⟩ rfl rfl hl.1 rfl (lv_room (Nat.le_of_ble_eq_true rfl)) dX2_digit_68 ⟨Nat.le_of_ble_eq_true rfl, Nat.le_of_ble_eq_true rfl⟩) (fun f H locs hp hI2 => ?_)
        clear hI
        have hI := hI2
        clear hI2
        obtain ⟨hR, o1⟩ := hp
        have ho : ∀ k, ¬ dks d sl pa w ra k → f k = f0 k := fun k h => (o1 k (dks_w h (show 16 < 24 by omega)).1 (dks_w h (show 16 < 24 by omega)).2).trans (ho k h)
        obtain ⟨Y4, hY4, hD⟩ : ∃ Z, Z = upI Y3 (16) (if (0 : Int) = 0 then Y3 (18) + Y3 (19) else Y3 (18) - Y3 (19)) ∧ DK kA f d sl pa w ra Z := ⟨_, rfl, hD.upd (t := 16) (by omega) hR o1⟩
        have v4 : Y4 (16) = if (0 : Int) = 0 then Y3 (18) + Y3 (19) else Y3 (18) - Y3 (19) := by rw [hY4, upI_self]
        have r4 : ∀ i, i ≠ 16 → Y4 i = Y3 i := fun i hi => by rw [hY4, upI_ne _ _ hi]
        have hsl : ∀ i, i < 16 → Y4 i = Y i := fun i hi => (r4 i (by omega)).trans (hsl i hi)
        refine mv_aload_n B dX2_digit_71 rfl (lv_at hl 0 rfl) ?_
        refine mv_aload_n B dX2_digit_72 rfl (lv_at hl 0 rfl) ?_
        refine mw_get (C := RX2) (T := TX2) (N := 7) B hI hD.1 uin_X2 rfl 1 (by decide) kw_69 rfl dX2_digit_73 ?_
        refine mv_iload_n B dX2_digit_76 rfl (lv_at hl 1 rfl) ?_
        refine mw_calli hI hA (va_runV (As := [.ref ((w 16)), .int (iI (a))]) (rest := []) B.fix (t_X2_keep l D kA H.size f (t := 16) hD (fun i hi => by rw [hsl i hi]; exact hB i hi) (by omega) h1) (cwV 2 B.2.2.2.2.1 (gV kw_145 kw_147 ks_2 kw_1 kw_148) rfl rfl rfl (by decide +kernel) ⟨Nat.le_of_ble_eq_true rfl, Nat.le_of_ble_eq_true rfl⟩) ⟨mw_blind st_S.blind, mw_recv B hI hD.1 rfl, mw_pre B hI (hSt.call hI hA)⟩ rfl rfl hl.1 rfl (lv_room (Nat.le_of_ble_eq_true rfl)) dX2_digit_77 ⟨Nat.le_of_ble_eq_true rfl, Nat.le_of_ble_eq_true rfl⟩) (fun r f H locs hp hI2 => ?_)
        clear hI
        have hI := hI2
        clear hI2
        obtain ⟨rfl, hD, o1⟩ := hp
        have ho : ∀ k, ¬ dks d sl pa w ra k → f k = f0 k := fun k h => (o1 k h).trans (ho k h)
        have e9 : sp_digit Y a e_ = kp Y (a) (10 * Y a.toNat + e_) := by unfold sp_digit; rw [if_pos ⟨h1, by omega, by omega⟩]
        have e7 : Y4 (16) = 10 * Y a.toNat + e_ := by rw [v4, if_pos rfl, h18, v3]; omega
        have e8 := kp_same (x := a) e7 hsl
        exact mw_iret B hQ hrt hI ⟨(congrArg iI e8.1).trans (by rw [e9]), ⟨_, hD, fun i hi => (e8.2 i hi).trans (by rw [e9])⟩, ho⟩ dX2_digit_80
      · refine mv_iconst B dX2_digit_17 ?_
        have e9 : sp_digit Y a e_ = (-1, Y) := by unfold sp_digit; rw [if_neg (fun q => by omega)]
        exact mw_iret B hQ hrt hI ⟨by rw [e9], ⟨_, hD, fun i hi => (hsl i hi).trans (by rw [e9])⟩, ho⟩ dX2_digit_18
end
section
/-! the pair on the desk -/
theorem swp_rp {cI : ClassId} {f : mw_M} {p1 r1 p2 r2 mo rmo fe rfe un run : Nat} {z1 z2 : Int} (h : swp p1 r1 p2 r2 mo rmo fe rfe) (h1 : Rp cI f p1 r1 z1) (h2 : Rp cI f p2 r2 z2) (n1 : p1 ≠ p2) (n2 : r1 ≠ r2) (n3 : un ≠ p1) (n4 : un ≠ p2) (n5 : run ≠ r1) (n6 : run ≠ r2) : (∃ v, Rp cI f mo rmo v) ∧ (∃ v, Rp cI f fe rfe v) ∧ mo ≠ fe ∧ rmo ≠ rfe ∧ un ≠ mo ∧ un ≠ fe ∧ run ≠ rmo ∧ run ≠ rfe := by
  have k := h.ne n1 n2 n3 n4 n5 n6
  rcases h with ⟨rfl, rfl, rfl, rfl⟩ | ⟨rfl, rfl, rfl, rfl⟩
  · exact ⟨⟨_, h1⟩, ⟨_, h2⟩, k⟩
  · exact ⟨⟨_, h2⟩, ⟨_, h1⟩, k⟩
theorem swp_ne {p1 r1 p2 r2 mo rmo fe rfe x rx : Nat} (h : swp p1 r1 p2 r2 mo rmo fe rfe) (n1 : x ≠ p1) (n2 : x ≠ p2) (n3 : rx ≠ r1) (n4 : rx ≠ r2) : x ≠ mo ∧ x ≠ fe ∧ rx ≠ rmo ∧ rx ≠ rfe := by
  rcases h with ⟨rfl, rfl, rfl, rfl⟩ | ⟨rfl, rfl, rfl, rfl⟩
  · exact ⟨n1, n2, n3, n4⟩
  · exact ⟨n2, n1, n4, n3⟩
theorem swp_tr {p1 r1 p2 r2 mo rmo fe rfe mo' rmo' fe' rfe' : Nat} (h : swp p1 r1 p2 r2 mo rmo fe rfe) (h2 : swp mo rmo fe rfe mo' rmo' fe' rfe') : swp p1 r1 p2 r2 mo' rmo' fe' rfe' := by
  rcases h with ⟨rfl, rfl, rfl, rfl⟩ | ⟨rfl, rfl, rfl, rfl⟩ <;> rcases h2 with ⟨rfl, rfl, rfl, rfl⟩ | ⟨rfl, rfl, rfl, rfl⟩
  · exact Or.inl ⟨rfl, rfl, rfl, rfl⟩
  · exact Or.inr ⟨rfl, rfl, rfl, rfl⟩
  · exact Or.inr ⟨rfl, rfl, rfl, rfl⟩
  · exact Or.inl ⟨rfl, rfl, rfl, rfl⟩
/-- behind commonDivisor: the desk as it was, but for the pair; its answer is number u1 -/
theorem DK.cd {kA : Nat → ClassId} {f f1 : mw_M} {d sl pa : Nat} {w ra : Nat → Nat} {Y : Nat → Int} {mo rmo fe rfe r : Nat} {G : Int} (h : DK kA f d sl pa w ra Y) (hsw : swp (w 22) (ra 22) (w 23) (ra 23) mo rmo fe rfe)
    (hp : ∃ mo' rmo' fe' rfe' a b c e, swp mo rmo fe rfe mo' rmo' fe' rfe' ∧ r = mo' ∧ f1 pa = some (prc (w 21) mo' fe' a b c e) ∧ Rp (kA 0) f1 mo' rmo' G ∧ (∃ v, Rp (kA 0) f1 fe' rfe' v) ∧ (∃ v, Rp (kA 0) f1 (w 21) (ra 21) v) ∧ ∀ k, ¬ pk_ pa (w 21) (ra 21) mo rmo fe rfe k → f1 k = f k) :
    ∃ (u1 : Nat) (Y1 : Nat → Int), (u1 = 22 ∨ u1 = 23) ∧ r = w u1 ∧ DK kA f1 d sl pa w ra Y1 ∧ Y1 u1 = G ∧ (∀ i, i < 21 → Y1 i = Y i) ∧ ∀ k, ¬ dks d sl pa w ra k → f1 k = f k := by
  obtain ⟨mo', rmo', fe', rfe', a, b, c, e, hs2, hr, hq, hm, ⟨vf, hf⟩, ⟨vu, hu⟩, ho⟩ := hp
  have hs := swp_tr hsw hs2
  obtain ⟨h1, ⟨gs, h2, h3⟩, ⟨mo0, rmo0, fe0, rfe0, a0, b0, c0, e0, h4, h5⟩, h6, h7⟩ := h
  have hall : ∀ k, (k ≠ pa ∧ k ≠ w 21 ∧ k ≠ ra 21 ∧ k ≠ w 22 ∧ k ≠ ra 22 ∧ k ≠ w 23 ∧ k ≠ ra 23) → f1 k = f k := fun k hk => ho k (fun q => by
    unfold pk_ at q
    rcases hsw with ⟨rfl, rfl, rfl, rfl⟩ | ⟨rfl, rfl, rfl, rfl⟩
    · rcases q with q | q | q | q | q | q | q
      · exact hk.1 q
      · exact hk.2.1 q
      · exact hk.2.2.1 q
      · exact hk.2.2.2.1 q
      · exact hk.2.2.2.2.1 q
      · exact hk.2.2.2.2.2.1 q
      · exact hk.2.2.2.2.2.2 q
    · rcases q with q | q | q | q | q | q | q
      · exact hk.1 q
      · exact hk.2.1 q
      · exact hk.2.2.1 q
      · exact hk.2.2.2.2.2.1 q
      · exact hk.2.2.2.2.2.2 q
      · exact hk.2.2.2.1 q
      · exact hk.2.2.2.2.1 q)
  have kd : ∀ i, i < 24 → d ≠ w i ∧ d ≠ ra i := fun i hi => by
    obtain ⟨g, n, b', q1, q2, -⟩ := h6 i hi
    exact ⟨fun q => (by rw [← q, h1] at q1; simp [ciW] at q1), fun q => (by rw [← q, h1] at q2; cases q2)⟩
  have ks : ∀ i, i < 24 → sl ≠ w i ∧ sl ≠ ra i := fun i hi => by
    obtain ⟨g, n, b', q1, q2, -⟩ := h6 i hi
    exact ⟨fun q => (by rw [← q, h2] at q1; cases q1), fun q => (by rw [← q, h2] at q2; simp at q2)⟩
  have kp : ∀ i, i < 24 → w i ≠ pa ∧ ra i ≠ pa := fun i hi => by
    obtain ⟨g, n, b', q1, q2, -⟩ := h6 i hi
    exact ⟨prc_ne h5 q1, prc_neA h5 q2⟩
  have kwr : ∀ i j, i < 24 → j < 24 → w i ≠ ra j := fun i j hi hj => by
    obtain ⟨g, n, b', q1, q2, -⟩ := h6 i hi
    obtain ⟨g', n', b'', q3, q4, -⟩ := h6 j hj
    exact wh_ne q1 q4
  have dpa : d ≠ pa := fun q => by rw [q, h5] at h1; simp at h1
  have spa : sl ≠ pa := fun q => by rw [q, h5] at h2; cases h2
  have hlow : ∀ i, i < 21 → Rp (kA 0) f1 (w i) (ra i) (Y i) := fun i hi => by
    obtain ⟨g, n, b', q1, q2, q3⟩ := h6 i (by omega)
    have n1 := h7 i 21 (by omega) (by omega) (by omega)
    have n2 := h7 i 22 (by omega) (by omega) (by omega)
    have n3 := h7 i 23 (by omega) (by omega) (by omega)
    exact ⟨g, n, b', by rw [hall (w i) ⟨(kp i (by omega)).1, n1.1, kwr i 21 (by omega) (by omega), n2.1, kwr i 22 (by omega) (by omega), n3.1, kwr i 23 (by omega) (by omega)⟩]; exact q1, by rw [hall (ra i) ⟨(kp i (by omega)).2, Ne.symm (kwr 21 i (by omega) (by omega)), n1.2, Ne.symm (kwr 22 i (by omega) (by omega)), n2.2, Ne.symm (kwr 23 i (by omega) (by omega)), n3.2⟩]; exact q2, q3⟩
  have hd1 : f1 d = some (dkc sl (w 16) (w 17) (w 18) (w 19) (w 20) pa) := by rw [hall d ⟨dpa, (kd 21 (by omega)).1, (kd 21 (by omega)).2, (kd 22 (by omega)).1, (kd 22 (by omega)).2, (kd 23 (by omega)).1, (kd 23 (by omega)).2⟩]; exact h1
  have hs1 : f1 sl = some (mw_qr (kA 1) 16 gs) := by rw [hall sl ⟨spa, (ks 21 (by omega)).1, (ks 21 (by omega)).2, (ks 22 (by omega)).1, (ks 22 (by omega)).2, (ks 23 (by omega)).1, (ks 23 (by omega)).2⟩]; exact h2
  have hoff : ∀ k, ¬ dks d sl pa w ra k → f1 k = f k := fun k hk => hall k ⟨fun q => hk (Or.inr (Or.inr (Or.inl q))), (dks_w hk (show 21 < 24 by omega)).1, (dks_w hk (show 21 < 24 by omega)).2, (dks_w hk (show 22 < 24 by omega)).1, (dks_w hk (show 22 < 24 by omega)).2, (dks_w hk (show 23 < 24 by omega)).1, (dks_w hk (show 23 < 24 by omega)).2⟩
  rcases hs with ⟨rfl, rfl, rfl, rfl⟩ | ⟨rfl, rfl, rfl, rfl⟩
  · refine ⟨22, fun i => if i < 21 then Y i else if i = 21 then vu else if i = 22 then G else vf, Or.inl rfl, hr, ⟨hd1, ⟨gs, hs1, h3⟩, ⟨_, _, _, _, a, b, c, e, Or.inl ⟨rfl, rfl, rfl, rfl⟩, hq⟩, fun i hi => ?_, h7⟩, by simp, fun i hi => by simp [hi], hoff⟩
    rcases Nat.lt_or_ge i 21 with q | q
    · simp only [q, if_true]; exact hlow i q
    · rcases (show i = 21 ∨ i = 22 ∨ i = 23 by omega) with rfl | rfl | rfl
      · exact hu
      · exact hm
      · exact hf
  · refine ⟨23, fun i => if i < 21 then Y i else if i = 21 then vu else if i = 22 then vf else G, Or.inr rfl, hr, ⟨hd1, ⟨gs, hs1, h3⟩, ⟨_, _, _, _, a, b, c, e, Or.inr ⟨rfl, rfl, rfl, rfl⟩, hq⟩, fun i hi => ?_, h7⟩, by simp, fun i hi => by simp [hi], hoff⟩
    rcases Nat.lt_or_ge i 21 with q | q
    · simp only [q, if_true]; exact hlow i q
    · rcases (show i = 21 ∨ i = 22 ∨ i = 23 by omega) with rfl | rfl | rfl
      · exact hu
      · exact hf
      · exact hm
end
section
abbrev rm_X2_divideSlots : Room := { frames := 3, cells := 0, slots := 0, locals := 85 }
set_option maxHeartbeats 4000000 in
set_option maxRecDepth 100000 in
/-- divideSlots -/
theorem t_X2_divideSlots (l : Launch) (D : va_G) (kA : Nat → ClassId) (sz : Nat) (f0 : mw_M) {d sl pa : Nat} {w ra : Nat → Nat} {Y : Nat → Int} {a b : Int} (hD : DK kA f0 d sl pa w ra Y) (hB : ∀ i, i < 16 → ((Y i).natAbs : Int) < 1000000 ^ 50) (ha : -2147483648 ≤ a ∧ a ≤ 2147483647) (hb : -2147483648 ≤ b ∧ b ≤ 2147483647) : mw_Mi l yX2_divideSlots (Cond.code yX2_divideSlots cX2_divideSlots 3 ((some .boolean)) :: gw) rm_X2_divideSlots D vwCl (tyL kA) st_S [.ref d, .int (iI (a)), .int (iI (b))] f0 sz (fun v f => v = iI (if sOk a ∧ sOk b ∧ Y b.toNat ≠ 0 then 1 else 0) ∧ (∃ Y', DK kA f d sl pa w ra Y' ∧ (∀ i, i < 16 → Y' i = Y i) ∧ (sOk a ∧ sOk b ∧ Y b.toNat ≠ 0 → Y' 16 = (Y a.toNat).tmod (Y b.toNat) ∧ Y' 20 = (Y a.toNat).tdiv (Y b.toNat))) ∧ ∀ k, ¬ dks d sl pa w ra k → f k = f0 k) 0 0 := by
  refine mw_ofi (cc := cX2_divideSlots) (maxL := 3) (ret := (some .boolean)) (by decide) rfl (Nat.le_of_ble_eq_true rfl) ?_
  intro p e s m below meth c A ls Q hQ B hrt hnm hA hI hSt hl
  have hl : lv_has ls 3 [(0, .ref d), (1, .int (iI (a))), (2, .int (iI (b)))] := hl
  obtain ⟨f, hI, hf⟩ : ∃ f, mw_I D vwCl A s s.heap [] f ∧ f = f0 := ⟨f0, hI, rfl⟩
  rw [← hf] at hD
  have ho : ∀ k, ¬ dks d sl pa w ra k → f k = f0 k := fun k _ => by rw [hf]
  have hsl : ∀ i, i < 16 → Y i = Y i := fun _ _ => rfl
  refine mv_iload_n B dX2_divideSlots_0 rfl (lv_at hl 1 rfl) ?_
  refine mv_iload_n B dX2_divideSlots_1 rfl (lv_at hl 2 rfl) ?_
  refine mw_calli hI hA (va_runS (As := [.int (iI (a)), .int (iI (b))]) (rest := []) B.fix (t_X2_areSlots l D kA s.heap.size f ha hb) (cwS 2 B.2.2.2.2.1 (gS kw_164 kw_165 kw_1 kw_166) rfl rfl rfl (by decide +kernel) ⟨Nat.le_of_ble_eq_true rfl, Nat.le_of_ble_eq_true rfl⟩) ⟨mw_blind st_S.blind, mw_pre B hI (hSt.call hI hA)⟩ rfl rfl hl.1 rfl (lv_room (Nat.le_of_ble_eq_true rfl)) dX2_divideSlots_2 ⟨Nat.le_of_ble_eq_true rfl, Nat.le_of_ble_eq_true rfl⟩) (fun r f H locs hp hI2 => ?_)
  clear hI
  have hI := hI2
  clear hI2
  obtain ⟨rfl, rfl⟩ := hp
  refine mv_if_eq (tgt := 20) B dX2_divideSlots_5 (by decide) (by split <;> omega) (fun hc => ?_) (fun hc => ?_)
  · have h1 : ¬ (sOk a ∧ sOk b) := fun q => by rw [if_pos q] at hc; exact absurd hc (by decide)
    refine mv_iconst B dX2_divideSlots_20 ?_
    exact mw_zret B hQ hrt (by decide) hI ⟨by rw [if_neg (fun q => h1 ⟨q.1, q.2.1⟩)], ⟨_, hD, hsl, fun q => absurd q (fun q => h1 ⟨q.1, q.2.1⟩)⟩, ho⟩ dX2_divideSlots_21
  · have h1 : sOk a ∧ sOk b := by
      by_cases q : sOk a ∧ sOk b
      · exact q
      · rw [if_neg q] at hc; exact absurd rfl hc
    refine mv_aload_n B dX2_divideSlots_8 rfl (lv_at hl 0 rfl) ?_
    refine mw_get (C := RX2) (T := TX2) (N := 7) B hI hD.1 uin_X2 rfl 0 (by decide) kw_68 rfl dX2_divideSlots_9 ?_
    refine mv_iload_n B dX2_divideSlots_12 rfl (lv_at hl 2 rfl) ?_
    obtain ⟨gs, hs1, hs2⟩ := hD.2.1
    refine mw_aald B hI 1 hs1 rfl (b.toNat) (by omega) (by omega) (by decide) (hs2 _ (by omega)) dX2_divideSlots_13 ?_
    obtain ⟨g, n, b_, c1, c2, c3_⟩ := id (hD.rp (i := b.toNat) (by omega))
    have m1 := c3_.1
    have hz0 := c3_.zero
    refine mw_calli hI hA (va_runV (As := []) (rest := []) B.fix (t_X1_isZero l D kA H.size f c1 (by omega)) (cwV 0 B.2.2.2.2.1 (gV kw_191 kw_192 kw_193 kw_2 kw_194) rfl rfl rfl (by decide +kernel) ⟨Nat.le_of_ble_eq_true rfl, Nat.le_of_ble_eq_true rfl⟩) ⟨mw_blind st_S.blind, mw_recv B hI c1 rfl, mw_pre B hI (hSt.call hI hA)⟩ rfl rfl hl.1 rfl (lv_room (Nat.le_of_ble_eq_true rfl)) dX2_divideSlots_14 ⟨Nat.le_of_ble_eq_true rfl, Nat.le_of_ble_eq_true rfl⟩) (fun r f H locs hp hI2 => ?_)
    clear hI
    have hI := hI2
    clear hI2
    obtain ⟨rfl, rfl⟩ := hp
    refine mv_if_eq (tgt := 22) B dX2_divideSlots_17 (by decide) (by split <;> omega) (fun hc2 => ?_) (fun hc2 => ?_)
    · have hnz : Y b.toNat ≠ 0 := fun q => by rw [if_pos (by have := hz0.mp q; omega)] at hc2; exact absurd hc2 (by decide)
      have ba := hB a.toNat (by omega)
      have b5 := b50
      refine mv_aload_n B dX2_divideSlots_22 rfl (lv_at hl 0 rfl) ?_
      refine mw_get (C := RX2) (T := TX2) (N := 7) B hI hD.1 uin_X2 rfl 1 (by decide) kw_69 rfl dX2_divideSlots_23 ?_
      refine mv_aload_n B dX2_divideSlots_26 rfl (lv_at hl 0 rfl) ?_
      refine mw_get (C := RX2) (T := TX2) (N := 7) B hI hD.1 uin_X2 rfl 0 (by decide) kw_68 rfl dX2_divideSlots_27 ?_
      refine mv_iload_n B dX2_divideSlots_30 rfl (lv_at hl 1 rfl) ?_
      obtain ⟨gs, hs1, hs2⟩ := hD.2.1
      refine mw_aald B hI 1 hs1 rfl (a.toNat) (by omega) (by omega) (by decide) (hs2 _ (by omega)) dX2_divideSlots_31 ?_
      obtain ⟨_, _, _, cc, -, -⟩ := id (hD.rp (i := 16) (by omega))
      refine mw_callv hI hA (va_runV (As := [.ref ((w (a.toNat)))]) (rest := []) B.fix (t_X1_take l D kA H.size f (hD.rp (i := 16) (by omega)).w (hD.rp (i := a.toNat) (by omega)) (Or.inr (hD.ne (i := a.toNat) (j := 16) (by omega) (by omega) (by omega)))) (cwV 1 B.2.2.2.2.1 (gV kw_153 kw_154 kw_155 kw_2 kw_156) rfl rfl rfl (by decide +kernel) ⟨Nat.le_of_ble_eq_true rfl, Nat.le_of_ble_eq_true rfl⟩) ⟨mw_blind st_S.blind, mw_recv B hI cc rfl, mw_pre B hI (hSt.call hI hA)⟩ rfl rfl hl.1 rfl (lv_room (Nat.le_of_ble_eq_true rfl)) dX2_divideSlots_32 ⟨Nat.le_of_ble_eq_true rfl, Nat.le_of_ble_eq_true rfl⟩) (fun f H locs hp hI2 => ?_)
      clear hI
      have hI := hI2
      clear hI2
      obtain ⟨hR, o1⟩ := hp
      have ho : ∀ k, ¬ dks d sl pa w ra k → f k = f0 k := fun k h => (o1 k (dks_w h (show 16 < 24 by omega)).1 (dks_w h (show 16 < 24 by omega)).2).trans (ho k h)
      obtain ⟨Y1, hY1, hD⟩ : ∃ Z, Z = upI Y (16) (Y (a.toNat)) ∧ DK kA f d sl pa w ra Z := ⟨_, rfl, hD.upd (t := 16) (by omega) hR o1⟩
      have v1 : Y1 (16) = Y (a.toNat) := by rw [hY1, upI_self]
      have r1 : ∀ i, i ≠ 16 → Y1 i = Y i := fun i hi => by rw [hY1, upI_ne _ _ hi]
      have hsl : ∀ i, i < 16 → Y1 i = Y i := fun i hi => (r1 i (by omega)).trans (hsl i hi)
      refine mv_aload_n B dX2_divideSlots_35 rfl (lv_at hl 0 rfl) ?_
      refine mw_get (C := RX2) (T := TX2) (N := 7) B hI hD.1 uin_X2 rfl 1 (by decide) kw_69 rfl dX2_divideSlots_36 ?_
      refine mv_aload_n B dX2_divideSlots_39 rfl (lv_at hl 0 rfl) ?_
      refine mw_get (C := RX2) (T := TX2) (N := 7) B hI hD.1 uin_X2 rfl 0 (by decide) kw_68 rfl dX2_divideSlots_40 ?_
      refine mv_iload_n B dX2_divideSlots_43 rfl (lv_at hl 2 rfl) ?_
      obtain ⟨gs, hs1, hs2⟩ := hD.2.1
      refine mw_aald B hI 1 hs1 rfl (b.toNat) (by omega) (by omega) (by decide) (hs2 _ (by omega)) dX2_divideSlots_44 ?_
      refine mv_aload_n B dX2_divideSlots_45 rfl (lv_at hl 0 rfl) ?_
      refine mw_get (C := RX2) (T := TX2) (N := 7) B hI hD.1 uin_X2 rfl 5 (by decide) kw_73 rfl dX2_divideSlots_46 ?_
      obtain ⟨_, _, _, cc, -, -⟩ := id (hD.rp (i := 16) (by omega))
      refine mw_callv hI hA (va_runV (As := [.ref ((w (b.toNat))), .ref ((w 20))]) (rest := []) B.fix (t_X1_divideBy l D kA H.size f (hD.rp (i := 16) (by omega)) (hD.rp (i := b.toNat) (by omega)) (hD.rp (i := 20) (by omega)).w (hD.ne (i := b.toNat) (j := 16) (by omega) (by omega) (by omega)).1 (hD.ne (i := b.toNat) (j := 16) (by omega) (by omega) (by omega)).2 (hD.ne (i := 20) (j := 16) (by omega) (by omega) (by omega)).1 (hD.ne (i := 20) (j := 16) (by omega) (by omega) (by omega)).2 (hD.ne (i := 20) (j := b.toNat) (by omega) (by omega) (by omega)).1 (hD.ne (i := 20) (j := b.toNat) (by omega) (by omega) (by omega)).2 (by rw [hsl _ (by omega)]; exact hnz) (by rw [v1]; omega)) (cwV 2 B.2.2.2.2.1 (gV kw_195 kw_196 kw_197 kw_2 kw_198) rfl rfl rfl (by decide +kernel) ⟨Nat.le_of_ble_eq_true rfl, Nat.le_of_ble_eq_true rfl⟩) ⟨mw_blind st_S.blind, mw_recv B hI cc rfl, mw_pre B hI (hSt.call hI hA)⟩ rfl rfl hl.1 rfl (lv_room (Nat.le_of_ble_eq_true rfl)) dX2_divideSlots_49 ⟨Nat.le_of_ble_eq_true rfl, Nat.le_of_ble_eq_true rfl⟩) (fun f H locs hp hI2 => ?_)
      clear hI
      have hI := hI2
      clear hI2
      obtain ⟨hR, hR2, o1⟩ := hp
      have ho : ∀ k, ¬ dks d sl pa w ra k → f k = f0 k := fun k h => (o1 k (dks_w h (show 16 < 24 by omega)).1 (dks_w h (show 16 < 24 by omega)).2 (dks_w h (show 20 < 24 by omega)).1 (dks_w h (show 20 < 24 by omega)).2).trans (ho k h)
      obtain ⟨Y2, hY2, hD⟩ : ∃ Z, Z = upI (upI Y1 (16) ((Y1 (16)).tmod (Y1 (b.toNat)))) (20) ((Y1 (16)).tdiv (Y1 (b.toNat))) ∧ DK kA f d sl pa w ra Z := ⟨_, rfl, hD.upd2 (t := 16) (u := 20) (by omega) (by omega) (by omega) hR hR2 o1⟩
      have v2 : Y2 (16) = (Y1 (16)).tmod (Y1 (b.toNat)) := by rw [hY2, upI_ne _ _ (by omega), upI_self]
      have u2 : Y2 (20) = (Y1 (16)).tdiv (Y1 (b.toNat)) := by rw [hY2, upI_self]
      have r2 : ∀ i, i ≠ 16 → i ≠ 20 → Y2 i = Y1 i := fun i hi hj => by rw [hY2, upI_ne _ _ hj, upI_ne _ _ hi]
      have hsl : ∀ i, i < 16 → Y2 i = Y i := fun i hi => (r2 i (by omega) (by omega)).trans (hsl i hi)
      have e1 : Y1 b.toNat = Y b.toNat := r1 _ (by omega)
      rw [v1, e1] at v2 u2
      refine mv_iconst B dX2_divideSlots_52 ?_
      exact mw_zret B hQ hrt (by decide) hI ⟨by rw [if_pos ⟨h1.1, h1.2, hnz⟩], ⟨_, hD, hsl, fun _ => ⟨v2, u2⟩⟩, ho⟩ dX2_divideSlots_53
    · have hzz : Y b.toNat = 0 := by
        by_cases q : (n : Int) = 0
        · exact hz0.mpr (by omega)
        · rw [if_neg q] at hc2; exact absurd rfl hc2
      refine mv_iconst B dX2_divideSlots_20 ?_
      exact mw_zret B hQ hrt (by decide) hI ⟨by rw [if_neg (fun q => q.2.2 hzz)], ⟨_, hD, hsl, fun q => absurd q (fun q => q.2.2 hzz)⟩, ho⟩ dX2_divideSlots_21
abbrev rm_X2_over : Room := { frames := 4, cells := 0, slots := 0, locals := 107 }
set_option maxHeartbeats 4000000 in
set_option maxRecDepth 100000 in
/-- over -/
theorem t_X2_over (l : Launch) (D : va_G) (kA : Nat → ClassId) (sz : Nat) (f0 : mw_M) {d sl pa : Nat} {w ra : Nat → Nat} {Y : Nat → Int} {a b t : Int} (hD : DK kA f0 d sl pa w ra Y) (hB : ∀ i, i < 16 → ((Y i).natAbs : Int) < 1000000 ^ 50) (ha : -2147483648 ≤ a ∧ a ≤ 2147483647) (hb : -2147483648 ≤ b ∧ b ≤ 2147483647) (ht : -2147483648 ≤ t ∧ t ≤ 2147483647) : mw_Mi l yX2_over (Cond.code yX2_over cX2_over 4 ((some .int)) :: gw) rm_X2_over D vwCl (tyL kA) st_S [.ref d, .int (iI (a)), .int (iI (b)), .int (iI (t))] f0 sz (fun v f => v = iI (sp_over Y a b t).1 ∧ (∃ Y', DK kA f d sl pa w ra Y' ∧ ∀ i, i < 16 → Y' i = (sp_over Y a b t).2 i) ∧ ∀ k, ¬ dks d sl pa w ra k → f k = f0 k) 0 0 := by
  refine mw_ofi (cc := cX2_over) (maxL := 4) (ret := (some .int)) (by decide) rfl (Nat.le_of_ble_eq_true rfl) ?_
  intro p e s m below meth c A ls Q hQ B hrt hnm hA hI hSt hl
  have hl : lv_has ls 4 [(0, .ref d), (1, .int (iI (a))), (2, .int (iI (b))), (3, .int (iI (t)))] := hl
  obtain ⟨f, hI, hf⟩ : ∃ f, mw_I D vwCl A s s.heap [] f ∧ f = f0 := ⟨f0, hI, rfl⟩
  rw [← hf] at hD
  have ho : ∀ k, ¬ dks d sl pa w ra k → f k = f0 k := fun k _ => by rw [hf]
  have hsl : ∀ i, i < 16 → Y i = Y i := fun _ _ => rfl
  refine mv_iload_n B dX2_over_0 rfl (lv_at hl 3 rfl) ?_
  refine mw_calli hI hA (va_runS (As := [.int (iI (t))]) (rest := []) B.fix (t_X2_isSlot l D kA s.heap.size f ht) (cwS 1 B.2.2.2.2.1 (gS kw_94 kw_95 kw_1 kw_96) rfl rfl rfl (by decide +kernel) ⟨Nat.le_of_ble_eq_true rfl, Nat.le_of_ble_eq_true rfl⟩) ⟨mw_blind st_S.blind, mw_pre B hI (hSt.call hI hA)⟩ rfl rfl hl.1 rfl (lv_room (Nat.le_of_ble_eq_true rfl)) dX2_over_1 ⟨Nat.le_of_ble_eq_true rfl, Nat.le_of_ble_eq_true rfl⟩) (fun r f H locs hp hI2 => ?_)
  clear hI
  have hI := hI2
  clear hI2
  obtain ⟨rfl, rfl⟩ := hp
  refine mv_if_eq (tgt := 16) B dX2_over_4 (by decide) (by split <;> omega) (fun hc => ?_) (fun hc => ?_)
  · have h1 : ¬ (sOk t) := fun q => by rw [if_pos q] at hc; exact absurd hc (by decide)
    refine mv_iconst B dX2_over_16 ?_
    have e9 : sp_over Y a b t = (-1, Y) := by unfold sp_over; rw [if_neg (fun q => h1 q.2.2.1)]
    exact mw_iret B hQ hrt hI ⟨by rw [e9], ⟨_, hD, fun i hi => (hsl i hi).trans (by rw [e9])⟩, ho⟩ dX2_over_17
  · have h1 : sOk t := by
      by_cases q : sOk t
      · exact q
      · rw [if_neg q] at hc; exact absurd rfl hc
    refine mv_aload_n B dX2_over_7 rfl (lv_at hl 0 rfl) ?_
    refine mv_iload_n B dX2_over_8 rfl (lv_at hl 1 rfl) ?_
    refine mv_iload_n B dX2_over_9 rfl (lv_at hl 2 rfl) ?_
    refine mw_calli hI hA (va_runV (As := [.int (iI (a)), .int (iI (b))]) (rest := []) B.fix (t_X2_divideSlots l D kA H.size f hD hB ha hb) (cwV 2 B.2.2.2.2.1 (gV kw_187 kw_189 ks_4 kw_1 kw_190) rfl rfl rfl (by decide +kernel) ⟨Nat.le_of_ble_eq_true rfl, Nat.le_of_ble_eq_true rfl⟩) ⟨mw_blind st_S.blind, mw_recv B hI hD.1 rfl, mw_pre B hI (hSt.call hI hA)⟩ rfl rfl hl.1 rfl (lv_room (Nat.le_of_ble_eq_true rfl)) dX2_over_10 ⟨Nat.le_of_ble_eq_true rfl, Nat.le_of_ble_eq_true rfl⟩) (fun r f H locs hp hI2 => ?_)
    clear hI
    have hI := hI2
    clear hI2
    obtain ⟨rfl, ⟨Y1, hD, hsl, hv⟩, o1⟩ := hp
    have ho : ∀ k, ¬ dks d sl pa w ra k → f k = f0 k := fun k h => (o1 k h).trans (ho k h)
    refine mv_if_ne (tgt := 18) B dX2_over_13 (by decide) (by split <;> omega) (fun hc2 => ?_) (fun hc2 => ?_)
    · have h2 : sOk a ∧ sOk b ∧ Y b.toNat ≠ 0 := by
        by_cases q : sOk a ∧ sOk b ∧ Y b.toNat ≠ 0
        · exact q
        · rw [if_neg q] at hc2; exact absurd rfl hc2
      have hv := hv h2
      refine mv_aload_n B dX2_over_18 rfl (lv_at hl 0 rfl) ?_
      refine mv_aload_n B dX2_over_19 rfl (lv_at hl 0 rfl) ?_
      refine mw_get (C := RX2) (T := TX2) (N := 7) B hI hD.1 uin_X2 rfl 5 (by decide) kw_73 rfl dX2_over_20 ?_
      refine mv_iload_n B dX2_over_23 rfl (lv_at hl 3 rfl) ?_
      refine mw_calli hI hA (va_runV (As := [.ref ((w 20)), .int (iI (t))]) (rest := []) B.fix (t_X2_keep l D kA H.size f (t := 20) hD (fun i hi => by rw [hsl i hi]; exact hB i hi) (by omega) h1) (cwV 2 B.2.2.2.2.1 (gV kw_145 kw_147 ks_2 kw_1 kw_148) rfl rfl rfl (by decide +kernel) ⟨Nat.le_of_ble_eq_true rfl, Nat.le_of_ble_eq_true rfl⟩) ⟨mw_blind st_S.blind, mw_recv B hI hD.1 rfl, mw_pre B hI (hSt.call hI hA)⟩ rfl rfl hl.1 rfl (lv_room (Nat.le_of_ble_eq_true rfl)) dX2_over_24 ⟨Nat.le_of_ble_eq_true rfl, Nat.le_of_ble_eq_true rfl⟩) (fun r f H locs hp hI2 => ?_)
      clear hI
      have hI := hI2
      clear hI2
      obtain ⟨rfl, hD, o1⟩ := hp
      have ho : ∀ k, ¬ dks d sl pa w ra k → f k = f0 k := fun k h => (o1 k h).trans (ho k h)
      have e9 : sp_over Y a b t = kp Y (t) ((Y a.toNat).tdiv (Y b.toNat)) := by unfold sp_over; rw [if_pos ⟨h2.1, h2.2.1, h1, h2.2.2⟩]
      have e7 : Y1 (20) = (Y a.toNat).tdiv (Y b.toNat) := by exact hv.2
      have e8 := kp_same (x := t) e7 hsl
      exact mw_iret B hQ hrt hI ⟨(congrArg iI e8.1).trans (by rw [e9]), ⟨_, hD, fun i hi => (e8.2 i hi).trans (by rw [e9])⟩, ho⟩ dX2_over_27
    · have h2 : ¬ (sOk a ∧ sOk b ∧ Y b.toNat ≠ 0) := fun q => by rw [if_pos q] at hc2; exact absurd hc2 (by decide)
      refine mv_iconst B dX2_over_16 ?_
      have e9 : sp_over Y a b t = (-1, Y) := by unfold sp_over; rw [if_neg (fun q => h2 ⟨q.1, q.2.1, q.2.2.2⟩)]
      exact mw_iret B hQ hrt hI ⟨by rw [e9], ⟨_, hD, fun i hi => (hsl i hi).trans (by rw [e9])⟩, ho⟩ dX2_over_17
abbrev rm_X2_left : Room := { frames := 4, cells := 0, slots := 0, locals := 107 }
set_option maxHeartbeats 4000000 in
set_option maxRecDepth 100000 in
/-- left -/
theorem t_X2_left (l : Launch) (D : va_G) (kA : Nat → ClassId) (sz : Nat) (f0 : mw_M) {d sl pa : Nat} {w ra : Nat → Nat} {Y : Nat → Int} {a b t : Int} (hD : DK kA f0 d sl pa w ra Y) (hB : ∀ i, i < 16 → ((Y i).natAbs : Int) < 1000000 ^ 50) (ha : -2147483648 ≤ a ∧ a ≤ 2147483647) (hb : -2147483648 ≤ b ∧ b ≤ 2147483647) (ht : -2147483648 ≤ t ∧ t ≤ 2147483647) : mw_Mi l yX2_left (Cond.code yX2_left cX2_left 4 ((some .int)) :: gw) rm_X2_left D vwCl (tyL kA) st_S [.ref d, .int (iI (a)), .int (iI (b)), .int (iI (t))] f0 sz (fun v f => v = iI (sp_left Y a b t).1 ∧ (∃ Y', DK kA f d sl pa w ra Y' ∧ ∀ i, i < 16 → Y' i = (sp_left Y a b t).2 i) ∧ ∀ k, ¬ dks d sl pa w ra k → f k = f0 k) 0 0 := by
  refine mw_ofi (cc := cX2_left) (maxL := 4) (ret := (some .int)) (by decide) rfl (Nat.le_of_ble_eq_true rfl) ?_
  intro p e s m below meth c A ls Q hQ B hrt hnm hA hI hSt hl
  have hl : lv_has ls 4 [(0, .ref d), (1, .int (iI (a))), (2, .int (iI (b))), (3, .int (iI (t)))] := hl
  obtain ⟨f, hI, hf⟩ : ∃ f, mw_I D vwCl A s s.heap [] f ∧ f = f0 := ⟨f0, hI, rfl⟩
  rw [← hf] at hD
  have ho : ∀ k, ¬ dks d sl pa w ra k → f k = f0 k := fun k _ => by rw [hf]
  have hsl : ∀ i, i < 16 → Y i = Y i := fun _ _ => rfl
  refine mv_iload_n B dX2_left_0 rfl (lv_at hl 3 rfl) ?_
  refine mw_calli hI hA (va_runS (As := [.int (iI (t))]) (rest := []) B.fix (t_X2_isSlot l D kA s.heap.size f ht) (cwS 1 B.2.2.2.2.1 (gS kw_94 kw_95 kw_1 kw_96) rfl rfl rfl (by decide +kernel) ⟨Nat.le_of_ble_eq_true rfl, Nat.le_of_ble_eq_true rfl⟩) ⟨mw_blind st_S.blind, mw_pre B hI (hSt.call hI hA)⟩ rfl rfl hl.1 rfl (lv_room (Nat.le_of_ble_eq_true rfl)) dX2_left_1 ⟨Nat.le_of_ble_eq_true rfl, Nat.le_of_ble_eq_true rfl⟩) (fun r f H locs hp hI2 => ?_)
  clear hI
  have hI := hI2
  clear hI2
  obtain ⟨rfl, rfl⟩ := hp
  refine mv_if_eq (tgt := 16) B dX2_left_4 (by decide) (by split <;> omega) (fun hc => ?_) (fun hc => ?_)
  · have h1 : ¬ (sOk t) := fun q => by rw [if_pos q] at hc; exact absurd hc (by decide)
    refine mv_iconst B dX2_left_16 ?_
    have e9 : sp_left Y a b t = (-1, Y) := by unfold sp_left; rw [if_neg (fun q => h1 q.2.2.1)]
    exact mw_iret B hQ hrt hI ⟨by rw [e9], ⟨_, hD, fun i hi => (hsl i hi).trans (by rw [e9])⟩, ho⟩ dX2_left_17
  · have h1 : sOk t := by
      by_cases q : sOk t
      · exact q
      · rw [if_neg q] at hc; exact absurd rfl hc
    refine mv_aload_n B dX2_left_7 rfl (lv_at hl 0 rfl) ?_
    refine mv_iload_n B dX2_left_8 rfl (lv_at hl 1 rfl) ?_
    refine mv_iload_n B dX2_left_9 rfl (lv_at hl 2 rfl) ?_
    refine mw_calli hI hA (va_runV (As := [.int (iI (a)), .int (iI (b))]) (rest := []) B.fix (t_X2_divideSlots l D kA H.size f hD hB ha hb) (cwV 2 B.2.2.2.2.1 (gV kw_187 kw_189 ks_4 kw_1 kw_190) rfl rfl rfl (by decide +kernel) ⟨Nat.le_of_ble_eq_true rfl, Nat.le_of_ble_eq_true rfl⟩) ⟨mw_blind st_S.blind, mw_recv B hI hD.1 rfl, mw_pre B hI (hSt.call hI hA)⟩ rfl rfl hl.1 rfl (lv_room (Nat.le_of_ble_eq_true rfl)) dX2_left_10 ⟨Nat.le_of_ble_eq_true rfl, Nat.le_of_ble_eq_true rfl⟩) (fun r f H locs hp hI2 => ?_)
    clear hI
    have hI := hI2
    clear hI2
    obtain ⟨rfl, ⟨Y1, hD, hsl, hv⟩, o1⟩ := hp
    have ho : ∀ k, ¬ dks d sl pa w ra k → f k = f0 k := fun k h => (o1 k h).trans (ho k h)
    refine mv_if_ne (tgt := 18) B dX2_left_13 (by decide) (by split <;> omega) (fun hc2 => ?_) (fun hc2 => ?_)
    · have h2 : sOk a ∧ sOk b ∧ Y b.toNat ≠ 0 := by
        by_cases q : sOk a ∧ sOk b ∧ Y b.toNat ≠ 0
        · exact q
        · rw [if_neg q] at hc2; exact absurd rfl hc2
      have hv := hv h2
      refine mv_aload_n B dX2_left_18 rfl (lv_at hl 0 rfl) ?_
      refine mv_aload_n B dX2_left_19 rfl (lv_at hl 0 rfl) ?_
      refine mw_get (C := RX2) (T := TX2) (N := 7) B hI hD.1 uin_X2 rfl 1 (by decide) kw_69 rfl dX2_left_20 ?_
      refine mv_iload_n B dX2_left_23 rfl (lv_at hl 3 rfl) ?_
      refine mw_calli hI hA (va_runV (As := [.ref ((w 16)), .int (iI (t))]) (rest := []) B.fix (t_X2_keep l D kA H.size f (t := 16) hD (fun i hi => by rw [hsl i hi]; exact hB i hi) (by omega) h1) (cwV 2 B.2.2.2.2.1 (gV kw_145 kw_147 ks_2 kw_1 kw_148) rfl rfl rfl (by decide +kernel) ⟨Nat.le_of_ble_eq_true rfl, Nat.le_of_ble_eq_true rfl⟩) ⟨mw_blind st_S.blind, mw_recv B hI hD.1 rfl, mw_pre B hI (hSt.call hI hA)⟩ rfl rfl hl.1 rfl (lv_room (Nat.le_of_ble_eq_true rfl)) dX2_left_24 ⟨Nat.le_of_ble_eq_true rfl, Nat.le_of_ble_eq_true rfl⟩) (fun r f H locs hp hI2 => ?_)
      clear hI
      have hI := hI2
      clear hI2
      obtain ⟨rfl, hD, o1⟩ := hp
      have ho : ∀ k, ¬ dks d sl pa w ra k → f k = f0 k := fun k h => (o1 k h).trans (ho k h)
      have e9 : sp_left Y a b t = kp Y (t) ((Y a.toNat).tmod (Y b.toNat)) := by unfold sp_left; rw [if_pos ⟨h2.1, h2.2.1, h1, h2.2.2⟩]
      have e7 : Y1 (16) = (Y a.toNat).tmod (Y b.toNat) := by exact hv.1
      have e8 := kp_same (x := t) e7 hsl
      exact mw_iret B hQ hrt hI ⟨(congrArg iI e8.1).trans (by rw [e9]), ⟨_, hD, fun i hi => (e8.2 i hi).trans (by rw [e9])⟩, ho⟩ dX2_left_27
    · have h2 : ¬ (sOk a ∧ sOk b ∧ Y b.toNat ≠ 0) := fun q => by rw [if_pos q] at hc2; exact absurd hc2 (by decide)
      refine mv_iconst B dX2_left_16 ?_
      have e9 : sp_left Y a b t = (-1, Y) := by unfold sp_left; rw [if_neg (fun q => h2 ⟨q.1, q.2.1, q.2.2.2⟩)]
      exact mw_iret B hQ hrt hI ⟨by rw [e9], ⟨_, hD, fun i hi => (hsl i hi).trans (by rw [e9])⟩, ho⟩ dX2_left_17
abbrev rm_X2_divisor : Room := { frames := 4, cells := 0, slots := 0, locals := 108 }
set_option maxHeartbeats 4000000 in
set_option maxRecDepth 100000 in
/-- divisor -/
theorem t_X2_divisor (l : Launch) (D : va_G) (kA : Nat → ClassId) (sz : Nat) (f0 : mw_M) {d sl pa : Nat} {w ra : Nat → Nat} {Y : Nat → Int} {a b t : Int} (hD : DK kA f0 d sl pa w ra Y) (hB : ∀ i, i < 16 → ((Y i).natAbs : Int) < 1000000 ^ 50) (ha : -2147483648 ≤ a ∧ a ≤ 2147483647) (hb : -2147483648 ≤ b ∧ b ≤ 2147483647) (ht : -2147483648 ≤ t ∧ t ≤ 2147483647) : mw_Mi l yX2_divisor (Cond.code yX2_divisor cX2_divisor 4 ((some .int)) :: gw) rm_X2_divisor D vwCl (tyL kA) st_S [.ref d, .int (iI (a)), .int (iI (b)), .int (iI (t))] f0 sz (fun v f => v = iI (sp_divisor Y a b t).1 ∧ (∃ Y', DK kA f d sl pa w ra Y' ∧ ∀ i, i < 16 → Y' i = (sp_divisor Y a b t).2 i) ∧ ∀ k, ¬ dks d sl pa w ra k → f k = f0 k) 0 0 := by
  refine mw_ofi (cc := cX2_divisor) (maxL := 4) (ret := (some .int)) (by decide) rfl (Nat.le_of_ble_eq_true rfl) ?_
  intro p e s m below meth c A ls Q hQ B hrt hnm hA hI hSt hl
  have hl : lv_has ls 4 [(0, .ref d), (1, .int (iI (a))), (2, .int (iI (b))), (3, .int (iI (t)))] := hl
  obtain ⟨f, hI, hf⟩ : ∃ f, mw_I D vwCl A s s.heap [] f ∧ f = f0 := ⟨f0, hI, rfl⟩
  rw [← hf] at hD
  have ho : ∀ k, ¬ dks d sl pa w ra k → f k = f0 k := fun k _ => by rw [hf]
  have hsl : ∀ i, i < 16 → Y i = Y i := fun _ _ => rfl
  refine mv_iload_n B dX2_divisor_0 rfl (lv_at hl 1 rfl) ?_
  refine mv_iload_n B dX2_divisor_1 rfl (lv_at hl 2 rfl) ?_
  refine mw_calli hI hA (va_runS (As := [.int (iI (a)), .int (iI (b))]) (rest := []) B.fix (t_X2_areSlots l D kA s.heap.size f ha hb) (cwS 2 B.2.2.2.2.1 (gS kw_164 kw_165 kw_1 kw_166) rfl rfl rfl (by decide +kernel) ⟨Nat.le_of_ble_eq_true rfl, Nat.le_of_ble_eq_true rfl⟩) ⟨mw_blind st_S.blind, mw_pre B hI (hSt.call hI hA)⟩ rfl rfl hl.1 rfl (lv_room (Nat.le_of_ble_eq_true rfl)) dX2_divisor_2 ⟨Nat.le_of_ble_eq_true rfl, Nat.le_of_ble_eq_true rfl⟩) (fun r f H locs hp hI2 => ?_)
  clear hI
  have hI := hI2
  clear hI2
  obtain ⟨rfl, rfl⟩ := hp
  refine mv_if_eq (tgt := 15) B dX2_divisor_5 (by decide) (by split <;> omega) (fun hc => ?_) (fun hc => ?_)
  · have h1 : ¬ (sOk a ∧ sOk b) := fun q => by rw [if_pos q] at hc; exact absurd hc (by decide)
    refine mv_iconst B dX2_divisor_15 ?_
    have e9 : sp_divisor Y a b t = (-1, Y) := by unfold sp_divisor; rw [if_neg (fun q => h1 ⟨q.1, q.2.1⟩)]
    exact mw_iret B hQ hrt hI ⟨by rw [e9], ⟨_, hD, fun i hi => (hsl i hi).trans (by rw [e9])⟩, ho⟩ dX2_divisor_16
  · have h1 : sOk a ∧ sOk b := by
      by_cases q : sOk a ∧ sOk b
      · exact q
      · rw [if_neg q] at hc; exact absurd rfl hc
    refine mv_iload_n B dX2_divisor_8 rfl (lv_at hl 3 rfl) ?_
    refine mw_calli hI hA (va_runS (As := [.int (iI (t))]) (rest := []) B.fix (t_X2_isSlot l D kA H.size f ht) (cwS 1 B.2.2.2.2.1 (gS kw_94 kw_95 kw_1 kw_96) rfl rfl rfl (by decide +kernel) ⟨Nat.le_of_ble_eq_true rfl, Nat.le_of_ble_eq_true rfl⟩) ⟨mw_blind st_S.blind, mw_pre B hI (hSt.call hI hA)⟩ rfl rfl hl.1 rfl (lv_room (Nat.le_of_ble_eq_true rfl)) dX2_divisor_9 ⟨Nat.le_of_ble_eq_true rfl, Nat.le_of_ble_eq_true rfl⟩) (fun r f H locs hp hI2 => ?_)
    clear hI
    have hI := hI2
    clear hI2
    obtain ⟨rfl, rfl⟩ := hp
    refine mv_if_ne (tgt := 17) B dX2_divisor_12 (by decide) (by split <;> omega) (fun hc2 => ?_) (fun hc2 => ?_)
    · have h2 : sOk t := by
        by_cases q : sOk t
        · exact q
        · rw [if_neg q] at hc2; exact absurd rfl hc2
      have ba := hB a.toNat (by omega)
      have bb := hB b.toNat (by omega)
      have b5 := b50
      refine mv_aload_n B dX2_divisor_17 rfl (lv_at hl 0 rfl) ?_
      refine mv_aload_n B dX2_divisor_18 rfl (lv_at hl 0 rfl) ?_
      refine mw_get (C := RX2) (T := TX2) (N := 7) B hI hD.1 uin_X2 rfl 6 (by decide) kw_74 rfl dX2_divisor_19 ?_
      refine mv_aload_n B dX2_divisor_22 rfl (lv_at hl 0 rfl) ?_
      refine mw_get (C := RX2) (T := TX2) (N := 7) B hI hD.1 uin_X2 rfl 0 (by decide) kw_68 rfl dX2_divisor_23 ?_
      refine mv_iload_n B dX2_divisor_26 rfl (lv_at hl 1 rfl) ?_
      obtain ⟨gs, hs1, hs2⟩ := hD.2.1
      refine mw_aald B hI 1 hs1 rfl (a.toNat) (by omega) (by omega) (by decide) (hs2 _ (by omega)) dX2_divisor_27 ?_
      refine mv_aload_n B dX2_divisor_28 rfl (lv_at hl 0 rfl) ?_
      refine mw_get (C := RX2) (T := TX2) (N := 7) B hI hD.1 uin_X2 rfl 0 (by decide) kw_68 rfl dX2_divisor_29 ?_
      refine mv_iload_n B dX2_divisor_32 rfl (lv_at hl 2 rfl) ?_
      obtain ⟨gs, hs1, hs2⟩ := hD.2.1
      refine mw_aald B hI 1 hs1 rfl (b.toNat) (by omega) (by omega) (by decide) (hs2 _ (by omega)) dX2_divisor_33 ?_
      obtain ⟨mo, rmo, fe, rfe, pa1, pa2, pa3, pa4, hsw, hpq⟩ := id hD.2.2.1
      obtain ⟨hpm, hpf, hpn⟩ := swp_rp hsw (hD.rp (i := 22) (by omega)) (hD.rp (i := 23) (by omega)) (hD.ne (i := 22) (j := 23) (by omega) (by omega) (by omega)).1 (hD.ne (i := 22) (j := 23) (by omega) (by omega) (by omega)).2 (hD.ne (i := 21) (j := 22) (by omega) (by omega) (by omega)).1 (hD.ne (i := 21) (j := 23) (by omega) (by omega) (by omega)).1 (hD.ne (i := 21) (j := 22) (by omega) (by omega) (by omega)).2 (hD.ne (i := 21) (j := 23) (by omega) (by omega) (by omega)).2
      have nxa := swp_ne hsw (hD.ne (i := a.toNat) (j := 22) (by omega) (by omega) (by omega)).1 (hD.ne (i := a.toNat) (j := 23) (by omega) (by omega) (by omega)).1 (hD.ne (i := a.toNat) (j := 22) (by omega) (by omega) (by omega)).2 (hD.ne (i := a.toNat) (j := 23) (by omega) (by omega) (by omega)).2
      have nxb := swp_ne hsw (hD.ne (i := b.toNat) (j := 22) (by omega) (by omega) (by omega)).1 (hD.ne (i := b.toNat) (j := 23) (by omega) (by omega) (by omega)).1 (hD.ne (i := b.toNat) (j := 22) (by omega) (by omega) (by omega)).2 (hD.ne (i := b.toNat) (j := 23) (by omega) (by omega) (by omega)).2
      refine mw_callr hI hA (va_runV (As := [.ref ((w (a.toNat))), .ref ((w (b.toNat)))]) (rest := [.ref d]) B.fix (t_X0_commonDivisor l D kA H.size f hpq (hD.rp (i := 21) (by omega)) hpm.choose_spec hpf.choose_spec (hD.rp (i := a.toNat) (by omega)) (hD.rp (i := b.toNat) (by omega)) hpn.1 hpn.2.1 hpn.2.2.1 hpn.2.2.2.1 hpn.2.2.2.2.1 hpn.2.2.2.2.2 nxa.1 nxa.2.1 nxa.2.2.1 nxa.2.2.2 nxb.1 nxb.2.1 nxb.2.2.1 nxb.2.2.2 (by omega) (by omega)) (cwV 2 B.2.2.2.2.1 (gV kw_224 kw_225 kw_226 kw_3 kw_227) rfl rfl rfl (by decide +kernel) ⟨Nat.le_of_ble_eq_true rfl, Nat.le_of_ble_eq_true rfl⟩) ⟨mw_blind st_S.blind, mw_recv B hI hpq rfl, mw_pre B hI (hSt.call hI hA)⟩ rfl rfl hl.1 rfl (lv_room (Nat.le_of_ble_eq_true rfl)) dX2_divisor_34 ⟨Nat.le_of_ble_eq_true rfl, Nat.le_of_ble_eq_true rfl⟩) (fun r f H locs hp hI2 => ?_)
      clear hI
      have hI := hI2
      clear hI2
      obtain ⟨u1, Y1, hu1, hu2, hD, hg1, r1, o1⟩ := hD.cd hsw hp
      subst hu2
      have ho : ∀ k, ¬ dks d sl pa w ra k → f k = f0 k := fun k h => (o1 k h).trans (ho k h)
      have hsl : ∀ i, i < 16 → Y1 i = Y i := fun i hi => (r1 i (by omega)).trans (hsl i hi)
      refine mv_iload_n B dX2_divisor_37 rfl (lv_at hl 3 rfl) ?_
      refine mw_calli hI hA (va_runV (As := [.ref ((w u1)), .int (iI (t))]) (rest := []) B.fix (t_X2_keep l D kA H.size f (t := u1) hD (fun i hi => by rw [hsl i hi]; exact hB i hi) (by omega) h2) (cwV 2 B.2.2.2.2.1 (gV kw_145 kw_147 ks_2 kw_1 kw_148) rfl rfl rfl (by decide +kernel) ⟨Nat.le_of_ble_eq_true rfl, Nat.le_of_ble_eq_true rfl⟩) ⟨mw_blind st_S.blind, mw_recv B hI hD.1 rfl, mw_pre B hI (hSt.call hI hA)⟩ rfl rfl hl.1 rfl (lv_room (Nat.le_of_ble_eq_true rfl)) dX2_divisor_38 ⟨Nat.le_of_ble_eq_true rfl, Nat.le_of_ble_eq_true rfl⟩) (fun r f H locs hp hI2 => ?_)
      clear hI
      have hI := hI2
      clear hI2
      obtain ⟨rfl, hD, o1⟩ := hp
      have ho : ∀ k, ¬ dks d sl pa w ra k → f k = f0 k := fun k h => (o1 k h).trans (ho k h)
      have e9 : sp_divisor Y a b t = kp Y (t) ((Int.gcd (Y a.toNat) (Y b.toNat) : Int)) := by unfold sp_divisor; rw [if_pos ⟨h1.1, h1.2, h2⟩]
      have e7 : Y1 (u1) = (Int.gcd (Y a.toNat) (Y b.toNat) : Int) := by exact hg1
      have e8 := kp_same (x := t) e7 hsl
      exact mw_iret B hQ hrt hI ⟨(congrArg iI e8.1).trans (by rw [e9]), ⟨_, hD, fun i hi => (e8.2 i hi).trans (by rw [e9])⟩, ho⟩ dX2_divisor_41
    · have h2 : ¬ (sOk t) := fun q => by rw [if_pos q] at hc2; exact absurd hc2 (by decide)
      refine mv_iconst B dX2_divisor_15 ?_
      have e9 : sp_divisor Y a b t = (-1, Y) := by unfold sp_divisor; rw [if_neg (fun q => h2 q.2.2)]
      exact mw_iret B hQ hrt hI ⟨by rw [e9], ⟨_, hD, fun i hi => (hsl i hi).trans (by rw [e9])⟩, ho⟩ dX2_divisor_16
abbrev rm_X2_order : Room := { frames := 2, cells := 0, slots := 0, locals := 43 }
set_option maxHeartbeats 4000000 in
set_option maxRecDepth 100000 in
/-- order -/
theorem t_X2_order (l : Launch) (D : va_G) (kA : Nat → ClassId) (sz : Nat) (f0 : mw_M) {d sl pa : Nat} {w ra : Nat → Nat} {Y : Nat → Int} {a b : Int} (hD : DK kA f0 d sl pa w ra Y) (hB : ∀ i, i < 16 → ((Y i).natAbs : Int) < 1000000 ^ 50) (ha : -2147483648 ≤ a ∧ a ≤ 2147483647) (hb : -2147483648 ≤ b ∧ b ≤ 2147483647) : mw_Mi l yX2_order (Cond.code yX2_order cX2_order 3 ((some .int)) :: gw) rm_X2_order D vwCl (tyL kA) st_S [.ref d, .int (iI (a)), .int (iI (b))] f0 sz (fun v f => v = iI (sp_order Y a b) ∧ (∃ Y', DK kA f d sl pa w ra Y' ∧ ∀ i, i < 16 → Y' i = Y i) ∧ ∀ k, ¬ dks d sl pa w ra k → f k = f0 k) 0 0 := by
  refine mw_ofi (cc := cX2_order) (maxL := 3) (ret := (some .int)) (by decide) rfl (Nat.le_of_ble_eq_true rfl) ?_
  intro p e s m below meth c A ls Q hQ B hrt hnm hA hI hSt hl
  have hl : lv_has ls 3 [(0, .ref d), (1, .int (iI (a))), (2, .int (iI (b)))] := hl
  obtain ⟨f, hI, hf⟩ : ∃ f, mw_I D vwCl A s s.heap [] f ∧ f = f0 := ⟨f0, hI, rfl⟩
  rw [← hf] at hD
  have ho : ∀ k, ¬ dks d sl pa w ra k → f k = f0 k := fun k _ => by rw [hf]
  have hsl : ∀ i, i < 16 → Y i = Y i := fun _ _ => rfl
  refine mv_iload_n B dX2_order_0 rfl (lv_at hl 1 rfl) ?_
  refine mv_iload_n B dX2_order_1 rfl (lv_at hl 2 rfl) ?_
  refine mw_calli hI hA (va_runS (As := [.int (iI (a)), .int (iI (b))]) (rest := []) B.fix (t_X2_areSlots l D kA s.heap.size f ha hb) (cwS 2 B.2.2.2.2.1 (gS kw_164 kw_165 kw_1 kw_166) rfl rfl rfl (by decide +kernel) ⟨Nat.le_of_ble_eq_true rfl, Nat.le_of_ble_eq_true rfl⟩) ⟨mw_blind st_S.blind, mw_pre B hI (hSt.call hI hA)⟩ rfl rfl hl.1 rfl (lv_room (Nat.le_of_ble_eq_true rfl)) dX2_order_2 ⟨Nat.le_of_ble_eq_true rfl, Nat.le_of_ble_eq_true rfl⟩) (fun r f H locs hp hI2 => ?_)
  clear hI
  have hI := hI2
  clear hI2
  obtain ⟨rfl, rfl⟩ := hp
  refine mv_if_ne (tgt := 10) B dX2_order_5 (by decide) (by split <;> omega) (fun hc => ?_) (fun hc => ?_)
  · have h1 : sOk a ∧ sOk b := by
      by_cases q : sOk a ∧ sOk b
      · exact q
      · rw [if_neg q] at hc; exact absurd rfl hc
    refine mv_iconst B dX2_order_10 ?_
    refine mv_aload_n B dX2_order_11 rfl (lv_at hl 0 rfl) ?_
    refine mw_get (C := RX2) (T := TX2) (N := 7) B hI hD.1 uin_X2 rfl 0 (by decide) kw_68 rfl dX2_order_12 ?_
    refine mv_iload_n B dX2_order_15 rfl (lv_at hl 1 rfl) ?_
    obtain ⟨gs, hs1, hs2⟩ := hD.2.1
    refine mw_aald B hI 1 hs1 rfl (a.toNat) (by omega) (by omega) (by decide) (hs2 _ (by omega)) dX2_order_16 ?_
    refine mv_aload_n B dX2_order_17 rfl (lv_at hl 0 rfl) ?_
    refine mw_get (C := RX2) (T := TX2) (N := 7) B hI hD.1 uin_X2 rfl 0 (by decide) kw_68 rfl dX2_order_18 ?_
    refine mv_iload_n B dX2_order_21 rfl (lv_at hl 2 rfl) ?_
    obtain ⟨gs, hs1, hs2⟩ := hD.2.1
    refine mw_aald B hI 1 hs1 rfl (b.toNat) (by omega) (by omega) (by decide) (hs2 _ (by omega)) dX2_order_22 ?_
    obtain ⟨_, _, _, cc, -, -⟩ := id (hD.rp (i := a.toNat) (by omega))
    refine mw_calli hI hA (va_runV (As := [.ref ((w (b.toNat)))]) (rest := [.int (iI (1))]) B.fix (t_X1_compareWhole l D kA H.size f (hD.rp (i := a.toNat) (by omega)) (hD.rp (i := b.toNat) (by omega))) (cwV 1 B.2.2.2.2.1 (gV kw_309 kw_310 kw_311 kw_2 kw_312) rfl rfl rfl (by decide +kernel) ⟨Nat.le_of_ble_eq_true rfl, Nat.le_of_ble_eq_true rfl⟩) ⟨mw_blind st_S.blind, mw_recv B hI cc rfl, mw_pre B hI (hSt.call hI hA)⟩ rfl rfl hl.1 rfl (lv_room (Nat.le_of_ble_eq_true rfl)) dX2_order_23 ⟨Nat.le_of_ble_eq_true rfl, Nat.le_of_ble_eq_true rfl⟩) (fun r f H locs hp hI2 => ?_)
    clear hI
    have hI := hI2
    clear hI2
    obtain ⟨rfl, rfl⟩ := hp
    refine mv_iadd B dX2_order_26 ?_
    exact mw_iret B hQ hrt hI ⟨by unfold sp_order; rw [if_pos h1], ⟨_, hD, hsl⟩, ho⟩ dX2_order_27
  · have h1 : ¬ (sOk a ∧ sOk b) := fun q => by rw [if_pos q] at hc; exact absurd hc (by decide)
    refine mv_iconst B dX2_order_8 ?_
    have e9 : sp_order Y a b = -1 := by unfold sp_order; rw [if_neg h1]
    exact mw_iret B hQ hrt hI ⟨by rw [e9], ⟨_, hD, hsl⟩, ho⟩ dX2_order_9
abbrev rm_X2_sign : Room := { frames := 1, cells := 0, slots := 0, locals := 20 }
set_option maxHeartbeats 4000000 in
set_option maxRecDepth 100000 in
/-- sign -/
theorem t_X2_sign (l : Launch) (D : va_G) (kA : Nat → ClassId) (sz : Nat) (f0 : mw_M) {d sl pa : Nat} {w ra : Nat → Nat} {Y : Nat → Int} {a : Int} (hD : DK kA f0 d sl pa w ra Y) (hB : ∀ i, i < 16 → ((Y i).natAbs : Int) < 1000000 ^ 50) (ha : -2147483648 ≤ a ∧ a ≤ 2147483647) : mw_Mi l yX2_sign (Cond.code yX2_sign cX2_sign 2 ((some .int)) :: gw) rm_X2_sign D vwCl (tyL kA) st_S [.ref d, .int (iI (a))] f0 sz (fun v f => v = iI (sp_sign Y a) ∧ (∃ Y', DK kA f d sl pa w ra Y' ∧ ∀ i, i < 16 → Y' i = Y i) ∧ ∀ k, ¬ dks d sl pa w ra k → f k = f0 k) 0 0 := by
  refine mw_ofi (cc := cX2_sign) (maxL := 2) (ret := (some .int)) (by decide) rfl (Nat.le_of_ble_eq_true rfl) ?_
  intro p e s m below meth c A ls Q hQ B hrt hnm hA hI hSt hl
  have hl : lv_has ls 2 [(0, .ref d), (1, .int (iI (a)))] := hl
  obtain ⟨f, hI, hf⟩ : ∃ f, mw_I D vwCl A s s.heap [] f ∧ f = f0 := ⟨f0, hI, rfl⟩
  rw [← hf] at hD
  have ho : ∀ k, ¬ dks d sl pa w ra k → f k = f0 k := fun k _ => by rw [hf]
  have hsl : ∀ i, i < 16 → Y i = Y i := fun _ _ => rfl
  refine mv_iload_n B dX2_sign_0 rfl (lv_at hl 1 rfl) ?_
  refine mw_calli hI hA (va_runS (As := [.int (iI (a))]) (rest := []) B.fix (t_X2_isSlot l D kA s.heap.size f ha) (cwS 1 B.2.2.2.2.1 (gS kw_94 kw_95 kw_1 kw_96) rfl rfl rfl (by decide +kernel) ⟨Nat.le_of_ble_eq_true rfl, Nat.le_of_ble_eq_true rfl⟩) ⟨mw_blind st_S.blind, mw_pre B hI (hSt.call hI hA)⟩ rfl rfl hl.1 rfl (lv_room (Nat.le_of_ble_eq_true rfl)) dX2_sign_1 ⟨Nat.le_of_ble_eq_true rfl, Nat.le_of_ble_eq_true rfl⟩) (fun r f H locs hp hI2 => ?_)
  clear hI
  have hI := hI2
  clear hI2
  obtain ⟨rfl, rfl⟩ := hp
  refine mv_if_ne (tgt := 9) B dX2_sign_4 (by decide) (by split <;> omega) (fun hc => ?_) (fun hc => ?_)
  · have h1 : sOk a := by
      by_cases q : sOk a
      · exact q
      · rw [if_neg q] at hc; exact absurd rfl hc
    have e9 : sp_sign Y a = 1 + c3 (Y a.toNat) 0 := by unfold sp_sign; rw [if_pos h1]
    refine mv_aload_n B dX2_sign_9 rfl (lv_at hl 0 rfl) ?_
    refine mw_get (C := RX2) (T := TX2) (N := 7) B hI hD.1 uin_X2 rfl 0 (by decide) kw_68 rfl dX2_sign_10 ?_
    refine mv_iload_n B dX2_sign_13 rfl (lv_at hl 1 rfl) ?_
    obtain ⟨gs, hs1, hs2⟩ := hD.2.1
    refine mw_aald B hI 1 hs1 rfl (a.toNat) (by omega) (by omega) (by decide) (hs2 _ (by omega)) dX2_sign_14 ?_
    obtain ⟨g, n, b_, c1, c2, c3_⟩ := id (hD.rp (i := a.toNat) (by omega))
    have m1 := c3_.1
    have hz0 := c3_.zero
    refine mw_calli hI hA (va_runV (As := []) (rest := []) B.fix (t_X1_isZero l D kA H.size f c1 (by omega)) (cwV 0 B.2.2.2.2.1 (gV kw_191 kw_192 kw_193 kw_2 kw_194) rfl rfl rfl (by decide +kernel) ⟨Nat.le_of_ble_eq_true rfl, Nat.le_of_ble_eq_true rfl⟩) ⟨mw_blind st_S.blind, mw_recv B hI c1 rfl, mw_pre B hI (hSt.call hI hA)⟩ rfl rfl hl.1 rfl (lv_room (Nat.le_of_ble_eq_true rfl)) dX2_sign_15 ⟨Nat.le_of_ble_eq_true rfl, Nat.le_of_ble_eq_true rfl⟩) (fun r f H locs hp hI2 => ?_)
    clear hI
    have hI := hI2
    clear hI2
    obtain ⟨rfl, rfl⟩ := hp
    have q1 := c3_.b0
    refine mv_if_eq (tgt := 23) B dX2_sign_18 (by decide) (by split <;> omega) (fun hc2 => ?_) (fun hc2 => ?_)
    · have hnz : Y a.toNat ≠ 0 := fun q => by rw [if_pos (by have := hz0.mp q; omega)] at hc2; exact absurd hc2 (by decide)
      refine mv_aload_n B dX2_sign_23 rfl (lv_at hl 0 rfl) ?_
      refine mw_get (C := RX2) (T := TX2) (N := 7) B hI hD.1 uin_X2 rfl 0 (by decide) kw_68 rfl dX2_sign_24 ?_
      refine mv_iload_n B dX2_sign_27 rfl (lv_at hl 1 rfl) ?_
      obtain ⟨gs, hs1, hs2⟩ := hD.2.1
      refine mw_aald B hI 1 hs1 rfl (a.toNat) (by omega) (by omega) (by decide) (hs2 _ (by omega)) dX2_sign_28 ?_
      refine ww_below B hI c1 uin_X1 kw_29 dX2_sign_29 ?_
      refine mv_if_eq (tgt := 39) B dX2_sign_32 (by decide) (by omega) (fun hc3 => ?_) (fun hc3 => ?_)
      · refine mv_iconst B dX2_sign_39 ?_
        exact mw_iret B hQ hrt hI ⟨by rw [e9, c3_gt (by omega)]; rfl, ⟨_, hD, hsl⟩, ho⟩ dX2_sign_40
      · refine mv_iconst B dX2_sign_35 ?_
        refine mv_goto (tgt := 40) B dX2_sign_36 (by decide) ?_
        exact mw_iret B hQ hrt hI ⟨by rw [e9, c3_lt (by omega)]; rfl, ⟨_, hD, hsl⟩, ho⟩ dX2_sign_40
    · have hzz : Y a.toNat = 0 := by
        by_cases q : (n : Int) = 0
        · exact hz0.mpr (by omega)
        · rw [if_neg q] at hc2; exact absurd rfl hc2
      refine mv_iconst B dX2_sign_21 ?_
      exact mw_iret B hQ hrt hI ⟨by rw [e9, c3_eq hzz]; rfl, ⟨_, hD, hsl⟩, ho⟩ dX2_sign_22
  · have h1 : ¬ (sOk a) := fun q => by rw [if_pos q] at hc; exact absurd hc (by decide)
    refine mv_iconst B dX2_sign_7 ?_
    have e9 : sp_sign Y a = -1 := by unfold sp_sign; rw [if_neg h1]
    exact mw_iret B hQ hrt hI ⟨by rw [e9], ⟨_, hD, hsl⟩, ho⟩ dX2_sign_8
abbrev rm_X2_digits : Room := { frames := 1, cells := 0, slots := 0, locals := 22 }
set_option maxHeartbeats 4000000 in
set_option maxRecDepth 100000 in
/-- digits -/
theorem t_X2_digits (l : Launch) (D : va_G) (kA : Nat → ClassId) (sz : Nat) (f0 : mw_M) {d sl pa : Nat} {w ra : Nat → Nat} {Y : Nat → Int} {a : Int} (hD : DK kA f0 d sl pa w ra Y) (hB : ∀ i, i < 16 → ((Y i).natAbs : Int) < 1000000 ^ 50) (ha : -2147483648 ≤ a ∧ a ≤ 2147483647) : mw_Mi l yX2_digits (Cond.code yX2_digits cX2_digits 2 ((some .int)) :: gw) rm_X2_digits D vwCl (tyL kA) st_S [.ref d, .int (iI (a))] f0 sz (fun v f => v = iI (sp_digits Y a) ∧ (∃ Y', DK kA f d sl pa w ra Y' ∧ ∀ i, i < 16 → Y' i = Y i) ∧ ∀ k, ¬ dks d sl pa w ra k → f k = f0 k) 0 0 := by
  refine mw_ofi (cc := cX2_digits) (maxL := 2) (ret := (some .int)) (by decide) rfl (Nat.le_of_ble_eq_true rfl) ?_
  intro p e s m below meth c A ls Q hQ B hrt hnm hA hI hSt hl
  have hl : lv_has ls 2 [(0, .ref d), (1, .int (iI (a)))] := hl
  obtain ⟨f, hI, hf⟩ : ∃ f, mw_I D vwCl A s s.heap [] f ∧ f = f0 := ⟨f0, hI, rfl⟩
  rw [← hf] at hD
  have ho : ∀ k, ¬ dks d sl pa w ra k → f k = f0 k := fun k _ => by rw [hf]
  have hsl : ∀ i, i < 16 → Y i = Y i := fun _ _ => rfl
  refine mv_iload_n B dX2_digits_0 rfl (lv_at hl 1 rfl) ?_
  refine mw_calli hI hA (va_runS (As := [.int (iI (a))]) (rest := []) B.fix (t_X2_isSlot l D kA s.heap.size f ha) (cwS 1 B.2.2.2.2.1 (gS kw_94 kw_95 kw_1 kw_96) rfl rfl rfl (by decide +kernel) ⟨Nat.le_of_ble_eq_true rfl, Nat.le_of_ble_eq_true rfl⟩) ⟨mw_blind st_S.blind, mw_pre B hI (hSt.call hI hA)⟩ rfl rfl hl.1 rfl (lv_room (Nat.le_of_ble_eq_true rfl)) dX2_digits_1 ⟨Nat.le_of_ble_eq_true rfl, Nat.le_of_ble_eq_true rfl⟩) (fun r f H locs hp hI2 => ?_)
  clear hI
  have hI := hI2
  clear hI2
  obtain ⟨rfl, rfl⟩ := hp
  refine mv_if_ne (tgt := 9) B dX2_digits_4 (by decide) (by split <;> omega) (fun hc => ?_) (fun hc => ?_)
  · have h1 : sOk a := by
      by_cases q : sOk a
      · exact q
      · rw [if_neg q] at hc; exact absurd rfl hc
    refine mv_aload_n B dX2_digits_9 rfl (lv_at hl 0 rfl) ?_
    refine mw_get (C := RX2) (T := TX2) (N := 7) B hI hD.1 uin_X2 rfl 0 (by decide) kw_68 rfl dX2_digits_10 ?_
    refine mv_iload_n B dX2_digits_13 rfl (lv_at hl 1 rfl) ?_
    obtain ⟨gs, hs1, hs2⟩ := hD.2.1
    refine mw_aald B hI 1 hs1 rfl (a.toNat) (by omega) (by omega) (by decide) (hs2 _ (by omega)) dX2_digits_14 ?_
    obtain ⟨_, _, _, cc, -, -⟩ := id (hD.rp (i := a.toNat) (by omega))
    refine mw_calli hI hA (va_runV (As := []) (rest := []) B.fix (t_X1_countDigits l D kA H.size f (hD.rp (i := a.toNat) (by omega))) (cwV 0 B.2.2.2.2.1 (gV kw_325 kw_326 kw_327 kw_2 kw_328) rfl rfl rfl (by decide +kernel) ⟨Nat.le_of_ble_eq_true rfl, Nat.le_of_ble_eq_true rfl⟩) ⟨mw_blind st_S.blind, mw_recv B hI cc rfl, mw_pre B hI (hSt.call hI hA)⟩ rfl rfl hl.1 rfl (lv_room (Nat.le_of_ble_eq_true rfl)) dX2_digits_15 ⟨Nat.le_of_ble_eq_true rfl, Nat.le_of_ble_eq_true rfl⟩) (fun r f H locs hp hI2 => ?_)
    clear hI
    have hI := hI2
    clear hI2
    obtain ⟨⟨k, hk1, hk2, rfl⟩, rfl⟩ := hp
    exact mw_iret B hQ hrt hI ⟨by unfold sp_digits; rw [if_pos h1, ndg_eq hk1], ⟨_, hD, hsl⟩, ho⟩ dX2_digits_18
  · have h1 : ¬ (sOk a) := fun q => by rw [if_pos q] at hc; exact absurd hc (by decide)
    refine mv_iconst B dX2_digits_7 ?_
    have e9 : sp_digits Y a = -1 := by unfold sp_digits; rw [if_neg h1]
    exact mw_iret B hQ hrt hI ⟨by rw [e9], ⟨_, hD, hsl⟩, ho⟩ dX2_digits_8
abbrev rm_X2_digitAt : Room := { frames := 2, cells := 0, slots := 0, locals := 42 }
set_option maxHeartbeats 4000000 in
set_option maxRecDepth 100000 in
/-- digitAt -/
theorem t_X2_digitAt (l : Launch) (D : va_G) (kA : Nat → ClassId) (sz : Nat) (f0 : mw_M) {d sl pa : Nat} {w ra : Nat → Nat} {Y : Nat → Int} {a i_ : Int} (hD : DK kA f0 d sl pa w ra Y) (hB : ∀ i, i < 16 → ((Y i).natAbs : Int) < 1000000 ^ 50) (ha : -2147483648 ≤ a ∧ a ≤ 2147483647) (hi_ : -2147483648 ≤ i_ ∧ i_ ≤ 2147483647) : mw_Mi l yX2_digitAt (Cond.code yX2_digitAt cX2_digitAt 3 ((some .int)) :: gw) rm_X2_digitAt D vwCl (tyL kA) st_S [.ref d, .int (iI (a)), .int (iI (i_))] f0 sz (fun v f => v = iI (sp_digitAt Y a i_) ∧ (∃ Y', DK kA f d sl pa w ra Y' ∧ ∀ i, i < 16 → Y' i = Y i) ∧ ∀ k, ¬ dks d sl pa w ra k → f k = f0 k) 0 0 := by
  refine mw_ofi (cc := cX2_digitAt) (maxL := 3) (ret := (some .int)) (by decide) rfl (Nat.le_of_ble_eq_true rfl) ?_
  intro p e s m below meth c A ls Q hQ B hrt hnm hA hI hSt hl
  have hl : lv_has ls 3 [(0, .ref d), (1, .int (iI (a))), (2, .int (iI (i_)))] := hl
  obtain ⟨f, hI, hf⟩ : ∃ f, mw_I D vwCl A s s.heap [] f ∧ f = f0 := ⟨f0, hI, rfl⟩
  rw [← hf] at hD
  have ho : ∀ k, ¬ dks d sl pa w ra k → f k = f0 k := fun k _ => by rw [hf]
  have hsl : ∀ i, i < 16 → Y i = Y i := fun _ _ => rfl
  refine mv_iload_n B dX2_digitAt_0 rfl (lv_at hl 1 rfl) ?_
  refine mw_calli hI hA (va_runS (As := [.int (iI (a))]) (rest := []) B.fix (t_X2_isSlot l D kA s.heap.size f ha) (cwS 1 B.2.2.2.2.1 (gS kw_94 kw_95 kw_1 kw_96) rfl rfl rfl (by decide +kernel) ⟨Nat.le_of_ble_eq_true rfl, Nat.le_of_ble_eq_true rfl⟩) ⟨mw_blind st_S.blind, mw_pre B hI (hSt.call hI hA)⟩ rfl rfl hl.1 rfl (lv_room (Nat.le_of_ble_eq_true rfl)) dX2_digitAt_1 ⟨Nat.le_of_ble_eq_true rfl, Nat.le_of_ble_eq_true rfl⟩) (fun r f H locs hp hI2 => ?_)
  clear hI
  have hI := hI2
  clear hI2
  obtain ⟨rfl, rfl⟩ := hp
  refine mv_if_eq (tgt := 24) B dX2_digitAt_4 (by decide) (by split <;> omega) (fun hc => ?_) (fun hc => ?_)
  · have h1 : ¬ (sOk a) := fun q => by rw [if_pos q] at hc; exact absurd hc (by decide)
    refine mv_iconst B dX2_digitAt_24 ?_
    have e9 : sp_digitAt Y a i_ = -1 := by unfold sp_digitAt; rw [if_neg (fun q => h1 q.1)]
    exact mw_iret B hQ hrt hI ⟨by rw [e9], ⟨_, hD, hsl⟩, ho⟩ dX2_digitAt_25
  · have h1 : sOk a := by
      by_cases q : sOk a
      · exact q
      · rw [if_neg q] at hc; exact absurd rfl hc
    refine mv_iload_n B dX2_digitAt_7 rfl (lv_at hl 2 rfl) ?_
    refine mv_if_lt (tgt := 24) B dX2_digitAt_8 (by decide) (by omega) (fun hc2 => ?_) (fun hc2 => ?_)
    · refine mv_iconst B dX2_digitAt_24 ?_
      have e9 : sp_digitAt Y a i_ = -1 := by unfold sp_digitAt; rw [if_neg (fun q => by omega)]
      exact mw_iret B hQ hrt hI ⟨by rw [e9], ⟨_, hD, hsl⟩, ho⟩ dX2_digitAt_25
    · refine mv_iload_n B dX2_digitAt_11 rfl (lv_at hl 2 rfl) ?_
      refine mv_aload_n B dX2_digitAt_12 rfl (lv_at hl 0 rfl) ?_
      refine mw_get (C := RX2) (T := TX2) (N := 7) B hI hD.1 uin_X2 rfl 0 (by decide) kw_68 rfl dX2_digitAt_13 ?_
      refine mv_iload_n B dX2_digitAt_16 rfl (lv_at hl 1 rfl) ?_
      obtain ⟨gs, hs1, hs2⟩ := hD.2.1
      refine mw_aald B hI 1 hs1 rfl (a.toNat) (by omega) (by omega) (by decide) (hs2 _ (by omega)) dX2_digitAt_17 ?_
      obtain ⟨_, _, _, cc, -, -⟩ := id (hD.rp (i := a.toNat) (by omega))
      refine mw_calli hI hA (va_runV (As := []) (rest := [.int (iI (i_))]) B.fix (t_X1_countDigits l D kA H.size f (hD.rp (i := a.toNat) (by omega))) (cwV 0 B.2.2.2.2.1 (gV kw_325 kw_326 kw_327 kw_2 kw_328) rfl rfl rfl (by decide +kernel) ⟨Nat.le_of_ble_eq_true rfl, Nat.le_of_ble_eq_true rfl⟩) ⟨mw_blind st_S.blind, mw_recv B hI cc rfl, mw_pre B hI (hSt.call hI hA)⟩ rfl rfl hl.1 rfl (lv_room (Nat.le_of_ble_eq_true rfl)) dX2_digitAt_18 ⟨Nat.le_of_ble_eq_true rfl, Nat.le_of_ble_eq_true rfl⟩) (fun r f H locs hp hI2 => ?_)
      clear hI
      have hI := hI2
      clear hI2
      obtain ⟨⟨k, hk1, hk2, rfl⟩, rfl⟩ := hp
      have nk := ndg_eq hk1
      refine mv_icmp_lt (tgt := 26) B dX2_digitAt_21 (by decide) (by omega) (fun hc3 => ?_) (fun hc3 => ?_)
      · refine mv_aload_n B dX2_digitAt_26 rfl (lv_at hl 0 rfl) ?_
        refine mw_get (C := RX2) (T := TX2) (N := 7) B hI hD.1 uin_X2 rfl 0 (by decide) kw_68 rfl dX2_digitAt_27 ?_
        refine mv_iload_n B dX2_digitAt_30 rfl (lv_at hl 1 rfl) ?_
        obtain ⟨gs, hs1, hs2⟩ := hD.2.1
        refine mw_aald B hI 1 hs1 rfl (a.toNat) (by omega) (by omega) (by decide) (hs2 _ (by omega)) dX2_digitAt_31 ?_
        refine mv_aload_n B dX2_digitAt_32 rfl (lv_at hl 0 rfl) ?_
        refine mw_get (C := RX2) (T := TX2) (N := 7) B hI hD.1 uin_X2 rfl 0 (by decide) kw_68 rfl dX2_digitAt_33 ?_
        refine mv_iload_n B dX2_digitAt_36 rfl (lv_at hl 1 rfl) ?_
        obtain ⟨gs, hs1, hs2⟩ := hD.2.1
        refine mw_aald B hI 1 hs1 rfl (a.toNat) (by omega) (by omega) (by decide) (hs2 _ (by omega)) dX2_digitAt_37 ?_
        obtain ⟨_, _, _, cc, -, -⟩ := id (hD.rp (i := a.toNat) (by omega))
        refine mw_calli hI hA (va_runV (As := []) (rest := [.ref ((w (a.toNat)))]) B.fix (t_X1_countDigits l D kA H.size f (hD.rp (i := a.toNat) (by omega))) (cwV 0 B.2.2.2.2.1 (gV kw_325 kw_326 kw_327 kw_2 kw_328) rfl rfl rfl (by decide +kernel) ⟨Nat.le_of_ble_eq_true rfl, Nat.le_of_ble_eq_true rfl⟩) ⟨mw_blind st_S.blind, mw_recv B hI cc rfl, mw_pre B hI (hSt.call hI hA)⟩ rfl rfl hl.1 rfl (lv_room (Nat.le_of_ble_eq_true rfl)) dX2_digitAt_38 ⟨Nat.le_of_ble_eq_true rfl, Nat.le_of_ble_eq_true rfl⟩) (fun r f H locs hp hI2 => ?_)
        clear hI
        have hI := hI2
        clear hI2
        obtain ⟨⟨j, hj1, hj2, rfl⟩, rfl⟩ := hp
        have nj := ndg_eq hj1
        obtain rfl : k = j := by omega
        refine mv_iconst B dX2_digitAt_41 ?_
        refine mv_isub B dX2_digitAt_42 ?_
        refine mv_iload_n B dX2_digitAt_43 rfl (lv_at hl 2 rfl) ?_
        refine mv_isub B dX2_digitAt_44 ?_
        obtain ⟨q, hq⟩ : ∃ q : Nat, (q : Int) = (k : Int) - 1 - i_ := ⟨((k : Int) - 1 - i_).toNat, by omega⟩
        rw [← hq]
        obtain ⟨_, _, _, cc, -, -⟩ := id (hD.rp (i := a.toNat) (by omega))
        refine mw_calli hI hA (va_runV (As := [.int (iI ((q : Int)))]) (rest := []) B.fix (t_X1_digitOfPlace l D kA H.size f (hD.rp (i := a.toNat) (by omega)) (by omega)) (cwV 1 B.2.2.2.2.1 (gV kw_335 kw_336 kw_337 kw_2 kw_338) rfl rfl rfl (by decide +kernel) ⟨Nat.le_of_ble_eq_true rfl, Nat.le_of_ble_eq_true rfl⟩) ⟨mw_blind st_S.blind, mw_recv B hI cc rfl, mw_pre B hI (hSt.call hI hA)⟩ rfl rfl hl.1 rfl (lv_room (Nat.le_of_ble_eq_true rfl)) dX2_digitAt_45 ⟨Nat.le_of_ble_eq_true rfl, Nat.le_of_ble_eq_true rfl⟩) (fun r f H locs hp hI2 => ?_)
        clear hI
        have hI := hI2
        clear hI2
        obtain ⟨rfl, rfl⟩ := hp
        exact mw_iret B hQ hrt hI ⟨by unfold sp_digitAt; rw [if_pos ⟨h1, by omega, by omega⟩, nk, show ((k : Int) - 1 - i_).toNat = q by omega], ⟨_, hD, hsl⟩, ho⟩ dX2_digitAt_48
      · refine mv_iconst B dX2_digitAt_24 ?_
        have e9 : sp_digitAt Y a i_ = -1 := by unfold sp_digitAt; rw [if_neg (fun q => by have := q.2.2; omega)]
        exact mw_iret B hQ hrt hI ⟨by rw [e9], ⟨_, hD, hsl⟩, ho⟩ dX2_digitAt_25
abbrev rm_X2_modulo : Room := { frames := 1, cells := 0, slots := 0, locals := 29 }
set_option maxHeartbeats 4000000 in
set_option maxRecDepth 100000 in
/-- modulo -/
theorem t_X2_modulo (l : Launch) (D : va_G) (kA : Nat → ClassId) (sz : Nat) (f0 : mw_M) {d sl pa : Nat} {w ra : Nat → Nat} {Y : Nat → Int} {a m_ : Int} (hD : DK kA f0 d sl pa w ra Y) (hB : ∀ i, i < 16 → ((Y i).natAbs : Int) < 1000000 ^ 50) (ha : -2147483648 ≤ a ∧ a ≤ 2147483647) (hm : -9223372036854775808 ≤ m_ ∧ m_ ≤ 9223372036854775807) : mw_Ml l yX2_modulo (Cond.code yX2_modulo cX2_modulo 4 ((some .long)) :: gw) rm_X2_modulo D vwCl (tyL kA) st_S [.ref d, .int (iI (a)), .long (lI (m_))] f0 sz (fun v f => v = lI (sp_modulo Y a m_) ∧ (∃ Y', DK kA f d sl pa w ra Y' ∧ ∀ i, i < 16 → Y' i = Y i) ∧ ∀ k, ¬ dks d sl pa w ra k → f k = f0 k) 0 0 := by
  refine mw_ofl (cc := cX2_modulo) (maxL := 4) (ret := (some .long)) (by decide) rfl (Nat.le_of_ble_eq_true rfl) ?_
  intro p e s m below meth c A ls Q hQ B hrt hnm hA hI hSt hl
  have hl : lv_has ls 4 [(0, .ref d), (1, .int (iI (a))), (2, .long (lI (m_)))] := hl
  obtain ⟨f, hI, hf⟩ : ∃ f, mw_I D vwCl A s s.heap [] f ∧ f = f0 := ⟨f0, hI, rfl⟩
  rw [← hf] at hD
  have ho : ∀ k, ¬ dks d sl pa w ra k → f k = f0 k := fun k _ => by rw [hf]
  have hsl : ∀ i, i < 16 → Y i = Y i := fun _ _ => rfl
  refine mv_iload_n B dX2_modulo_0 rfl (lv_at hl 1 rfl) ?_
  refine mw_calli hI hA (va_runS (As := [.int (iI (a))]) (rest := []) B.fix (t_X2_isSlot l D kA s.heap.size f ha) (cwS 1 B.2.2.2.2.1 (gS kw_94 kw_95 kw_1 kw_96) rfl rfl rfl (by decide +kernel) ⟨Nat.le_of_ble_eq_true rfl, Nat.le_of_ble_eq_true rfl⟩) ⟨mw_blind st_S.blind, mw_pre B hI (hSt.call hI hA)⟩ rfl rfl hl.1 rfl (lv_room (Nat.le_of_ble_eq_true rfl)) dX2_modulo_1 ⟨Nat.le_of_ble_eq_true rfl, Nat.le_of_ble_eq_true rfl⟩) (fun r f H locs hp hI2 => ?_)
  clear hI
  have hI := hI2
  clear hI2
  obtain ⟨rfl, rfl⟩ := hp
  refine mv_if_eq (tgt := 21) B dX2_modulo_4 (by decide) (by split <;> omega) (fun hc => ?_) (fun hc => ?_)
  · have h1 : ¬ (sOk a) := fun q => by rw [if_pos q] at hc; exact absurd hc (by decide)
    refine mv_ldc2 (z := -1) B dX2_modulo_21 kw_344 (by decide) ?_
    have e9 : sp_modulo Y a m_ = -1 := by unfold sp_modulo; rw [if_neg (fun q => h1 q.1)]
    exact mw_lret B hQ hrt hI ⟨by rw [e9], ⟨_, hD, hsl⟩, ho⟩ dX2_modulo_24
  · have h1 : sOk a := by
      by_cases q : sOk a
      · exact q
      · rw [if_neg q] at hc; exact absurd rfl hc
    refine mv_lload_n B dX2_modulo_7 rfl (lv_at hl 2 rfl) ?_
    refine mv_lconst1 B dX2_modulo_8 ?_
    refine mv_lcmp_lt (tgt := 21) B dX2_modulo_9 dX2_modulo_10 (by decide) (by omega) (fun hc2 => ?_) (fun hc2 => ?_)
    · refine mv_ldc2 (z := -1) B dX2_modulo_21 kw_344 (by decide) ?_
      have e9 : sp_modulo Y a m_ = -1 := by unfold sp_modulo; rw [if_neg (fun q => by omega)]
      exact mw_lret B hQ hrt hI ⟨by rw [e9], ⟨_, hD, hsl⟩, ho⟩ dX2_modulo_24
    · refine mv_lload_n B dX2_modulo_13 rfl (lv_at hl 2 rfl) ?_
      refine mv_ldc2 (z := 1152921504606846976) B dX2_modulo_14 kw_343 (by decide) ?_
      refine mv_lcmp_le (tgt := 25) B dX2_modulo_17 dX2_modulo_18 (by decide) (by omega) (fun hc3 => ?_) (fun hc3 => ?_)
      · refine mv_aload_n B dX2_modulo_25 rfl (lv_at hl 0 rfl) ?_
        refine mw_get (C := RX2) (T := TX2) (N := 7) B hI hD.1 uin_X2 rfl 0 (by decide) kw_68 rfl dX2_modulo_26 ?_
        refine mv_iload_n B dX2_modulo_29 rfl (lv_at hl 1 rfl) ?_
        obtain ⟨gs, hs1, hs2⟩ := hD.2.1
        refine mw_aald B hI 1 hs1 rfl (a.toNat) (by omega) (by omega) (by decide) (hs2 _ (by omega)) dX2_modulo_30 ?_
        refine mv_lload_n B dX2_modulo_31 rfl (lv_at hl 2 rfl) ?_
        obtain ⟨_, _, _, cc, -, -⟩ := id (hD.rp (i := a.toNat) (by omega))
        refine mw_calll hI hA (va_runV (As := [.long (lI (m_))]) (rest := []) B.fix (t_X1_remainder l D kA H.size f (hD.rp (i := a.toNat) (by omega)) (by omega)) (cwV 1 B.2.2.2.2.1 (gV kw_345 kw_346 kw_347 kw_2 kw_348) rfl rfl rfl (by decide +kernel) ⟨Nat.le_of_ble_eq_true rfl, Nat.le_of_ble_eq_true rfl⟩) ⟨mw_blind st_S.blind, mw_recv B hI cc rfl, mw_pre B hI (hSt.call hI hA)⟩ rfl rfl hl.1 rfl (lv_room (Nat.le_of_ble_eq_true rfl)) dX2_modulo_32 ⟨Nat.le_of_ble_eq_true rfl, Nat.le_of_ble_eq_true rfl⟩) (fun r f H locs hp hI2 => ?_)
        clear hI
        have hI := hI2
        clear hI2
        obtain ⟨rfl, rfl⟩ := hp
        exact mw_lret B hQ hrt hI ⟨by unfold sp_modulo; rw [if_pos ⟨h1, by omega, by omega⟩], ⟨_, hD, hsl⟩, ho⟩ dX2_modulo_35
      · refine mv_ldc2 (z := -1) B dX2_modulo_21 kw_344 (by decide) ?_
        have e9 : sp_modulo Y a m_ = -1 := by unfold sp_modulo; rw [if_neg (fun q => by omega)]
        exact mw_lret B hQ hrt hI ⟨by rw [e9], ⟨_, hD, hsl⟩, ho⟩ dX2_modulo_24
abbrev rm_X2_low : Room := { frames := 1, cells := 0, slots := 0, locals := 23 }
set_option maxHeartbeats 4000000 in
set_option maxRecDepth 100000 in
/-- low -/
theorem t_X2_low (l : Launch) (D : va_G) (kA : Nat → ClassId) (sz : Nat) (f0 : mw_M) {d sl pa : Nat} {w ra : Nat → Nat} {Y : Nat → Int} {a : Int} (hD : DK kA f0 d sl pa w ra Y) (hB : ∀ i, i < 16 → ((Y i).natAbs : Int) < 1000000 ^ 50) (ha : -2147483648 ≤ a ∧ a ≤ 2147483647) : mw_Ml l yX2_low (Cond.code yX2_low cX2_low 2 ((some .long)) :: gw) rm_X2_low D vwCl (tyL kA) st_S [.ref d, .int (iI (a))] f0 sz (fun v f => v = lI (sp_low Y a) ∧ (∃ Y', DK kA f d sl pa w ra Y' ∧ ∀ i, i < 16 → Y' i = Y i) ∧ ∀ k, ¬ dks d sl pa w ra k → f k = f0 k) 0 0 := by
  refine mw_ofl (cc := cX2_low) (maxL := 2) (ret := (some .long)) (by decide) rfl (Nat.le_of_ble_eq_true rfl) ?_
  intro p e s m below meth c A ls Q hQ B hrt hnm hA hI hSt hl
  have hl : lv_has ls 2 [(0, .ref d), (1, .int (iI (a)))] := hl
  obtain ⟨f, hI, hf⟩ : ∃ f, mw_I D vwCl A s s.heap [] f ∧ f = f0 := ⟨f0, hI, rfl⟩
  rw [← hf] at hD
  have ho : ∀ k, ¬ dks d sl pa w ra k → f k = f0 k := fun k _ => by rw [hf]
  have hsl : ∀ i, i < 16 → Y i = Y i := fun _ _ => rfl
  refine mv_iload_n B dX2_low_0 rfl (lv_at hl 1 rfl) ?_
  refine mw_calli hI hA (va_runS (As := [.int (iI (a))]) (rest := []) B.fix (t_X2_isSlot l D kA s.heap.size f ha) (cwS 1 B.2.2.2.2.1 (gS kw_94 kw_95 kw_1 kw_96) rfl rfl rfl (by decide +kernel) ⟨Nat.le_of_ble_eq_true rfl, Nat.le_of_ble_eq_true rfl⟩) ⟨mw_blind st_S.blind, mw_pre B hI (hSt.call hI hA)⟩ rfl rfl hl.1 rfl (lv_room (Nat.le_of_ble_eq_true rfl)) dX2_low_1 ⟨Nat.le_of_ble_eq_true rfl, Nat.le_of_ble_eq_true rfl⟩) (fun r f H locs hp hI2 => ?_)
  clear hI
  have hI := hI2
  clear hI2
  obtain ⟨rfl, rfl⟩ := hp
  refine mv_if_ne (tgt := 9) B dX2_low_4 (by decide) (by split <;> omega) (fun hc => ?_) (fun hc => ?_)
  · have h1 : sOk a := by
      by_cases q : sOk a
      · exact q
      · rw [if_neg q] at hc; exact absurd rfl hc
    refine mv_aload_n B dX2_low_9 rfl (lv_at hl 0 rfl) ?_
    refine mw_get (C := RX2) (T := TX2) (N := 7) B hI hD.1 uin_X2 rfl 0 (by decide) kw_68 rfl dX2_low_10 ?_
    refine mv_iload_n B dX2_low_13 rfl (lv_at hl 1 rfl) ?_
    obtain ⟨gs, hs1, hs2⟩ := hD.2.1
    refine mw_aald B hI 1 hs1 rfl (a.toNat) (by omega) (by omega) (by decide) (hs2 _ (by omega)) dX2_low_14 ?_
    obtain ⟨_, _, _, cc, -, -⟩ := id (hD.rp (i := a.toNat) (by omega))
    refine mw_calll hI hA (va_runV (As := []) (rest := []) B.fix (t_X1_lowBits l D kA H.size f (hD.rp (i := a.toNat) (by omega))) (cwV 0 B.2.2.2.2.1 (gV kw_355 kw_356 kw_357 kw_2 kw_358) rfl rfl rfl (by decide +kernel) ⟨Nat.le_of_ble_eq_true rfl, Nat.le_of_ble_eq_true rfl⟩) ⟨mw_blind st_S.blind, mw_recv B hI cc rfl, mw_pre B hI (hSt.call hI hA)⟩ rfl rfl hl.1 rfl (lv_room (Nat.le_of_ble_eq_true rfl)) dX2_low_15 ⟨Nat.le_of_ble_eq_true rfl, Nat.le_of_ble_eq_true rfl⟩) (fun r f H locs hp hI2 => ?_)
    clear hI
    have hI := hI2
    clear hI2
    obtain ⟨rfl, rfl⟩ := hp
    exact mw_lret B hQ hrt hI ⟨by unfold sp_low; rw [if_pos h1], ⟨_, hD, hsl⟩, ho⟩ dX2_low_18
  · have h1 : ¬ (sOk a) := fun q => by rw [if_pos q] at hc; exact absurd hc (by decide)
    refine mv_lconst0 B dX2_low_7 ?_
    exact mw_lret B hQ hrt hI ⟨by unfold sp_low; rw [if_neg h1], ⟨_, hD, hsl⟩, ho⟩ dX2_low_8
end
section
/-! pure rows: powers, lowest terms, roots -/
theorem pw_mono {A : Int} {m n : Nat} (h : m ≤ n) (hb : (1000000 : Int) ^ 50 ≤ ((A ^ m).natAbs : Int)) : (1000000 : Int) ^ 50 ≤ ((A ^ n).natAbs : Int) := by
  induction h with
  | refl => exact hb
  | step h ih =>
    rename_i k
    have h0 := b50.2.2
    rw [show A ^ (k + 1) = A ^ k * A from Int.pow_succ _ _, Int.natAbs_mul, Int.natCast_mul]
    rcases Nat.eq_zero_or_pos A.natAbs with q | q
    · have a0 : A = 0 := by omega
      subst a0
      exfalso
      rcases Nat.eq_zero_or_pos k with q2 | q2
      · subst q2
        rw [Int.pow_zero] at ih
        have : ((1 : Int).natAbs : Int) = 1 := rfl
        omega
      · rw [Int.zero_pow (by omega)] at ih
        have : ((0 : Int).natAbs : Int) = 0 := rfl
        omega
    · have h1 : ((A ^ k).natAbs : Int) * 1 ≤ ((A ^ k).natAbs : Int) * (A.natAbs : Int) := Int.mul_le_mul_of_nonneg_left (by omega) (by omega)
      omega
theorem pw_sq {A : Int} {e j : Nat} : A ^ (e / 2 ^ (j + 1)) * A ^ (e / 2 ^ (j + 1)) = A ^ (e / 2 ^ (j + 1) + e / 2 ^ (j + 1)) := (Int.pow_add _ _ _).symm
theorem pw_bit {e j : Nat} : e / 2 ^ j = 2 * (e / 2 ^ (j + 1)) + e / 2 ^ j % 2 := by
  rw [Nat.pow_succ, ← Nat.div_div_eq_div_mul]
  omega
theorem nI_iI (n : Nat) : nI n = iI (n : Int) := Int32.ofInt_eq_ofNat.symm
theorem iI_and (a b : Nat) : iI (a : Int) &&& iI (b : Int) = iI ((a &&& b : Nat) : Int) := by
  rw [← nI_iI, ← nI_iI, ← nI_iI]
  apply Int32.toBitVec_inj.mp
  show BitVec.ofNat 32 a &&& BitVec.ofNat 32 b = BitVec.ofNat 32 (a &&& b)
  rw [BitVec.ofNat_and]
theorem and2p (e k : Nat) : e &&& 2 ^ k = (e / 2 ^ k % 2) * 2 ^ k := by
  apply Nat.eq_of_testBit_eq
  intro i
  rw [Nat.testBit_and, Nat.testBit_two_pow]
  have h3 : e.testBit k = decide (e / 2 ^ k % 2 = 1) := Nat.testBit_eq_decide_div_mod_eq
  by_cases q : e / 2 ^ k % 2 = 1
  · rw [q, Nat.one_mul, Nat.testBit_two_pow]
    by_cases q2 : k = i
    · subst q2; rw [h3]; simp [q]
    · simp [q2]
  · have q0 : e / 2 ^ k % 2 = 0 := by omega
    rw [q0, Nat.zero_mul, Nat.zero_testBit]
    by_cases q2 : k = i
    · subst q2; rw [h3]; simp [q0]
    · simp [q2]
theorem and_bit {e k : Nat} (he : e ≤ 2147483647) (hk : k ≤ 30) : iI (e : Int) &&& iI ((2 ^ k : Nat) : Int) = 0 ↔ e / 2 ^ k % 2 = 0 := by
  rw [iI_and, show (0 : Int32) = iI 0 from rfl, and2p]
  have h2 : 2 ^ k ≤ 2 ^ 30 := Nat.pow_le_pow_right (by decide) hk
  have h4 : (2 : Nat) ^ 30 = 1073741824 := by decide
  have h5 : 0 < 2 ^ k := Nat.pow_pos (by decide)
  generalize 2 ^ k = P at h2 h5 ⊢
  rcases (show e / P % 2 = 0 ∨ e / P % 2 = 1 by omega) with q | q
  · rw [q, Nat.zero_mul]; exact ⟨fun _ => rfl, fun _ => rfl⟩
  · rw [q, Nat.one_mul, iI_eq ⟨⟨by omega, by omega⟩, by decide⟩]
    exact ⟨fun h => by omega, fun h => absurd h (by decide)⟩
section BITS2
variable {p : Program} {l : Launch} {e : Env} {R : Room} {s : State} {m : MethodId} {args : Array Value} {below : List Frame} {meth : Method} {c : Code} {H : Heap} {locs : List Loc} {cells slots : Nat} {Q : State → Prop}
variable {cc : ByteArray} {nL : Nat} {own : String} {Ts : List Cond} {pc : Nat} {ls : Array Slot} {rest : List Value} {D : va_G} {cl : List vw_C} {tys : List (ClassId × FieldType)}
theorem mv_andne {x : Nat} {y : Int} (k : Nat) (B : mw_C p s m args meth c cc nL own Ts D cl tys) {off : Int} {tgt : Nat} (hdg1 : decode cc pc = .ok (.iand, 1)) (hdg : decode cc (pc + 1) = .ok (.ifCond .ne off, 3)) (ht : ((pc + 1 : Nat) : Int) + off = (tgt : Int)) (hx : x ≤ 2147483647) (hk : k ≤ 30) (hy : y = ((2 ^ k : Nat) : Int)) (kt : ¬ x / 2 ^ k % 2 = 0 → W p l e R s m args below meth c H locs cells slots Q (F0 m tgt ls rest)) (kf : x / 2 ^ k % 2 = 0 → W p l e R s m args below meth c H locs cells slots Q (F0 m (pc + 4) ls rest)) : W p l e R s m args below meth c H locs cells slots Q (F0 m pc ls (.int (iI y) :: .int (iI (x : Int)) :: rest)) := by
  subst hy
  exact lv_iand B.1 B.2.1 hdg1 (lv_if_ne B.1 B.2.1 hdg ht (fun q => kt (fun q2 => q ((and_bit hx hk).mpr q2))) (fun q => kf ((and_bit hx hk).mp q)))
theorem mv_ishr1 {x : Int} (B : mw_C p s m args meth c cc nL own Ts D cl tys) (hdg : decode cc pc = .ok (.ishr, 1)) (h : 0 ≤ x ∧ x ≤ 2147483647) (k : W p l e R s m args below meth c H locs cells slots Q (F0 m (pc + 1) ls (.int (iI (x / 2)) :: rest))) : W p l e R s m args below meth c H locs cells slots Q (F0 m pc ls (.int (iI 1) :: .int (iI x) :: rest)) := by
  refine lv_ishr B.1 B.2.1 hdg ?_
  obtain ⟨n, rfl⟩ : ∃ n : Nat, x = (n : Int) := ⟨x.toNat, by omega⟩
  have e1 : iI (n : Int) >>> (iI 1 &&& 31) = iI ((n : Int) / 2) := by
    rw [← nI_iI, pk_shrN (by omega) (iI 1 &&& 31) 1 (by decide), nI_iI]
    rfl
  rw [e1]
  exact k
end BITS2
theorem Rp.turn {cI : ClassId} {f0 f : mw_M} {h r : Nat} {g : Nat → Int} {n : Nat} {b z : Int} (hz : rp g n b z) (hT : wSt cI f0 h r f g (n : Int) (if b = 0 ∧ 0 < (n : Int) then 1 else 0)) : Rp cI f h r (-z) ∧ fo f0 f h r := by
  refine hT.toRp ⟨hz.1, hz.2.1, hz.2.2.1, ?_⟩
  rcases hz.2.2.2 with ⟨e1, e2⟩ | ⟨e1, e2, e3⟩
  · by_cases q : 0 < n
    · rw [if_pos ⟨e1, by omega⟩]; exact Or.inr ⟨rfl, q, by omega⟩
    · rw [if_neg (by omega)]
      have : n = 0 := by omega
      subst this
      rw [dv_0] at e2 ⊢
      exact Or.inl ⟨rfl, by omega⟩
  · rw [if_neg (by omega)]; exact Or.inl ⟨rfl, by omega⟩
theorem gcd_pos_ {p q : Int} (hq : q ≠ 0) : (0 : Int) < (Int.gcd p q : Int) := by
  have := Int.gcd_pos_of_ne_zero_right p hq
  omega
theorem lw_neg {q G : Int} (hG : 0 < G) (hd : G ∣ q) : (q.tdiv G < 0 ↔ q < 0) ∧ (q < 0 → -(q.tdiv G) = (q.natAbs : Int) / G) ∧ (0 ≤ q → q.tdiv G = (q.natAbs : Int) / G) := by
  obtain ⟨k, rfl⟩ := hd
  have e1 : (G * k).tdiv G = k := Int.mul_tdiv_cancel_left k (by omega)
  have e2 : ((G * k).natAbs : Int) = G * (k.natAbs : Int) := by rw [Int.natAbs_mul, Int.natCast_mul]; congr 1; omega
  have e3 : G * (k.natAbs : Int) / G = (k.natAbs : Int) := Int.mul_ediv_cancel_left _ (by omega)
  rw [e1, e2, e3]
  have h1 : G * k < 0 ↔ k < 0 := by
    constructor
    · intro h
      rcases Int.lt_or_le k 0 with c | c
      · exact c
      · have := Int.mul_nonneg (Int.le_of_lt hG) c; omega
    · intro h; exact Int.mul_neg_of_pos_of_neg hG h
  refine ⟨h1.symm, fun h => ?_, fun h => ?_⟩
  · have := h1.mp h; omega
  · have : ¬ k < 0 := fun q => by have := h1.mpr q; omega
    omega
theorem kp2_y {Y : Nat → Int} {a b p q : Int} (h1 : ((lwN p q).natAbs : Int) < 1000000 ^ 50) (h2 : ((lwD p q).natAbs : Int) < 1000000 ^ 50) : kp2 Y a b p q = (1, upI (upI Y a.toNat (lwN p q)) b.toNat (lwD p q)) := by
  unfold kp2
  rw [if_pos ⟨h1, h2⟩]
theorem kp2_n {Y : Nat → Int} {a b p q : Int} (h : ¬ (((lwN p q).natAbs : Int) < 1000000 ^ 50 ∧ ((lwD p q).natAbs : Int) < 1000000 ^ 50)) : kp2 Y a b p q = (-1, Y) := by
  unfold kp2
  rw [if_neg h]
theorem upI2_same {Y Y1 : Nat → Int} {a b : Nat} {x y : Int} (hs : ∀ i, i < 16 → Y1 i = Y i) (i : Nat) (hi : i < 16) : upI (upI Y1 a x) b y i = upI (upI Y a x) b y i := by
  by_cases q2 : i = b
  · rw [q2, upI_self, upI_self]
  · rw [upI_ne _ _ q2, upI_ne _ _ q2]
    by_cases q3 : i = a
    · rw [q3, upI_self, upI_self]
    · rw [upI_ne _ _ q3, upI_ne _ _ q3]; exact hs i hi
theorem kp2_same {Y Y1 : Nat → Int} {a b p q p1 q1 : Int} (hp : p1 = p) (hq : q1 = q) (hs : ∀ i, i < 16 → Y1 i = Y i) : (kp2 Y1 a b p1 q1).1 = (kp2 Y a b p q).1 ∧ ∀ i, i < 16 → (kp2 Y1 a b p1 q1).2 i = (kp2 Y a b p q).2 i := by
  subst hp; subst hq
  by_cases c1 : ((lwN p1 q1).natAbs : Int) < 1000000 ^ 50
  · by_cases c2 : ((lwD p1 q1).natAbs : Int) < 1000000 ^ 50
    · rw [kp2_y c1 c2, kp2_y c1 c2]
      exact ⟨rfl, fun i hi => upI2_same hs i hi⟩
    · rw [kp2_n (fun c => c2 c.2), kp2_n (fun c => c2 c.2)]
      exact ⟨rfl, hs⟩
  · rw [kp2_n (fun c => c1 c.1), kp2_n (fun c => c1 c.1)]
    exact ⟨rfl, hs⟩
theorem tq_le (a b : Int) : ((a.tdiv b).natAbs : Int) ≤ (a.natAbs : Int) ∧ ((a.tmod b).natAbs : Int) ≤ (a.natAbs : Int) :=
  ⟨by rw [Int.natAbs_tdiv]; exact Int.ofNat_le.mpr (Nat.div_le_self _ _), by rw [Int.natAbs_tmod]; exact Int.ofNat_le.mpr (Nat.mod_le _ _)⟩
end
section
abbrev rm_X2_areFractions : Room := { frames := 2, cells := 0, slots := 0, locals := 41 }
set_option maxHeartbeats 4000000 in
set_option maxRecDepth 100000 in
/-- areFractions -/
theorem t_X2_areFractions (l : Launch) (D : va_G) (kA : Nat → ClassId) (sz : Nat) (f0 : mw_M) {d sl pa : Nat} {w ra : Nat → Nat} {Y : Nat → Int} {a b c_ e_ : Int} (hD : DK kA f0 d sl pa w ra Y) (hB : ∀ i, i < 16 → ((Y i).natAbs : Int) < 1000000 ^ 50) (ha : -2147483648 ≤ a ∧ a ≤ 2147483647) (hb : -2147483648 ≤ b ∧ b ≤ 2147483647) (hc_ : -2147483648 ≤ c_ ∧ c_ ≤ 2147483647) (he_ : -2147483648 ≤ e_ ∧ e_ ≤ 2147483647) : mw_Mi l yX2_areFractions (Cond.code yX2_areFractions cX2_areFractions 5 ((some .boolean)) :: gw) rm_X2_areFractions D vwCl (tyL kA) st_S [.ref d, .int (iI (a)), .int (iI (b)), .int (iI (c_)), .int (iI (e_))] f0 sz (fun v f => v = iI (if sOk a ∧ sOk b ∧ sOk c_ ∧ sOk e_ ∧ Y b.toNat ≠ 0 ∧ Y e_.toNat ≠ 0 then 1 else 0) ∧ f = f0) 0 0 := by
  refine mw_ofi (cc := cX2_areFractions) (maxL := 5) (ret := (some .boolean)) (by decide) rfl (Nat.le_of_ble_eq_true rfl) ?_
  intro p e s m below meth c A ls Q hQ B hrt hnm hA hI hSt hl
  have hl : lv_has ls 5 [(0, .ref d), (1, .int (iI (a))), (2, .int (iI (b))), (3, .int (iI (c_))), (4, .int (iI (e_)))] := hl
  obtain ⟨f, hI, hf⟩ : ∃ f, mw_I D vwCl A s s.heap [] f ∧ f = f0 := ⟨f0, hI, rfl⟩
  rw [← hf] at hD
  have ho : ∀ k, ¬ dks d sl pa w ra k → f k = f0 k := fun k _ => by rw [hf]
  refine mv_iload_n B dX2_areFractions_0 rfl (lv_at hl 1 rfl) ?_
  refine mv_iload_n B dX2_areFractions_1 rfl (lv_at hl 2 rfl) ?_
  refine mw_calli hI hA (va_runS (As := [.int (iI (a)), .int (iI (b))]) (rest := []) B.fix (t_X2_areSlots l D kA s.heap.size f ha hb) (cwS 2 B.2.2.2.2.1 (gS kw_164 kw_165 kw_1 kw_166) rfl rfl rfl (by decide +kernel) ⟨Nat.le_of_ble_eq_true rfl, Nat.le_of_ble_eq_true rfl⟩) ⟨mw_blind st_S.blind, mw_pre B hI (hSt.call hI hA)⟩ rfl rfl hl.1 rfl (lv_room (Nat.le_of_ble_eq_true rfl)) dX2_areFractions_2 ⟨Nat.le_of_ble_eq_true rfl, Nat.le_of_ble_eq_true rfl⟩) (fun r f H locs hp hI2 => ?_)
  clear hI
  have hI := hI2
  clear hI2
  obtain ⟨rfl, rfl⟩ := hp
  refine mv_if_eq (tgt := 46) B dX2_areFractions_5 (by decide) (by split <;> omega) (fun hc => ?_) (fun hc => ?_)
  · have h1 : ¬ (sOk a ∧ sOk b) := fun q => by rw [if_pos q] at hc; exact absurd hc (by decide)
    refine mv_iconst B dX2_areFractions_46 ?_
    exact mw_zret B hQ hrt (by decide) hI ⟨by rw [if_neg (fun q => h1 ⟨q.1, q.2.1⟩)], hf⟩ dX2_areFractions_47
  · have h1 : sOk a ∧ sOk b := by
      by_cases q : sOk a ∧ sOk b
      · exact q
      · rw [if_neg q] at hc; exact absurd rfl hc
    refine mv_iload_n B dX2_areFractions_8 rfl (lv_at hl 3 rfl) ?_
    refine mv_iload B dX2_areFractions_9 (lv_at hl 4 rfl) ?_
    refine mw_calli hI hA (va_runS (As := [.int (iI (c_)), .int (iI (e_))]) (rest := []) B.fix (t_X2_areSlots l D kA H.size f hc_ he_) (cwS 2 B.2.2.2.2.1 (gS kw_164 kw_165 kw_1 kw_166) rfl rfl rfl (by decide +kernel) ⟨Nat.le_of_ble_eq_true rfl, Nat.le_of_ble_eq_true rfl⟩) ⟨mw_blind st_S.blind, mw_pre B hI (hSt.call hI hA)⟩ rfl rfl hl.1 rfl (lv_room (Nat.le_of_ble_eq_true rfl)) dX2_areFractions_11 ⟨Nat.le_of_ble_eq_true rfl, Nat.le_of_ble_eq_true rfl⟩) (fun r f H locs hp hI2 => ?_)
    clear hI
    have hI := hI2
    clear hI2
    obtain ⟨rfl, rfl⟩ := hp
    refine mv_if_eq (tgt := 46) B dX2_areFractions_14 (by decide) (by split <;> omega) (fun hc2 => ?_) (fun hc2 => ?_)
    · have h2 : ¬ (sOk c_ ∧ sOk e_) := fun q => by rw [if_pos q] at hc2; exact absurd hc2 (by decide)
      refine mv_iconst B dX2_areFractions_46 ?_
      exact mw_zret B hQ hrt (by decide) hI ⟨by rw [if_neg (fun q => h2 ⟨q.2.2.1, q.2.2.2.1⟩)], hf⟩ dX2_areFractions_47
    · have h2 : sOk c_ ∧ sOk e_ := by
        by_cases q : sOk c_ ∧ sOk e_
        · exact q
        · rw [if_neg q] at hc2; exact absurd rfl hc2
      refine mv_aload_n B dX2_areFractions_17 rfl (lv_at hl 0 rfl) ?_
      refine mw_get (C := RX2) (T := TX2) (N := 7) B hI hD.1 uin_X2 rfl 0 (by decide) kw_68 rfl dX2_areFractions_18 ?_
      refine mv_iload_n B dX2_areFractions_21 rfl (lv_at hl 2 rfl) ?_
      obtain ⟨gs, hs1, hs2⟩ := hD.2.1
      refine mw_aald B hI 1 hs1 rfl (b.toNat) (by omega) (by omega) (by decide) (hs2 _ (by omega)) dX2_areFractions_22 ?_
      obtain ⟨g, n, b_, c1, c2, c3_⟩ := id (hD.rp (i := b.toNat) (by omega))
      have m1 := c3_.1
      have hz0 := c3_.zero
      refine mw_calli hI hA (va_runV (As := []) (rest := []) B.fix (t_X1_isZero l D kA H.size f c1 (by omega)) (cwV 0 B.2.2.2.2.1 (gV kw_191 kw_192 kw_193 kw_2 kw_194) rfl rfl rfl (by decide +kernel) ⟨Nat.le_of_ble_eq_true rfl, Nat.le_of_ble_eq_true rfl⟩) ⟨mw_blind st_S.blind, mw_recv B hI c1 rfl, mw_pre B hI (hSt.call hI hA)⟩ rfl rfl hl.1 rfl (lv_room (Nat.le_of_ble_eq_true rfl)) dX2_areFractions_23 ⟨Nat.le_of_ble_eq_true rfl, Nat.le_of_ble_eq_true rfl⟩) (fun r f H locs hp hI2 => ?_)
      clear hI
      have hI := hI2
      clear hI2
      obtain ⟨rfl, rfl⟩ := hp
      refine mv_if_ne (tgt := 46) B dX2_areFractions_26 (by decide) (by split <;> omega) (fun hc3 => ?_) (fun hc3 => ?_)
      · have hzz : Y b.toNat = 0 := by
          by_cases q : (n : Int) = 0
          · exact hz0.mpr (by omega)
          · rw [if_neg q] at hc3; exact absurd rfl hc3
        refine mv_iconst B dX2_areFractions_46 ?_
        exact mw_zret B hQ hrt (by decide) hI ⟨by rw [if_neg (fun q => q.2.2.2.2.1 hzz)], hf⟩ dX2_areFractions_47
      · have hnb : Y b.toNat ≠ 0 := fun q => by rw [if_pos (by have := hz0.mp q; omega)] at hc3; exact absurd hc3 (by decide)
        refine mv_aload_n B dX2_areFractions_29 rfl (lv_at hl 0 rfl) ?_
        refine mw_get (C := RX2) (T := TX2) (N := 7) B hI hD.1 uin_X2 rfl 0 (by decide) kw_68 rfl dX2_areFractions_30 ?_
        refine mv_iload B dX2_areFractions_33 (lv_at hl 4 rfl) ?_
        obtain ⟨gs, hs1, hs2⟩ := hD.2.1
        refine mw_aald B hI 1 hs1 rfl (e_.toNat) (by omega) (by omega) (by decide) (hs2 _ (by omega)) dX2_areFractions_35 ?_
        obtain ⟨g, n, b_, c1, c2, c3_⟩ := id (hD.rp (i := e_.toNat) (by omega))
        have m1 := c3_.1
        have hz1 := c3_.zero
        refine mw_calli hI hA (va_runV (As := []) (rest := []) B.fix (t_X1_isZero l D kA H.size f c1 (by omega)) (cwV 0 B.2.2.2.2.1 (gV kw_191 kw_192 kw_193 kw_2 kw_194) rfl rfl rfl (by decide +kernel) ⟨Nat.le_of_ble_eq_true rfl, Nat.le_of_ble_eq_true rfl⟩) ⟨mw_blind st_S.blind, mw_recv B hI c1 rfl, mw_pre B hI (hSt.call hI hA)⟩ rfl rfl hl.1 rfl (lv_room (Nat.le_of_ble_eq_true rfl)) dX2_areFractions_36 ⟨Nat.le_of_ble_eq_true rfl, Nat.le_of_ble_eq_true rfl⟩) (fun r f H locs hp hI2 => ?_)
        clear hI
        have hI := hI2
        clear hI2
        obtain ⟨rfl, rfl⟩ := hp
        refine mv_if_ne (tgt := 46) B dX2_areFractions_39 (by decide) (by split <;> omega) (fun hc4 => ?_) (fun hc4 => ?_)
        · have hzz : Y e_.toNat = 0 := by
            by_cases q : (n : Int) = 0
            · exact hz1.mpr (by omega)
            · rw [if_neg q] at hc4; exact absurd rfl hc4
          refine mv_iconst B dX2_areFractions_46 ?_
          exact mw_zret B hQ hrt (by decide) hI ⟨by rw [if_neg (fun q => q.2.2.2.2.2 hzz)], hf⟩ dX2_areFractions_47
        · have hne : Y e_.toNat ≠ 0 := fun q => by rw [if_pos (by have := hz1.mp q; omega)] at hc4; exact absurd hc4 (by decide)
          refine mv_iconst B dX2_areFractions_42 ?_
          refine mv_goto (tgt := 47) B dX2_areFractions_43 (by decide) ?_
          exact mw_zret B hQ hrt (by decide) hI ⟨by rw [if_pos ⟨h1.1, h1.2, h2.1, h2.2, hnb, hne⟩], hf⟩ dX2_areFractions_47
abbrev rm_X2_ratio : Room := { frames := 3, cells := 0, slots := 0, locals := 65 }
set_option maxHeartbeats 4000000 in
set_option maxRecDepth 100000 in
/-- ratio -/
theorem t_X2_ratio (l : Launch) (D : va_G) (kA : Nat → ClassId) (sz : Nat) (f0 : mw_M) {d sl pa : Nat} {w ra : Nat → Nat} {Y : Nat → Int} {a b c_ e_ : Int} (hD : DK kA f0 d sl pa w ra Y) (hB : ∀ i, i < 16 → ((Y i).natAbs : Int) < 1000000 ^ 50) (ha : -2147483648 ≤ a ∧ a ≤ 2147483647) (hb : -2147483648 ≤ b ∧ b ≤ 2147483647) (hc_ : -2147483648 ≤ c_ ∧ c_ ≤ 2147483647) (he_ : -2147483648 ≤ e_ ∧ e_ ≤ 2147483647) : mw_Mi l yX2_ratio (Cond.code yX2_ratio cX2_ratio 6 ((some .int)) :: gw) rm_X2_ratio D vwCl (tyL kA) st_S [.ref d, .int (iI (a)), .int (iI (b)), .int (iI (c_)), .int (iI (e_))] f0 sz (fun v f => v = iI (sp_ratio Y a b c_ e_) ∧ (∃ Y', DK kA f d sl pa w ra Y' ∧ ∀ i, i < 16 → Y' i = Y i) ∧ ∀ k, ¬ dks d sl pa w ra k → f k = f0 k) 0 0 := by
  refine mw_ofi (cc := cX2_ratio) (maxL := 6) (ret := (some .int)) (by decide) rfl (Nat.le_of_ble_eq_true rfl) ?_
  intro p e s m below meth c A ls Q hQ B hrt hnm hA hI hSt hl
  have hl : lv_has ls 6 [(0, .ref d), (1, .int (iI (a))), (2, .int (iI (b))), (3, .int (iI (c_))), (4, .int (iI (e_)))] := hl
  obtain ⟨f, hI, hf⟩ : ∃ f, mw_I D vwCl A s s.heap [] f ∧ f = f0 := ⟨f0, hI, rfl⟩
  rw [← hf] at hD
  have ho : ∀ k, ¬ dks d sl pa w ra k → f k = f0 k := fun k _ => by rw [hf]
  have hsl : ∀ i, i < 16 → Y i = Y i := fun _ _ => rfl
  refine mv_aload_n B dX2_ratio_0 rfl (lv_at hl 0 rfl) ?_
  refine mv_iload_n B dX2_ratio_1 rfl (lv_at hl 1 rfl) ?_
  refine mv_iload_n B dX2_ratio_2 rfl (lv_at hl 2 rfl) ?_
  refine mv_iload_n B dX2_ratio_3 rfl (lv_at hl 3 rfl) ?_
  refine mv_iload B dX2_ratio_4 (lv_at hl 4 rfl) ?_
  refine mw_calli hI hA (va_runV (As := [.int (iI (a)), .int (iI (b)), .int (iI (c_)), .int (iI (e_))]) (rest := []) B.fix (t_X2_areFractions l D kA s.heap.size f hD hB ha hb hc_ he_) (cwV 4 B.2.2.2.2.1 (gV kw_301 kw_303 ks_15 kw_1 kw_304) rfl rfl rfl (by decide +kernel) ⟨Nat.le_of_ble_eq_true rfl, Nat.le_of_ble_eq_true rfl⟩) ⟨mw_blind st_S.blind, mw_recv B hI hD.1 rfl, mw_pre B hI (hSt.call hI hA)⟩ rfl rfl hl.1 rfl (lv_room (Nat.le_of_ble_eq_true rfl)) dX2_ratio_6 ⟨Nat.le_of_ble_eq_true rfl, Nat.le_of_ble_eq_true rfl⟩) (fun r f H locs hp hI2 => ?_)
  clear hI
  have hI := hI2
  clear hI2
  obtain ⟨rfl, rfl⟩ := hp
  refine mv_if_ne (tgt := 14) B dX2_ratio_9 (by decide) (by split <;> omega) (fun hc => ?_) (fun hc => ?_)
  · have h1 : sOk a ∧ sOk b ∧ sOk c_ ∧ sOk e_ ∧ Y b.toNat ≠ 0 ∧ Y e_.toNat ≠ 0 := by
      by_cases q : sOk a ∧ sOk b ∧ sOk c_ ∧ sOk e_ ∧ Y b.toNat ≠ 0 ∧ Y e_.toNat ≠ 0
      · exact q
      · rw [if_neg q] at hc; exact absurd rfl hc
    have e9 : sp_ratio Y a b c_ e_ = (if (Y b.toNat < 0) = (Y e_.toNat < 0) then 1 + c3 (Y a.toNat * Y e_.toNat) (Y c_.toNat * Y b.toNat) else 1 + c3 (Y c_.toNat * Y b.toNat) (Y a.toNat * Y e_.toNat)) := by unfold sp_ratio; rw [if_pos h1]
    refine mv_aload_n B dX2_ratio_14 rfl (lv_at hl 0 rfl) ?_
    refine mw_get (C := RX2) (T := TX2) (N := 7) B hI hD.1 uin_X2 rfl 3 (by decide) kw_71 rfl dX2_ratio_15 ?_
    refine mv_aload_n B dX2_ratio_18 rfl (lv_at hl 0 rfl) ?_
    refine mw_get (C := RX2) (T := TX2) (N := 7) B hI hD.1 uin_X2 rfl 0 (by decide) kw_68 rfl dX2_ratio_19 ?_
    refine mv_iload_n B dX2_ratio_22 rfl (lv_at hl 1 rfl) ?_
    obtain ⟨gs, hs1, hs2⟩ := hD.2.1
    refine mw_aald B hI 1 hs1 rfl (a.toNat) (by omega) (by omega) (by decide) (hs2 _ (by omega)) dX2_ratio_23 ?_
    refine mv_aload_n B dX2_ratio_24 rfl (lv_at hl 0 rfl) ?_
    refine mw_get (C := RX2) (T := TX2) (N := 7) B hI hD.1 uin_X2 rfl 0 (by decide) kw_68 rfl dX2_ratio_25 ?_
    refine mv_iload B dX2_ratio_28 (lv_at hl 4 rfl) ?_
    obtain ⟨gs, hs1, hs2⟩ := hD.2.1
    refine mw_aald B hI 1 hs1 rfl (e_.toNat) (by omega) (by omega) (by decide) (hs2 _ (by omega)) dX2_ratio_30 ?_
    obtain ⟨_, _, _, cc, -, -⟩ := id (hD.rp (i := 18) (by omega))
    refine mw_callv hI hA (va_runV (As := [.ref ((w (a.toNat))), .ref ((w (e_.toNat)))]) (rest := []) B.fix (t_X1_takeProduct l D kA H.size f (hD.rp (i := 18) (by omega)).w (hD.rp (i := a.toNat) (by omega)) (hD.rp (i := e_.toNat) (by omega)) (hD.ne (i := a.toNat) (j := 18) (by omega) (by omega) (by omega)).1 (hD.ne (i := a.toNat) (j := 18) (by omega) (by omega) (by omega)).2 (hD.ne (i := e_.toNat) (j := 18) (by omega) (by omega) (by omega)).1 (hD.ne (i := e_.toNat) (j := 18) (by omega) (by omega) (by omega)).2 (by rw [hsl _ (by omega)]; exact hB _ (by omega)) (by rw [hsl _ (by omega)]; exact hB _ (by omega))) (cwV 2 B.2.2.2.2.1 (gV kw_114 kw_115 kw_116 kw_2 kw_117) rfl rfl rfl (by decide +kernel) ⟨Nat.le_of_ble_eq_true rfl, Nat.le_of_ble_eq_true rfl⟩) ⟨mw_blind st_S.blind, mw_recv B hI cc rfl, mw_pre B hI (hSt.call hI hA)⟩ rfl rfl hl.1 rfl (lv_room (Nat.le_of_ble_eq_true rfl)) dX2_ratio_31 ⟨Nat.le_of_ble_eq_true rfl, Nat.le_of_ble_eq_true rfl⟩) (fun f H locs hp hI2 => ?_)
    clear hI
    have hI := hI2
    clear hI2
    obtain ⟨hR, o1⟩ := hp
    have ho : ∀ k, ¬ dks d sl pa w ra k → f k = f0 k := fun k h => (o1 k (dks_w h (show 18 < 24 by omega)).1 (dks_w h (show 18 < 24 by omega)).2).trans (ho k h)
    obtain ⟨Y1, hY1, hD⟩ : ∃ Z, Z = upI Y (18) (Y (a.toNat) * Y (e_.toNat)) ∧ DK kA f d sl pa w ra Z := ⟨_, rfl, hD.upd (t := 18) (by omega) hR o1⟩
    have v1 : Y1 (18) = Y (a.toNat) * Y (e_.toNat) := by rw [hY1, upI_self]
    have r1 : ∀ i, i ≠ 18 → Y1 i = Y i := fun i hi => by rw [hY1, upI_ne _ _ hi]
    have hsl : ∀ i, i < 16 → Y1 i = Y i := fun i hi => (r1 i (by omega)).trans (hsl i hi)
    refine mv_aload_n B dX2_ratio_34 rfl (lv_at hl 0 rfl) ?_
    refine mw_get (C := RX2) (T := TX2) (N := 7) B hI hD.1 uin_X2 rfl 4 (by decide) kw_72 rfl dX2_ratio_35 ?_
    refine mv_aload_n B dX2_ratio_38 rfl (lv_at hl 0 rfl) ?_
    refine mw_get (C := RX2) (T := TX2) (N := 7) B hI hD.1 uin_X2 rfl 0 (by decide) kw_68 rfl dX2_ratio_39 ?_
    refine mv_iload_n B dX2_ratio_42 rfl (lv_at hl 3 rfl) ?_
    obtain ⟨gs, hs1, hs2⟩ := hD.2.1
    refine mw_aald B hI 1 hs1 rfl (c_.toNat) (by omega) (by omega) (by decide) (hs2 _ (by omega)) dX2_ratio_43 ?_
    refine mv_aload_n B dX2_ratio_44 rfl (lv_at hl 0 rfl) ?_
    refine mw_get (C := RX2) (T := TX2) (N := 7) B hI hD.1 uin_X2 rfl 0 (by decide) kw_68 rfl dX2_ratio_45 ?_
    refine mv_iload_n B dX2_ratio_48 rfl (lv_at hl 2 rfl) ?_
    obtain ⟨gs, hs1, hs2⟩ := hD.2.1
    refine mw_aald B hI 1 hs1 rfl (b.toNat) (by omega) (by omega) (by decide) (hs2 _ (by omega)) dX2_ratio_49 ?_
    obtain ⟨_, _, _, cc, -, -⟩ := id (hD.rp (i := 19) (by omega))
    refine mw_callv hI hA (va_runV (As := [.ref ((w (c_.toNat))), .ref ((w (b.toNat)))]) (rest := []) B.fix (t_X1_takeProduct l D kA H.size f (hD.rp (i := 19) (by omega)).w (hD.rp (i := c_.toNat) (by omega)) (hD.rp (i := b.toNat) (by omega)) (hD.ne (i := c_.toNat) (j := 19) (by omega) (by omega) (by omega)).1 (hD.ne (i := c_.toNat) (j := 19) (by omega) (by omega) (by omega)).2 (hD.ne (i := b.toNat) (j := 19) (by omega) (by omega) (by omega)).1 (hD.ne (i := b.toNat) (j := 19) (by omega) (by omega) (by omega)).2 (by rw [hsl _ (by omega)]; exact hB _ (by omega)) (by rw [hsl _ (by omega)]; exact hB _ (by omega))) (cwV 2 B.2.2.2.2.1 (gV kw_114 kw_115 kw_116 kw_2 kw_117) rfl rfl rfl (by decide +kernel) ⟨Nat.le_of_ble_eq_true rfl, Nat.le_of_ble_eq_true rfl⟩) ⟨mw_blind st_S.blind, mw_recv B hI cc rfl, mw_pre B hI (hSt.call hI hA)⟩ rfl rfl hl.1 rfl (lv_room (Nat.le_of_ble_eq_true rfl)) dX2_ratio_50 ⟨Nat.le_of_ble_eq_true rfl, Nat.le_of_ble_eq_true rfl⟩) (fun f H locs hp hI2 => ?_)
    clear hI
    have hI := hI2
    clear hI2
    obtain ⟨hR, o1⟩ := hp
    have ho : ∀ k, ¬ dks d sl pa w ra k → f k = f0 k := fun k h => (o1 k (dks_w h (show 19 < 24 by omega)).1 (dks_w h (show 19 < 24 by omega)).2).trans (ho k h)
    obtain ⟨Y2, hY2, hD⟩ : ∃ Z, Z = upI Y1 (19) (Y1 (c_.toNat) * Y1 (b.toNat)) ∧ DK kA f d sl pa w ra Z := ⟨_, rfl, hD.upd (t := 19) (by omega) hR o1⟩
    have v2 : Y2 (19) = Y1 (c_.toNat) * Y1 (b.toNat) := by rw [hY2, upI_self]
    have r2 : ∀ i, i ≠ 19 → Y2 i = Y1 i := fun i hi => by rw [hY2, upI_ne _ _ hi]
    have hsl : ∀ i, i < 16 → Y2 i = Y i := fun i hi => (r2 i (by omega)).trans (hsl i hi)
    have w1 : Y2 18 = Y a.toNat * Y e_.toNat := by rw [r2 18 (by decide), v1]
    have w2 : Y2 19 = Y c_.toNat * Y b.toNat := by rw [v2, r1 _ (by omega), r1 _ (by omega)]
    refine mv_aload_n B dX2_ratio_53 rfl (lv_at hl 0 rfl) ?_
    refine mw_get (C := RX2) (T := TX2) (N := 7) B hI hD.1 uin_X2 rfl 0 (by decide) kw_68 rfl dX2_ratio_54 ?_
    refine mv_iload_n B dX2_ratio_57 rfl (lv_at hl 2 rfl) ?_
    obtain ⟨gs, hs1, hs2⟩ := hD.2.1
    refine mw_aald B hI 1 hs1 rfl (b.toNat) (by omega) (by omega) (by decide) (hs2 _ (by omega)) dX2_ratio_58 ?_
    obtain ⟨gB, nB, bB, cB, -, zB⟩ := id (hD.rp (i := b.toNat) (by omega))
    have qB := zB.b0
    refine ww_below B hI cB uin_X1 kw_29 dX2_ratio_59 ?_
    refine mv_aload_n B dX2_ratio_62 rfl (lv_at hl 0 rfl) ?_
    refine mw_get (C := RX2) (T := TX2) (N := 7) B hI hD.1 uin_X2 rfl 0 (by decide) kw_68 rfl dX2_ratio_63 ?_
    refine mv_iload B dX2_ratio_66 (lv_at hl 4 rfl) ?_
    obtain ⟨gs, hs1, hs2⟩ := hD.2.1
    refine mw_aald B hI 1 hs1 rfl (e_.toNat) (by omega) (by omega) (by decide) (hs2 _ (by omega)) dX2_ratio_68 ?_
    obtain ⟨gE, nE, bE, cE, -, zE⟩ := id (hD.rp (i := e_.toNat) (by omega))
    have qE := zE.b0
    refine ww_below B hI cE uin_X1 kw_29 dX2_ratio_69 ?_
    rw [hsl _ (by omega)] at qB qE
    have j80 : ∀ (tu : Int), tu = (if bB = bE then 0 else 1) → W p l e rm_X2_ratio s m ([.ref d, .int (iI (a)), .int (iI (b)), .int (iI (c_)), .int (iI (e_))] : List Value).toArray below meth c H locs 0 0 Q (F0 m 80 ls [.int (iI (tu))]) := by
      intro tu htu
      refine mv_istore (lv' := [(5, .int (iI (tu))), (0, .ref d), (1, .int (iI (a))), (2, .int (iI (b))), (3, .int (iI (c_))), (4, .int (iI (e_)))]) B dX2_ratio_80 hl (by decide) rfl (fun ls hl => ?_)
      refine mv_iconst B dX2_ratio_82 ?_
      refine mv_iload B dX2_ratio_83 (lv_at hl 0 rfl) ?_
      refine mv_if_eq (tgt := 102) B dX2_ratio_85 (by decide) (by omega) (fun hd5 => ?_) (fun hd5 => ?_)
      · refine mv_aload_n B dX2_ratio_102 rfl (lv_at hl 1 rfl) ?_
        refine mw_get (C := RX2) (T := TX2) (N := 7) B hI hD.1 uin_X2 rfl 3 (by decide) kw_71 rfl dX2_ratio_103 ?_
        refine mv_aload_n B dX2_ratio_106 rfl (lv_at hl 1 rfl) ?_
        refine mw_get (C := RX2) (T := TX2) (N := 7) B hI hD.1 uin_X2 rfl 4 (by decide) kw_72 rfl dX2_ratio_107 ?_
        obtain ⟨_, _, _, cc, -, -⟩ := id (hD.rp (i := 18) (by omega))
        refine mw_calli hI hA (va_runV (As := [.ref ((w 19))]) (rest := [.int (iI (1))]) B.fix (t_X1_compareWhole l D kA H.size f (hD.rp (i := 18) (by omega)) (hD.rp (i := 19) (by omega))) (cwV 1 B.2.2.2.2.1 (gV kw_309 kw_310 kw_311 kw_2 kw_312) rfl rfl rfl (by decide +kernel) ⟨Nat.le_of_ble_eq_true rfl, Nat.le_of_ble_eq_true rfl⟩) ⟨mw_blind st_S.blind, mw_recv B hI cc rfl, mw_pre B hI (hSt.call hI hA)⟩ rfl rfl hl.1 rfl (lv_room (Nat.le_of_ble_eq_true rfl)) dX2_ratio_110 ⟨Nat.le_of_ble_eq_true rfl, Nat.le_of_ble_eq_true rfl⟩) (fun r f H locs hp hI2 => ?_)
        clear hI
        have hI := hI2
        clear hI2
        obtain ⟨rfl, rfl⟩ := hp
        refine mv_iadd B dX2_ratio_113 ?_
        have hee : (Y b.toNat < 0) = (Y e_.toNat < 0) := propext (by split at htu <;> omega)
        exact mw_iret B hQ hrt hI ⟨by rw [e9, if_pos hee, w1, w2], ⟨_, hD, hsl⟩, ho⟩ dX2_ratio_114
      · refine mv_aload_n B dX2_ratio_88 rfl (lv_at hl 1 rfl) ?_
        refine mw_get (C := RX2) (T := TX2) (N := 7) B hI hD.1 uin_X2 rfl 4 (by decide) kw_72 rfl dX2_ratio_89 ?_
        refine mv_aload_n B dX2_ratio_92 rfl (lv_at hl 1 rfl) ?_
        refine mw_get (C := RX2) (T := TX2) (N := 7) B hI hD.1 uin_X2 rfl 3 (by decide) kw_71 rfl dX2_ratio_93 ?_
        obtain ⟨_, _, _, cc, -, -⟩ := id (hD.rp (i := 19) (by omega))
        refine mw_calli hI hA (va_runV (As := [.ref ((w 18))]) (rest := [.int (iI (1))]) B.fix (t_X1_compareWhole l D kA H.size f (hD.rp (i := 19) (by omega)) (hD.rp (i := 18) (by omega))) (cwV 1 B.2.2.2.2.1 (gV kw_309 kw_310 kw_311 kw_2 kw_312) rfl rfl rfl (by decide +kernel) ⟨Nat.le_of_ble_eq_true rfl, Nat.le_of_ble_eq_true rfl⟩) ⟨mw_blind st_S.blind, mw_recv B hI cc rfl, mw_pre B hI (hSt.call hI hA)⟩ rfl rfl hl.1 rfl (lv_room (Nat.le_of_ble_eq_true rfl)) dX2_ratio_96 ⟨Nat.le_of_ble_eq_true rfl, Nat.le_of_ble_eq_true rfl⟩) (fun r f H locs hp hI2 => ?_)
        clear hI
        have hI := hI2
        clear hI2
        obtain ⟨rfl, rfl⟩ := hp
        refine mv_goto (tgt := 113) B dX2_ratio_99 (by decide) ?_
        refine mv_iadd B dX2_ratio_113 ?_
        have hee : ¬ (Y b.toNat < 0) = (Y e_.toNat < 0) := fun q => by
          have q2 : Y b.toNat < 0 ↔ Y e_.toNat < 0 := by rw [q]
          split at htu <;> omega
        exact mw_iret B hQ hrt hI ⟨by rw [e9, if_neg hee, w1, w2], ⟨_, hD, hsl⟩, ho⟩ dX2_ratio_114
    refine mv_icmp_eq (tgt := 79) B dX2_ratio_72 (by decide) (by omega) (fun hd4 => ?_) (fun hd4 => ?_)
    · refine mv_iconst B dX2_ratio_79 ?_
      exact j80 _ (by rw [if_pos hd4])
    · refine mv_iconst B dX2_ratio_75 ?_
      refine mv_goto (tgt := 80) B dX2_ratio_76 (by decide) ?_
      exact j80 _ (by rw [if_neg hd4])
  · have h1 : ¬ (sOk a ∧ sOk b ∧ sOk c_ ∧ sOk e_ ∧ Y b.toNat ≠ 0 ∧ Y e_.toNat ≠ 0) := fun q => by rw [if_pos q] at hc; exact absurd hc (by decide)
    refine mv_iconst B dX2_ratio_12 ?_
    have e9 : sp_ratio Y a b c_ e_ = -1 := by unfold sp_ratio; rw [if_neg h1]
    exact mw_iret B hQ hrt hI ⟨by rw [e9], ⟨_, hD, hsl⟩, ho⟩ dX2_ratio_13
abbrev rm_X2_keepLowest : Room := { frames := 4, cells := 0, slots := 0, locals := 108 }
set_option maxHeartbeats 4000000 in
set_option maxRecDepth 100000 in
/-- keepLowest -/
theorem t_X2_keepLowest (l : Launch) (D : va_G) (kA : Nat → ClassId) (sz : Nat) (f0 : mw_M) {d sl pa : Nat} {w ra : Nat → Nat} {Y : Nat → Int} {a b : Int} (hD : DK kA f0 d sl pa w ra Y) (hB : ∀ i, i < 16 → ((Y i).natAbs : Int) < 1000000 ^ 50) (h1 : sOk a ∧ sOk b) (hab : a ≠ b) (hq0 : Y 17 ≠ 0) (k1 : ((Y 16).natAbs : Int) < 1000000 ^ 103) (k2 : ((Y 17).natAbs : Int) < 1000000 ^ 103) : mw_Mi l yX2_keepLowest (Cond.code yX2_keepLowest cX2_keepLowest 4 ((some .int)) :: gw) rm_X2_keepLowest D vwCl (tyL kA) st_S [.ref d, .int (iI (a)), .int (iI (b))] f0 sz (fun v f => v = iI (kp2 Y a b (Y 16) (Y 17)).1 ∧ (∃ Y', DK kA f d sl pa w ra Y' ∧ ∀ i, i < 16 → Y' i = (kp2 Y a b (Y 16) (Y 17)).2 i) ∧ ∀ k, ¬ dks d sl pa w ra k → f k = f0 k) 0 0 := by
  refine mw_ofi (cc := cX2_keepLowest) (maxL := 4) (ret := (some .int)) (by decide) rfl (Nat.le_of_ble_eq_true rfl) ?_
  intro p e s m below meth c A ls Q hQ B hrt hnm hA hI hSt hl
  have hl : lv_has ls 4 [(0, .ref d), (1, .int (iI (a))), (2, .int (iI (b)))] := hl
  obtain ⟨f, hI, hf⟩ : ∃ f, mw_I D vwCl A s s.heap [] f ∧ f = f0 := ⟨f0, hI, rfl⟩
  rw [← hf] at hD
  have ho : ∀ k, ¬ dks d sl pa w ra k → f k = f0 k := fun k _ => by rw [hf]
  have hsl : ∀ i, i < 16 → Y i = Y i := fun _ _ => rfl
  have G0 := gcd_pos_ (p := Y 16) hq0
  obtain ⟨G, hG⟩ : ∃ G, G = (Int.gcd (Y 16) (Y 17) : Int) := ⟨_, rfl⟩
  rw [← hG] at G0
  refine mv_aload_n B dX2_keepLowest_0 rfl (lv_at hl 0 rfl) ?_
  refine mw_get (C := RX2) (T := TX2) (N := 7) B hI hD.1 uin_X2 rfl 6 (by decide) kw_74 rfl dX2_keepLowest_1 ?_
  refine mv_aload_n B dX2_keepLowest_4 rfl (lv_at hl 0 rfl) ?_
  refine mw_get (C := RX2) (T := TX2) (N := 7) B hI hD.1 uin_X2 rfl 1 (by decide) kw_69 rfl dX2_keepLowest_5 ?_
  refine mv_aload_n B dX2_keepLowest_8 rfl (lv_at hl 0 rfl) ?_
  refine mw_get (C := RX2) (T := TX2) (N := 7) B hI hD.1 uin_X2 rfl 2 (by decide) kw_70 rfl dX2_keepLowest_9 ?_
  obtain ⟨mo, rmo, fe, rfe, pa1, pa2, pa3, pa4, hsw, hpq⟩ := id hD.2.2.1
  obtain ⟨hpm, hpf, hpn⟩ := swp_rp hsw (hD.rp (i := 22) (by omega)) (hD.rp (i := 23) (by omega)) (hD.ne (i := 22) (j := 23) (by omega) (by omega) (by omega)).1 (hD.ne (i := 22) (j := 23) (by omega) (by omega) (by omega)).2 (hD.ne (i := 21) (j := 22) (by omega) (by omega) (by omega)).1 (hD.ne (i := 21) (j := 23) (by omega) (by omega) (by omega)).1 (hD.ne (i := 21) (j := 22) (by omega) (by omega) (by omega)).2 (hD.ne (i := 21) (j := 23) (by omega) (by omega) (by omega)).2
  have nxa := swp_ne hsw (hD.ne (i := 16) (j := 22) (by omega) (by omega) (by omega)).1 (hD.ne (i := 16) (j := 23) (by omega) (by omega) (by omega)).1 (hD.ne (i := 16) (j := 22) (by omega) (by omega) (by omega)).2 (hD.ne (i := 16) (j := 23) (by omega) (by omega) (by omega)).2
  have nxb := swp_ne hsw (hD.ne (i := 17) (j := 22) (by omega) (by omega) (by omega)).1 (hD.ne (i := 17) (j := 23) (by omega) (by omega) (by omega)).1 (hD.ne (i := 17) (j := 22) (by omega) (by omega) (by omega)).2 (hD.ne (i := 17) (j := 23) (by omega) (by omega) (by omega)).2
  refine mw_callr hI hA (va_runV (As := [.ref ((w 16)), .ref ((w 17))]) (rest := []) B.fix (t_X0_commonDivisor l D kA s.heap.size f hpq (hD.rp (i := 21) (by omega)) hpm.choose_spec hpf.choose_spec (hD.rp (i := 16) (by omega)) (hD.rp (i := 17) (by omega)) hpn.1 hpn.2.1 hpn.2.2.1 hpn.2.2.2.1 hpn.2.2.2.2.1 hpn.2.2.2.2.2 nxa.1 nxa.2.1 nxa.2.2.1 nxa.2.2.2 nxb.1 nxb.2.1 nxb.2.2.1 nxb.2.2.2 (by omega) (by omega)) (cwV 2 B.2.2.2.2.1 (gV kw_224 kw_225 kw_226 kw_3 kw_227) rfl rfl rfl (by decide +kernel) ⟨Nat.le_of_ble_eq_true rfl, Nat.le_of_ble_eq_true rfl⟩) ⟨mw_blind st_S.blind, mw_recv B hI hpq rfl, mw_pre B hI (hSt.call hI hA)⟩ rfl rfl hl.1 rfl (lv_room (Nat.le_of_ble_eq_true rfl)) dX2_keepLowest_12 ⟨Nat.le_of_ble_eq_true rfl, Nat.le_of_ble_eq_true rfl⟩) (fun r f H locs hp hI2 => ?_)
  clear hI
  have hI := hI2
  clear hI2
  obtain ⟨u1, Y1, hu1, hu2, hD, hg1, r1, o1⟩ := hD.cd hsw hp
  subst hu2
  have ho : ∀ k, ¬ dks d sl pa w ra k → f k = f0 k := fun k h => (o1 k h).trans (ho k h)
  have hsl : ∀ i, i < 16 → Y1 i = Y i := fun i hi => (r1 i (by omega)).trans (hsl i hi)
  rw [← hG] at hg1
  have p16 : Y1 16 = Y 16 := r1 _ (by omega)
  have p17 : Y1 17 = Y 17 := r1 _ (by omega)
  refine mv_astore_n (lv' := [(3, .ref ((w u1))), (0, .ref d), (1, .int (iI (a))), (2, .int (iI (b)))]) B dX2_keepLowest_15 rfl hl (by decide) rfl (fun ls hl => ?_)
  refine mv_aload_n B dX2_keepLowest_16 rfl (lv_at hl 1 rfl) ?_
  refine mw_get (C := RX2) (T := TX2) (N := 7) B hI hD.1 uin_X2 rfl 1 (by decide) kw_69 rfl dX2_keepLowest_17 ?_
  refine mv_aload_n B dX2_keepLowest_20 rfl (lv_at hl 0 rfl) ?_
  refine mv_aload_n B dX2_keepLowest_21 rfl (lv_at hl 1 rfl) ?_
  refine mw_get (C := RX2) (T := TX2) (N := 7) B hI hD.1 uin_X2 rfl 3 (by decide) kw_71 rfl dX2_keepLowest_22 ?_
  obtain ⟨_, _, _, cc, -, -⟩ := id (hD.rp (i := 16) (by omega))
  refine mw_callv hI hA (va_runV (As := [.ref ((w u1)), .ref ((w 18))]) (rest := []) B.fix (t_X1_divideBy l D kA H.size f (hD.rp (i := 16) (by omega)) (hD.rp (i := u1) (by omega)) (hD.rp (i := 18) (by omega)).w (hD.ne (i := u1) (j := 16) (by omega) (by omega) (by omega)).1 (hD.ne (i := u1) (j := 16) (by omega) (by omega) (by omega)).2 (hD.ne (i := 18) (j := 16) (by omega) (by omega) (by omega)).1 (hD.ne (i := 18) (j := 16) (by omega) (by omega) (by omega)).2 (hD.ne (i := 18) (j := u1) (by omega) (by omega) (by omega)).1 (hD.ne (i := 18) (j := u1) (by omega) (by omega) (by omega)).2 (by rw [hg1]; omega) (by rw [p16]; omega)) (cwV 2 B.2.2.2.2.1 (gV kw_195 kw_196 kw_197 kw_2 kw_198) rfl rfl rfl (by decide +kernel) ⟨Nat.le_of_ble_eq_true rfl, Nat.le_of_ble_eq_true rfl⟩) ⟨mw_blind st_S.blind, mw_recv B hI cc rfl, mw_pre B hI (hSt.call hI hA)⟩ rfl rfl hl.1 rfl (lv_room (Nat.le_of_ble_eq_true rfl)) dX2_keepLowest_25 ⟨Nat.le_of_ble_eq_true rfl, Nat.le_of_ble_eq_true rfl⟩) (fun f H locs hp hI2 => ?_)
  clear hI
  have hI := hI2
  clear hI2
  obtain ⟨hR, hR2, o1⟩ := hp
  have ho : ∀ k, ¬ dks d sl pa w ra k → f k = f0 k := fun k h => (o1 k (dks_w h (show 16 < 24 by omega)).1 (dks_w h (show 16 < 24 by omega)).2 (dks_w h (show 18 < 24 by omega)).1 (dks_w h (show 18 < 24 by omega)).2).trans (ho k h)
  obtain ⟨Y2, hY2, hD⟩ : ∃ Z, Z = upI (upI Y1 (16) ((Y1 (16)).tmod (Y1 (u1)))) (18) ((Y1 (16)).tdiv (Y1 (u1))) ∧ DK kA f d sl pa w ra Z := ⟨_, rfl, hD.upd2 (t := 16) (u := 18) (by omega) (by omega) (by omega) hR hR2 o1⟩
  have v2 : Y2 (16) = (Y1 (16)).tmod (Y1 (u1)) := by rw [hY2, upI_ne _ _ (by omega), upI_self]
  have u2 : Y2 (18) = (Y1 (16)).tdiv (Y1 (u1)) := by rw [hY2, upI_self]
  have r2 : ∀ i, i ≠ 16 → i ≠ 18 → Y2 i = Y1 i := fun i hi hj => by rw [hY2, upI_ne _ _ hj, upI_ne _ _ hi]
  have hsl : ∀ i, i < 16 → Y2 i = Y i := fun i hi => (r2 i (by omega) (by omega)).trans (hsl i hi)
  rw [p16, hg1] at u2
  have gg : Y2 u1 = G := by rw [r2 _ (by omega) (by omega)]; exact hg1
  have q17 : Y2 17 = Y 17 := by rw [r2 _ (by omega) (by omega)]; exact p17
  refine mv_aload_n B dX2_keepLowest_28 rfl (lv_at hl 1 rfl) ?_
  refine mw_get (C := RX2) (T := TX2) (N := 7) B hI hD.1 uin_X2 rfl 2 (by decide) kw_70 rfl dX2_keepLowest_29 ?_
  refine mv_aload_n B dX2_keepLowest_32 rfl (lv_at hl 0 rfl) ?_
  refine mv_aload_n B dX2_keepLowest_33 rfl (lv_at hl 1 rfl) ?_
  refine mw_get (C := RX2) (T := TX2) (N := 7) B hI hD.1 uin_X2 rfl 4 (by decide) kw_72 rfl dX2_keepLowest_34 ?_
  obtain ⟨_, _, _, cc, -, -⟩ := id (hD.rp (i := 17) (by omega))
  refine mw_callv hI hA (va_runV (As := [.ref ((w u1)), .ref ((w 19))]) (rest := []) B.fix (t_X1_divideBy l D kA H.size f (hD.rp (i := 17) (by omega)) (hD.rp (i := u1) (by omega)) (hD.rp (i := 19) (by omega)).w (hD.ne (i := u1) (j := 17) (by omega) (by omega) (by omega)).1 (hD.ne (i := u1) (j := 17) (by omega) (by omega) (by omega)).2 (hD.ne (i := 19) (j := 17) (by omega) (by omega) (by omega)).1 (hD.ne (i := 19) (j := 17) (by omega) (by omega) (by omega)).2 (hD.ne (i := 19) (j := u1) (by omega) (by omega) (by omega)).1 (hD.ne (i := 19) (j := u1) (by omega) (by omega) (by omega)).2 (by rw [gg]; omega) (by rw [q17]; omega)) (cwV 2 B.2.2.2.2.1 (gV kw_195 kw_196 kw_197 kw_2 kw_198) rfl rfl rfl (by decide +kernel) ⟨Nat.le_of_ble_eq_true rfl, Nat.le_of_ble_eq_true rfl⟩) ⟨mw_blind st_S.blind, mw_recv B hI cc rfl, mw_pre B hI (hSt.call hI hA)⟩ rfl rfl hl.1 rfl (lv_room (Nat.le_of_ble_eq_true rfl)) dX2_keepLowest_37 ⟨Nat.le_of_ble_eq_true rfl, Nat.le_of_ble_eq_true rfl⟩) (fun f H locs hp hI2 => ?_)
  clear hI
  have hI := hI2
  clear hI2
  obtain ⟨hR, hR2, o1⟩ := hp
  have ho : ∀ k, ¬ dks d sl pa w ra k → f k = f0 k := fun k h => (o1 k (dks_w h (show 17 < 24 by omega)).1 (dks_w h (show 17 < 24 by omega)).2 (dks_w h (show 19 < 24 by omega)).1 (dks_w h (show 19 < 24 by omega)).2).trans (ho k h)
  obtain ⟨Y3, hY3, hD⟩ : ∃ Z, Z = upI (upI Y2 (17) ((Y2 (17)).tmod (Y2 (u1)))) (19) ((Y2 (17)).tdiv (Y2 (u1))) ∧ DK kA f d sl pa w ra Z := ⟨_, rfl, hD.upd2 (t := 17) (u := 19) (by omega) (by omega) (by omega) hR hR2 o1⟩
  have v3 : Y3 (17) = (Y2 (17)).tmod (Y2 (u1)) := by rw [hY3, upI_ne _ _ (by omega), upI_self]
  have u3 : Y3 (19) = (Y2 (17)).tdiv (Y2 (u1)) := by rw [hY3, upI_self]
  have r3 : ∀ i, i ≠ 17 → i ≠ 19 → Y3 i = Y2 i := fun i hi hj => by rw [hY3, upI_ne _ _ hj, upI_ne _ _ hi]
  have hsl : ∀ i, i < 16 → Y3 i = Y i := fun i hi => (r3 i (by omega) (by omega)).trans (hsl i hi)
  rw [q17, gg] at u3
  have w18 : Y3 18 = (Y 16).tdiv G := by rw [r3 _ (by omega) (by omega)]; exact u2
  have lw := lw_neg G0 (show G ∣ Y 17 by rw [hG]; exact Int.gcd_dvd_right ..)
  refine mv_aload_n B dX2_keepLowest_40 rfl (lv_at hl 1 rfl) ?_
  refine mw_get (C := RX2) (T := TX2) (N := 7) B hI hD.1 uin_X2 rfl 4 (by decide) kw_72 rfl dX2_keepLowest_41 ?_
  obtain ⟨gS, nS, bS, cS, -, zS⟩ := id (hD.rp (i := 19) (by omega))
  have qS := zS.b0
  refine ww_below B hI cS uin_X1 kw_29 dX2_keepLowest_44 ?_
  rw [u3] at qS
  have j64 : ∀ (Yc : Nat → Int) (f : mw_M) (H : Heap) (locs : List Loc), DK kA f d sl pa w ra Yc → (∀ i, i < 16 → Yc i = Y i) → Yc 18 = lwN (Y 16) (Y 17) → Yc 19 = lwD (Y 16) (Y 17) → (∀ k, ¬ dks d sl pa w ra k → f k = f0 k) → mw_I D vwCl A s H locs f → W p l e rm_X2_keepLowest s m ([.ref d, .int (iI (a)), .int (iI (b))] : List Value).toArray below meth c H locs 0 0 Q (F0 m 64 ls []) := by
    intro Yc f H locs hD hsl w1 w2 ho hI
    refine mv_aload_n B dX2_keepLowest_64 rfl (lv_at hl 1 rfl) ?_
    refine mw_get (C := RX2) (T := TX2) (N := 7) B hI hD.1 uin_X2 rfl 3 (by decide) kw_71 rfl dX2_keepLowest_65 ?_
    obtain ⟨g, n, b_, c1, c2, c3_⟩ := id (hD.rp (i := 18) (by omega))
    have m1 := c3_.1
    have m2 := c3_.size 50
    refine mw_calli hI hA (va_runV (As := []) (rest := []) B.fix (t_X1_isTooLong l D kA H.size f c1 (by omega)) (cwV 0 B.2.2.2.2.1 (gV kw_149 kw_150 kw_151 kw_2 kw_152) rfl rfl rfl (by decide +kernel) ⟨Nat.le_of_ble_eq_true rfl, Nat.le_of_ble_eq_true rfl⟩) ⟨mw_blind st_S.blind, mw_recv B hI c1 rfl, mw_pre B hI (hSt.call hI hA)⟩ rfl rfl hl.1 rfl (lv_room (Nat.le_of_ble_eq_true rfl)) dX2_keepLowest_68 ⟨Nat.le_of_ble_eq_true rfl, Nat.le_of_ble_eq_true rfl⟩) (fun r f H locs hp hI2 => ?_)
    clear hI
    have hI := hI2
    clear hI2
    obtain ⟨rfl, rfl⟩ := hp
    rw [w1] at m2
    refine mv_if_ne (tgt := 84) B dX2_keepLowest_71 (by decide) (by split <;> omega) (fun hd1 => ?_) (fun hd1 => ?_)
    · have hx : ¬ ((lwN (Y 16) (Y 17)).natAbs : Int) < 1000000 ^ 50 := fun q => hd1 (by rw [if_pos (by have := m2.mpr q; omega)])
      have e9 := kp2_n (Y := Y) (a := a) (b := b) (fun q => hx q.1)
      refine mv_iconst B dX2_keepLowest_84 ?_
      exact mw_iret B hQ hrt hI ⟨by rw [e9], ⟨_, hD, fun i hi => (hsl i hi).trans (by rw [e9])⟩, ho⟩ dX2_keepLowest_85
    · have f1 : ((lwN (Y 16) (Y 17)).natAbs : Int) < 1000000 ^ 50 := m2.mp (by
        by_cases q : (n : Int) ≤ 50
        · omega
        · rw [if_neg q] at hd1; exact absurd hd1 (by decide))
      refine mv_aload_n B dX2_keepLowest_74 rfl (lv_at hl 1 rfl) ?_
      refine mw_get (C := RX2) (T := TX2) (N := 7) B hI hD.1 uin_X2 rfl 4 (by decide) kw_72 rfl dX2_keepLowest_75 ?_
      obtain ⟨g, n, b_, c1, c2, c3_⟩ := id (hD.rp (i := 19) (by omega))
      have m1 := c3_.1
      have m2 := c3_.size 50
      refine mw_calli hI hA (va_runV (As := []) (rest := []) B.fix (t_X1_isTooLong l D kA H.size f c1 (by omega)) (cwV 0 B.2.2.2.2.1 (gV kw_149 kw_150 kw_151 kw_2 kw_152) rfl rfl rfl (by decide +kernel) ⟨Nat.le_of_ble_eq_true rfl, Nat.le_of_ble_eq_true rfl⟩) ⟨mw_blind st_S.blind, mw_recv B hI c1 rfl, mw_pre B hI (hSt.call hI hA)⟩ rfl rfl hl.1 rfl (lv_room (Nat.le_of_ble_eq_true rfl)) dX2_keepLowest_78 ⟨Nat.le_of_ble_eq_true rfl, Nat.le_of_ble_eq_true rfl⟩) (fun r f H locs hp hI2 => ?_)
      clear hI
      have hI := hI2
      clear hI2
      obtain ⟨rfl, rfl⟩ := hp
      rw [w2] at m2
      refine mv_if_eq (tgt := 86) B dX2_keepLowest_81 (by decide) (by split <;> omega) (fun hd2 => ?_) (fun hd2 => ?_)
      · have f2 : ((lwD (Y 16) (Y 17)).natAbs : Int) < 1000000 ^ 50 := m2.mp (by
          by_cases q : (n : Int) ≤ 50
          · omega
          · rw [if_neg q] at hd2; exact absurd hd2 (by decide))
        have e9 := kp2_y (Y := Y) (a := a) (b := b) f1 f2
        refine mv_aload_n B dX2_keepLowest_86 rfl (lv_at hl 1 rfl) ?_
        refine mw_get (C := RX2) (T := TX2) (N := 7) B hI hD.1 uin_X2 rfl 0 (by decide) kw_68 rfl dX2_keepLowest_87 ?_
        refine mv_iload_n B dX2_keepLowest_90 rfl (lv_at hl 2 rfl) ?_
        obtain ⟨gs, hs1, hs2⟩ := hD.2.1
        refine mw_aald B hI 1 hs1 rfl (a.toNat) (by omega) (by omega) (by decide) (hs2 _ (by omega)) dX2_keepLowest_91 ?_
        refine mv_aload_n B dX2_keepLowest_92 rfl (lv_at hl 1 rfl) ?_
        refine mw_get (C := RX2) (T := TX2) (N := 7) B hI hD.1 uin_X2 rfl 3 (by decide) kw_71 rfl dX2_keepLowest_93 ?_
        obtain ⟨_, _, _, cc, -, -⟩ := id (hD.rp (i := a.toNat) (by omega))
        refine mw_callv hI hA (va_runV (As := [.ref ((w 18))]) (rest := []) B.fix (t_X1_take l D kA H.size f (hD.rp (i := a.toNat) (by omega)).w (hD.rp (i := 18) (by omega)) (Or.inr (hD.ne (i := 18) (j := a.toNat) (by omega) (by omega) (by omega)))) (cwV 1 B.2.2.2.2.1 (gV kw_153 kw_154 kw_155 kw_2 kw_156) rfl rfl rfl (by decide +kernel) ⟨Nat.le_of_ble_eq_true rfl, Nat.le_of_ble_eq_true rfl⟩) ⟨mw_blind st_S.blind, mw_recv B hI cc rfl, mw_pre B hI (hSt.call hI hA)⟩ rfl rfl hl.1 rfl (lv_room (Nat.le_of_ble_eq_true rfl)) dX2_keepLowest_96 ⟨Nat.le_of_ble_eq_true rfl, Nat.le_of_ble_eq_true rfl⟩) (fun f H locs hp hI2 => ?_)
        clear hI
        have hI := hI2
        clear hI2
        obtain ⟨hR, o1⟩ := hp
        have ho : ∀ k, ¬ dks d sl pa w ra k → f k = f0 k := fun k h => (o1 k (dks_w h (show a.toNat < 24 by omega)).1 (dks_w h (show a.toNat < 24 by omega)).2).trans (ho k h)
        have hD := hD.upd (t := a.toNat) (by omega) hR o1
        refine mv_aload_n B dX2_keepLowest_99 rfl (lv_at hl 1 rfl) ?_
        refine mw_get (C := RX2) (T := TX2) (N := 7) B hI hD.1 uin_X2 rfl 0 (by decide) kw_68 rfl dX2_keepLowest_100 ?_
        refine mv_iload_n B dX2_keepLowest_103 rfl (lv_at hl 3 rfl) ?_
        obtain ⟨gs, hs1, hs2⟩ := hD.2.1
        refine mw_aald B hI 1 hs1 rfl (b.toNat) (by omega) (by omega) (by decide) (hs2 _ (by omega)) dX2_keepLowest_104 ?_
        refine mv_aload_n B dX2_keepLowest_105 rfl (lv_at hl 1 rfl) ?_
        refine mw_get (C := RX2) (T := TX2) (N := 7) B hI hD.1 uin_X2 rfl 4 (by decide) kw_72 rfl dX2_keepLowest_106 ?_
        obtain ⟨_, _, _, cc, -, -⟩ := id (hD.rp (i := b.toNat) (by omega))
        refine mw_callv hI hA (va_runV (As := [.ref ((w 19))]) (rest := []) B.fix (t_X1_take l D kA H.size f (hD.rp (i := b.toNat) (by omega)).w (hD.rp (i := 19) (by omega)) (Or.inr (hD.ne (i := 19) (j := b.toNat) (by omega) (by omega) (by omega)))) (cwV 1 B.2.2.2.2.1 (gV kw_153 kw_154 kw_155 kw_2 kw_156) rfl rfl rfl (by decide +kernel) ⟨Nat.le_of_ble_eq_true rfl, Nat.le_of_ble_eq_true rfl⟩) ⟨mw_blind st_S.blind, mw_recv B hI cc rfl, mw_pre B hI (hSt.call hI hA)⟩ rfl rfl hl.1 rfl (lv_room (Nat.le_of_ble_eq_true rfl)) dX2_keepLowest_109 ⟨Nat.le_of_ble_eq_true rfl, Nat.le_of_ble_eq_true rfl⟩) (fun f H locs hp hI2 => ?_)
        clear hI
        have hI := hI2
        clear hI2
        obtain ⟨hR, o1⟩ := hp
        have ho : ∀ k, ¬ dks d sl pa w ra k → f k = f0 k := fun k h => (o1 k (dks_w h (show b.toNat < 24 by omega)).1 (dks_w h (show b.toNat < 24 by omega)).2).trans (ho k h)
        have hD := hD.upd (t := b.toNat) (by omega) hR o1
        have hfin : ∀ i, i < 16 → upI (upI Yc a.toNat (Yc 18)) b.toNat (upI Yc a.toNat (Yc 18) 19) i = upI (upI Y a.toNat (lwN (Y 16) (Y 17))) b.toNat (lwD (Y 16) (Y 17)) i := fun i hi => by
          rw [upI_ne _ _ (show 19 ≠ a.toNat by omega), w1, w2]
          exact upI2_same hsl i hi
        refine mv_iconst B dX2_keepLowest_112 ?_
        exact mw_iret B hQ hrt hI ⟨by rw [e9], ⟨_, hD, fun i hi => (hfin i hi).trans (by rw [e9])⟩, ho⟩ dX2_keepLowest_113
      · have hx : ¬ ((lwD (Y 16) (Y 17)).natAbs : Int) < 1000000 ^ 50 := fun q => hd2 (by rw [if_pos (by have := m2.mpr q; omega)])
        have e9 := kp2_n (Y := Y) (a := a) (b := b) (fun q => hx q.2)
        refine mv_iconst B dX2_keepLowest_84 ?_
        exact mw_iret B hQ hrt hI ⟨by rw [e9], ⟨_, hD, fun i hi => (hsl i hi).trans (by rw [e9])⟩, ho⟩ dX2_keepLowest_85
  refine mv_if_eq (tgt := 64) B dX2_keepLowest_47 (by decide) (by omega) (fun hd0 => ?_) (fun hd0 => ?_)
  · exact j64 Y3 f H locs hD hsl (by rw [w18]; unfold lwN; rw [if_neg (by omega), ← hG]) (by rw [u3]; unfold lwD; rw [lw.2.2 (by omega), ← hG]) ho hI
  · refine mv_aload_n B dX2_keepLowest_50 rfl (lv_at hl 1 rfl) ?_
    refine mw_get (C := RX2) (T := TX2) (N := 7) B hI hD.1 uin_X2 rfl 3 (by decide) kw_71 rfl dX2_keepLowest_51 ?_
    obtain ⟨g, n, b_, c1, c2, c3_⟩ := id (hD.rp (i := 18) (by omega))
    have m1 := c3_.1
    have qq := c3_.b0
    refine mw_callv hI hA (va_runV (As := []) (rest := []) B.fix (t_X1_turnSign l D kA H.size f c1 c2 (by omega) (by omega)) (cwV 0 B.2.2.2.2.1 (gV kw_293 kw_294 kw_295 kw_2 kw_296) rfl rfl rfl (by decide +kernel) ⟨Nat.le_of_ble_eq_true rfl, Nat.le_of_ble_eq_true rfl⟩) ⟨mw_blind st_S.blind, mw_recv B hI c1 rfl, mw_pre B hI (hSt.call hI hA)⟩ rfl rfl hl.1 rfl (lv_room (Nat.le_of_ble_eq_true rfl)) dX2_keepLowest_54 ⟨Nat.le_of_ble_eq_true rfl, Nat.le_of_ble_eq_true rfl⟩) (fun f H locs hp hI2 => ?_)
    clear hI
    have hI := hI2
    clear hI2
    have hp := Rp.turn c3_ hp
    obtain ⟨hR, o1⟩ := hp
    have ho : ∀ k, ¬ dks d sl pa w ra k → f k = f0 k := fun k h => (o1 k (dks_w h (show 18 < 24 by omega)).1 (dks_w h (show 18 < 24 by omega)).2).trans (ho k h)
    obtain ⟨Y4, hY4, hD⟩ : ∃ Z, Z = upI Y3 (18) (-(Y3 18)) ∧ DK kA f d sl pa w ra Z := ⟨_, rfl, hD.upd (t := 18) (by omega) hR o1⟩
    have v4 : Y4 (18) = -(Y3 18) := by rw [hY4, upI_self]
    have r4 : ∀ i, i ≠ 18 → Y4 i = Y3 i := fun i hi => by rw [hY4, upI_ne _ _ hi]
    have hsl : ∀ i, i < 16 → Y4 i = Y i := fun i hi => (r4 i (by omega)).trans (hsl i hi)
    refine mv_aload_n B dX2_keepLowest_57 rfl (lv_at hl 1 rfl) ?_
    refine mw_get (C := RX2) (T := TX2) (N := 7) B hI hD.1 uin_X2 rfl 4 (by decide) kw_72 rfl dX2_keepLowest_58 ?_
    obtain ⟨g, n, b_, c1, c2, c3_⟩ := id (hD.rp (i := 19) (by omega))
    have m1 := c3_.1
    have qq := c3_.b0
    refine mw_callv hI hA (va_runV (As := []) (rest := []) B.fix (t_X1_turnSign l D kA H.size f c1 c2 (by omega) (by omega)) (cwV 0 B.2.2.2.2.1 (gV kw_293 kw_294 kw_295 kw_2 kw_296) rfl rfl rfl (by decide +kernel) ⟨Nat.le_of_ble_eq_true rfl, Nat.le_of_ble_eq_true rfl⟩) ⟨mw_blind st_S.blind, mw_recv B hI c1 rfl, mw_pre B hI (hSt.call hI hA)⟩ rfl rfl hl.1 rfl (lv_room (Nat.le_of_ble_eq_true rfl)) dX2_keepLowest_61 ⟨Nat.le_of_ble_eq_true rfl, Nat.le_of_ble_eq_true rfl⟩) (fun f H locs hp hI2 => ?_)
    clear hI
    have hI := hI2
    clear hI2
    have hp := Rp.turn c3_ hp
    obtain ⟨hR, o1⟩ := hp
    have ho : ∀ k, ¬ dks d sl pa w ra k → f k = f0 k := fun k h => (o1 k (dks_w h (show 19 < 24 by omega)).1 (dks_w h (show 19 < 24 by omega)).2).trans (ho k h)
    obtain ⟨Y5, hY5, hD⟩ : ∃ Z, Z = upI Y4 (19) (-(Y4 19)) ∧ DK kA f d sl pa w ra Z := ⟨_, rfl, hD.upd (t := 19) (by omega) hR o1⟩
    have v5 : Y5 (19) = -(Y4 19) := by rw [hY5, upI_self]
    have r5 : ∀ i, i ≠ 19 → Y5 i = Y4 i := fun i hi => by rw [hY5, upI_ne _ _ hi]
    have hsl : ∀ i, i < 16 → Y5 i = Y i := fun i hi => (r5 i (by omega)).trans (hsl i hi)
    exact j64 Y5 f H locs hD hsl (by rw [r5 _ (by decide), v4, w18]; unfold lwN; rw [if_pos (by omega), ← hG]) (by rw [v5, r4 _ (by decide), u3]; unfold lwD; rw [lw.2.1 (by omega), ← hG]) ho hI
abbrev rm_X2_lowest : Room := { frames := 5, cells := 0, slots := 0, locals := 131 }
set_option maxHeartbeats 4000000 in
set_option maxRecDepth 100000 in
/-- lowest -/
theorem t_X2_lowest (l : Launch) (D : va_G) (kA : Nat → ClassId) (sz : Nat) (f0 : mw_M) {d sl pa : Nat} {w ra : Nat → Nat} {Y : Nat → Int} {a b : Int} (hD : DK kA f0 d sl pa w ra Y) (hB : ∀ i, i < 16 → ((Y i).natAbs : Int) < 1000000 ^ 50) (ha : -2147483648 ≤ a ∧ a ≤ 2147483647) (hb : -2147483648 ≤ b ∧ b ≤ 2147483647) : mw_Mi l yX2_lowest (Cond.code yX2_lowest cX2_lowest 3 ((some .int)) :: gw) rm_X2_lowest D vwCl (tyL kA) st_S [.ref d, .int (iI (a)), .int (iI (b))] f0 sz (fun v f => v = iI (sp_lowest Y a b).1 ∧ (∃ Y', DK kA f d sl pa w ra Y' ∧ ∀ i, i < 16 → Y' i = (sp_lowest Y a b).2 i) ∧ ∀ k, ¬ dks d sl pa w ra k → f k = f0 k) 0 0 := by
  refine mw_ofi (cc := cX2_lowest) (maxL := 3) (ret := (some .int)) (by decide) rfl (Nat.le_of_ble_eq_true rfl) ?_
  intro p e s m below meth c A ls Q hQ B hrt hnm hA hI hSt hl
  have hl : lv_has ls 3 [(0, .ref d), (1, .int (iI (a))), (2, .int (iI (b)))] := hl
  obtain ⟨f, hI, hf⟩ : ∃ f, mw_I D vwCl A s s.heap [] f ∧ f = f0 := ⟨f0, hI, rfl⟩
  rw [← hf] at hD
  have ho : ∀ k, ¬ dks d sl pa w ra k → f k = f0 k := fun k _ => by rw [hf]
  have hsl : ∀ i, i < 16 → Y i = Y i := fun _ _ => rfl
  refine mv_iload_n B dX2_lowest_0 rfl (lv_at hl 1 rfl) ?_
  refine mv_iload_n B dX2_lowest_1 rfl (lv_at hl 2 rfl) ?_
  refine mw_calli hI hA (va_runS (As := [.int (iI (a)), .int (iI (b))]) (rest := []) B.fix (t_X2_areSlots l D kA s.heap.size f ha hb) (cwS 2 B.2.2.2.2.1 (gS kw_164 kw_165 kw_1 kw_166) rfl rfl rfl (by decide +kernel) ⟨Nat.le_of_ble_eq_true rfl, Nat.le_of_ble_eq_true rfl⟩) ⟨mw_blind st_S.blind, mw_pre B hI (hSt.call hI hA)⟩ rfl rfl hl.1 rfl (lv_room (Nat.le_of_ble_eq_true rfl)) dX2_lowest_2 ⟨Nat.le_of_ble_eq_true rfl, Nat.le_of_ble_eq_true rfl⟩) (fun r f H locs hp hI2 => ?_)
  clear hI
  have hI := hI2
  clear hI2
  obtain ⟨rfl, rfl⟩ := hp
  refine mv_if_eq (tgt := 25) B dX2_lowest_5 (by decide) (by split <;> omega) (fun hc => ?_) (fun hc => ?_)
  · have h1 : ¬ (sOk a ∧ sOk b) := fun q => by rw [if_pos q] at hc; exact absurd hc (by decide)
    refine mv_iconst B dX2_lowest_25 ?_
    have e9 : sp_lowest Y a b = (-1, Y) := by unfold sp_lowest; rw [if_neg (fun q => h1 ⟨q.1, q.2.1⟩)]
    exact mw_iret B hQ hrt hI ⟨by rw [e9], ⟨_, hD, fun i hi => (hsl i hi).trans (by rw [e9])⟩, ho⟩ dX2_lowest_26
  · have h1 : sOk a ∧ sOk b := by
      by_cases q : sOk a ∧ sOk b
      · exact q
      · rw [if_neg q] at hc; exact absurd rfl hc
    refine mv_iload_n B dX2_lowest_8 rfl (lv_at hl 1 rfl) ?_
    refine mv_iload_n B dX2_lowest_9 rfl (lv_at hl 2 rfl) ?_
    refine mv_icmp_eq (tgt := 25) B dX2_lowest_10 (by decide) (by omega) (fun hc2 => ?_) (fun hc2 => ?_)
    · refine mv_iconst B dX2_lowest_25 ?_
      have e9 : sp_lowest Y a b = (-1, Y) := by unfold sp_lowest; rw [if_neg (fun q => q.2.2.1 hc2)]
      exact mw_iret B hQ hrt hI ⟨by rw [e9], ⟨_, hD, fun i hi => (hsl i hi).trans (by rw [e9])⟩, ho⟩ dX2_lowest_26
    · have hab : a ≠ b := hc2
      refine mv_aload_n B dX2_lowest_13 rfl (lv_at hl 0 rfl) ?_
      refine mw_get (C := RX2) (T := TX2) (N := 7) B hI hD.1 uin_X2 rfl 0 (by decide) kw_68 rfl dX2_lowest_14 ?_
      refine mv_iload_n B dX2_lowest_17 rfl (lv_at hl 2 rfl) ?_
      obtain ⟨gs, hs1, hs2⟩ := hD.2.1
      refine mw_aald B hI 1 hs1 rfl (b.toNat) (by omega) (by omega) (by decide) (hs2 _ (by omega)) dX2_lowest_18 ?_
      obtain ⟨g, n, b_, c1, c2, c3_⟩ := id (hD.rp (i := b.toNat) (by omega))
      have m1 := c3_.1
      have hz0 := c3_.zero
      refine mw_calli hI hA (va_runV (As := []) (rest := []) B.fix (t_X1_isZero l D kA H.size f c1 (by omega)) (cwV 0 B.2.2.2.2.1 (gV kw_191 kw_192 kw_193 kw_2 kw_194) rfl rfl rfl (by decide +kernel) ⟨Nat.le_of_ble_eq_true rfl, Nat.le_of_ble_eq_true rfl⟩) ⟨mw_blind st_S.blind, mw_recv B hI c1 rfl, mw_pre B hI (hSt.call hI hA)⟩ rfl rfl hl.1 rfl (lv_room (Nat.le_of_ble_eq_true rfl)) dX2_lowest_19 ⟨Nat.le_of_ble_eq_true rfl, Nat.le_of_ble_eq_true rfl⟩) (fun r f H locs hp hI2 => ?_)
      clear hI
      have hI := hI2
      clear hI2
      obtain ⟨rfl, rfl⟩ := hp
      refine mv_if_eq (tgt := 27) B dX2_lowest_22 (by decide) (by split <;> omega) (fun hc3 => ?_) (fun hc3 => ?_)
      · have hnz : Y b.toNat ≠ 0 := fun q => by rw [if_pos (by have := hz0.mp q; omega)] at hc3; exact absurd hc3 (by decide)
        have ba := hB a.toNat (by omega)
        have bb := hB b.toNat (by omega)
        have b5 := b50
        refine mv_aload_n B dX2_lowest_27 rfl (lv_at hl 0 rfl) ?_
        refine mw_get (C := RX2) (T := TX2) (N := 7) B hI hD.1 uin_X2 rfl 1 (by decide) kw_69 rfl dX2_lowest_28 ?_
        refine mv_aload_n B dX2_lowest_31 rfl (lv_at hl 0 rfl) ?_
        refine mw_get (C := RX2) (T := TX2) (N := 7) B hI hD.1 uin_X2 rfl 0 (by decide) kw_68 rfl dX2_lowest_32 ?_
        refine mv_iload_n B dX2_lowest_35 rfl (lv_at hl 1 rfl) ?_
        obtain ⟨gs, hs1, hs2⟩ := hD.2.1
        refine mw_aald B hI 1 hs1 rfl (a.toNat) (by omega) (by omega) (by decide) (hs2 _ (by omega)) dX2_lowest_36 ?_
        obtain ⟨_, _, _, cc, -, -⟩ := id (hD.rp (i := 16) (by omega))
        refine mw_callv hI hA (va_runV (As := [.ref ((w (a.toNat)))]) (rest := []) B.fix (t_X1_take l D kA H.size f (hD.rp (i := 16) (by omega)).w (hD.rp (i := a.toNat) (by omega)) (Or.inr (hD.ne (i := a.toNat) (j := 16) (by omega) (by omega) (by omega)))) (cwV 1 B.2.2.2.2.1 (gV kw_153 kw_154 kw_155 kw_2 kw_156) rfl rfl rfl (by decide +kernel) ⟨Nat.le_of_ble_eq_true rfl, Nat.le_of_ble_eq_true rfl⟩) ⟨mw_blind st_S.blind, mw_recv B hI cc rfl, mw_pre B hI (hSt.call hI hA)⟩ rfl rfl hl.1 rfl (lv_room (Nat.le_of_ble_eq_true rfl)) dX2_lowest_37 ⟨Nat.le_of_ble_eq_true rfl, Nat.le_of_ble_eq_true rfl⟩) (fun f H locs hp hI2 => ?_)
        clear hI
        have hI := hI2
        clear hI2
        obtain ⟨hR, o1⟩ := hp
        have ho : ∀ k, ¬ dks d sl pa w ra k → f k = f0 k := fun k h => (o1 k (dks_w h (show 16 < 24 by omega)).1 (dks_w h (show 16 < 24 by omega)).2).trans (ho k h)
        obtain ⟨Y1, hY1, hD⟩ : ∃ Z, Z = upI Y (16) (Y (a.toNat)) ∧ DK kA f d sl pa w ra Z := ⟨_, rfl, hD.upd (t := 16) (by omega) hR o1⟩
        have v1 : Y1 (16) = Y (a.toNat) := by rw [hY1, upI_self]
        have r1 : ∀ i, i ≠ 16 → Y1 i = Y i := fun i hi => by rw [hY1, upI_ne _ _ hi]
        have hsl : ∀ i, i < 16 → Y1 i = Y i := fun i hi => (r1 i (by omega)).trans (hsl i hi)
        refine mv_aload_n B dX2_lowest_40 rfl (lv_at hl 0 rfl) ?_
        refine mw_get (C := RX2) (T := TX2) (N := 7) B hI hD.1 uin_X2 rfl 2 (by decide) kw_70 rfl dX2_lowest_41 ?_
        refine mv_aload_n B dX2_lowest_44 rfl (lv_at hl 0 rfl) ?_
        refine mw_get (C := RX2) (T := TX2) (N := 7) B hI hD.1 uin_X2 rfl 0 (by decide) kw_68 rfl dX2_lowest_45 ?_
        refine mv_iload_n B dX2_lowest_48 rfl (lv_at hl 2 rfl) ?_
        obtain ⟨gs, hs1, hs2⟩ := hD.2.1
        refine mw_aald B hI 1 hs1 rfl (b.toNat) (by omega) (by omega) (by decide) (hs2 _ (by omega)) dX2_lowest_49 ?_
        obtain ⟨_, _, _, cc, -, -⟩ := id (hD.rp (i := 17) (by omega))
        refine mw_callv hI hA (va_runV (As := [.ref ((w (b.toNat)))]) (rest := []) B.fix (t_X1_take l D kA H.size f (hD.rp (i := 17) (by omega)).w (hD.rp (i := b.toNat) (by omega)) (Or.inr (hD.ne (i := b.toNat) (j := 17) (by omega) (by omega) (by omega)))) (cwV 1 B.2.2.2.2.1 (gV kw_153 kw_154 kw_155 kw_2 kw_156) rfl rfl rfl (by decide +kernel) ⟨Nat.le_of_ble_eq_true rfl, Nat.le_of_ble_eq_true rfl⟩) ⟨mw_blind st_S.blind, mw_recv B hI cc rfl, mw_pre B hI (hSt.call hI hA)⟩ rfl rfl hl.1 rfl (lv_room (Nat.le_of_ble_eq_true rfl)) dX2_lowest_50 ⟨Nat.le_of_ble_eq_true rfl, Nat.le_of_ble_eq_true rfl⟩) (fun f H locs hp hI2 => ?_)
        clear hI
        have hI := hI2
        clear hI2
        obtain ⟨hR, o1⟩ := hp
        have ho : ∀ k, ¬ dks d sl pa w ra k → f k = f0 k := fun k h => (o1 k (dks_w h (show 17 < 24 by omega)).1 (dks_w h (show 17 < 24 by omega)).2).trans (ho k h)
        obtain ⟨Y2, hY2, hD⟩ : ∃ Z, Z = upI Y1 (17) (Y1 (b.toNat)) ∧ DK kA f d sl pa w ra Z := ⟨_, rfl, hD.upd (t := 17) (by omega) hR o1⟩
        have v2 : Y2 (17) = Y1 (b.toNat) := by rw [hY2, upI_self]
        have r2 : ∀ i, i ≠ 17 → Y2 i = Y1 i := fun i hi => by rw [hY2, upI_ne _ _ hi]
        have hsl : ∀ i, i < 16 → Y2 i = Y i := fun i hi => (r2 i (by omega)).trans (hsl i hi)
        refine mv_aload_n B dX2_lowest_53 rfl (lv_at hl 0 rfl) ?_
        refine mv_iload_n B dX2_lowest_54 rfl (lv_at hl 1 rfl) ?_
        refine mv_iload_n B dX2_lowest_55 rfl (lv_at hl 2 rfl) ?_
        have w1 : Y2 16 = Y a.toNat := by rw [r2 _ (by decide)]; exact v1
        have w2 : Y2 17 = Y b.toNat := by rw [v2]; exact r1 _ (by omega)
        refine mw_calli hI hA (va_runV (As := [.int (iI (a)), .int (iI (b))]) (rest := []) B.fix (t_X2_keepLowest l D kA H.size f hD (fun i hi => by rw [hsl i hi]; exact hB i hi) h1 hab (by rw [w2]; exact hnz) (by rw [w1]; omega) (by rw [w2]; omega)) (cwV 2 B.2.2.2.2.1 (gV kw_289 kw_291 ks_14 kw_1 kw_292) rfl rfl rfl (by decide +kernel) ⟨Nat.le_of_ble_eq_true rfl, Nat.le_of_ble_eq_true rfl⟩) ⟨mw_blind st_S.blind, mw_recv B hI hD.1 rfl, mw_pre B hI (hSt.call hI hA)⟩ rfl rfl hl.1 rfl (lv_room (Nat.le_of_ble_eq_true rfl)) dX2_lowest_56 ⟨Nat.le_of_ble_eq_true rfl, Nat.le_of_ble_eq_true rfl⟩) (fun r f H locs hp hI2 => ?_)
        clear hI
        have hI := hI2
        clear hI2
        obtain ⟨rfl, ⟨Yf, hD, hy⟩, o1⟩ := hp
        have ho : ∀ k, ¬ dks d sl pa w ra k → f k = f0 k := fun k h => (o1 k h).trans (ho k h)
        have e9 : sp_lowest Y a b = kp2 Y a b (Y a.toNat) (Y b.toNat) := by unfold sp_lowest; rw [if_pos ⟨h1.1, h1.2, hab, hnz⟩]
        have e8 := kp2_same (a := a) (b := b) w1 w2 hsl
        exact mw_iret B hQ hrt hI ⟨(congrArg iI e8.1).trans (by rw [e9]), ⟨_, hD, fun i hi => ((hy i hi).trans (e8.2 i hi)).trans (by rw [e9])⟩, ho⟩ dX2_lowest_59
      · have hzz : Y b.toNat = 0 := by
          by_cases q : (n : Int) = 0
          · exact hz0.mpr (by omega)
          · rw [if_neg q] at hc3; exact absurd rfl hc3
        refine mv_iconst B dX2_lowest_25 ?_
        have e9 : sp_lowest Y a b = (-1, Y) := by unfold sp_lowest; rw [if_neg (fun q => q.2.2.2 hzz)]
        exact mw_iret B hQ hrt hI ⟨by rw [e9], ⟨_, hD, fun i hi => (hsl i hi).trans (by rw [e9])⟩, ho⟩ dX2_lowest_26
abbrev rm_X2_fraction : Room := { frames := 5, cells := 0, slots := 0, locals := 131 }
set_option maxHeartbeats 4000000 in
set_option maxRecDepth 100000 in
/-- fraction -/
theorem t_X2_fraction (l : Launch) (D : va_G) (kA : Nat → ClassId) (sz : Nat) (f0 : mw_M) {d sl pa : Nat} {w ra : Nat → Nat} {Y : Nat → Int} {a b c_ e_ : Int} (hD : DK kA f0 d sl pa w ra Y) (hB : ∀ i, i < 16 → ((Y i).natAbs : Int) < 1000000 ^ 50) (ha : -2147483648 ≤ a ∧ a ≤ 2147483647) (hb : -2147483648 ≤ b ∧ b ≤ 2147483647) (hc_ : -2147483648 ≤ c_ ∧ c_ ≤ 2147483647) (he_ : -2147483648 ≤ e_ ∧ e_ ≤ 2147483647) : mw_Mi l yX2_fraction (Cond.code yX2_fraction cX2_fraction 5 ((some .int)) :: gw) rm_X2_fraction D vwCl (tyL kA) st_S [.ref d, .int (iI (a)), .int (iI (b)), .int (iI (c_)), .int (iI (e_))] f0 sz (fun v f => v = iI (sp_fraction Y a b c_ e_).1 ∧ (∃ Y', DK kA f d sl pa w ra Y' ∧ ∀ i, i < 16 → Y' i = (sp_fraction Y a b c_ e_).2 i) ∧ ∀ k, ¬ dks d sl pa w ra k → f k = f0 k) 0 0 := by
  refine mw_ofi (cc := cX2_fraction) (maxL := 5) (ret := (some .int)) (by decide) rfl (Nat.le_of_ble_eq_true rfl) ?_
  intro p e s m below meth c A ls Q hQ B hrt hnm hA hI hSt hl
  have hl : lv_has ls 5 [(0, .ref d), (1, .int (iI (a))), (2, .int (iI (b))), (3, .int (iI (c_))), (4, .int (iI (e_)))] := hl
  obtain ⟨f, hI, hf⟩ : ∃ f, mw_I D vwCl A s s.heap [] f ∧ f = f0 := ⟨f0, hI, rfl⟩
  rw [← hf] at hD
  have ho : ∀ k, ¬ dks d sl pa w ra k → f k = f0 k := fun k _ => by rw [hf]
  have hsl : ∀ i, i < 16 → Y i = Y i := fun _ _ => rfl
  refine mv_aload_n B dX2_fraction_0 rfl (lv_at hl 0 rfl) ?_
  refine mv_iload_n B dX2_fraction_1 rfl (lv_at hl 1 rfl) ?_
  refine mv_iload_n B dX2_fraction_2 rfl (lv_at hl 2 rfl) ?_
  refine mv_iload_n B dX2_fraction_3 rfl (lv_at hl 3 rfl) ?_
  refine mv_iload B dX2_fraction_4 (lv_at hl 4 rfl) ?_
  refine mw_calli hI hA (va_runV (As := [.int (iI (a)), .int (iI (b)), .int (iI (c_)), .int (iI (e_))]) (rest := []) B.fix (t_X2_areFractions l D kA s.heap.size f hD hB ha hb hc_ he_) (cwV 4 B.2.2.2.2.1 (gV kw_301 kw_303 ks_15 kw_1 kw_304) rfl rfl rfl (by decide +kernel) ⟨Nat.le_of_ble_eq_true rfl, Nat.le_of_ble_eq_true rfl⟩) ⟨mw_blind st_S.blind, mw_recv B hI hD.1 rfl, mw_pre B hI (hSt.call hI hA)⟩ rfl rfl hl.1 rfl (lv_room (Nat.le_of_ble_eq_true rfl)) dX2_fraction_6 ⟨Nat.le_of_ble_eq_true rfl, Nat.le_of_ble_eq_true rfl⟩) (fun r f H locs hp hI2 => ?_)
  clear hI
  have hI := hI2
  clear hI2
  obtain ⟨rfl, rfl⟩ := hp
  refine mv_if_eq (tgt := 17) B dX2_fraction_9 (by decide) (by split <;> omega) (fun hc => ?_) (fun hc => ?_)
  · have h0 : ¬ (sOk a ∧ sOk b ∧ sOk c_ ∧ sOk e_ ∧ Y b.toNat ≠ 0 ∧ Y e_.toNat ≠ 0) := fun q => by rw [if_pos q] at hc; exact absurd hc (by decide)
    refine mv_iconst B dX2_fraction_17 ?_
    have e9 : sp_fraction Y a b c_ e_ = (-1, Y) := by unfold sp_fraction; rw [if_neg (fun q => h0 ⟨q.1, q.2.1, q.2.2.1, q.2.2.2.1, q.2.2.2.2.2.1, q.2.2.2.2.2.2⟩)]
    exact mw_iret B hQ hrt hI ⟨by rw [e9], ⟨_, hD, fun i hi => (hsl i hi).trans (by rw [e9])⟩, ho⟩ dX2_fraction_18
  · have h0 : sOk a ∧ sOk b ∧ sOk c_ ∧ sOk e_ ∧ Y b.toNat ≠ 0 ∧ Y e_.toNat ≠ 0 := by
      by_cases q : sOk a ∧ sOk b ∧ sOk c_ ∧ sOk e_ ∧ Y b.toNat ≠ 0 ∧ Y e_.toNat ≠ 0
      · exact q
      · rw [if_neg q] at hc; exact absurd rfl hc
    have h1 : sOk a ∧ sOk b := ⟨h0.1, h0.2.1⟩
    refine mv_iload_n B dX2_fraction_12 rfl (lv_at hl 1 rfl) ?_
    refine mv_iload_n B dX2_fraction_13 rfl (lv_at hl 2 rfl) ?_
    refine mv_icmp_ne (tgt := 19) B dX2_fraction_14 (by decide) (by omega) (fun hc2 => ?_) (fun hc2 => ?_)
    · have hab : a ≠ b := hc2
      have ba := hB a.toNat (by omega)
      have bb := hB b.toNat (by omega)
      have bc := hB c_.toNat (by omega)
      have be := hB e_.toNat (by omega)
      have bs := b100
      refine mv_aload_n B dX2_fraction_19 rfl (lv_at hl 0 rfl) ?_
      refine mw_get (C := RX2) (T := TX2) (N := 7) B hI hD.1 uin_X2 rfl 3 (by decide) kw_71 rfl dX2_fraction_20 ?_
      refine mv_aload_n B dX2_fraction_23 rfl (lv_at hl 0 rfl) ?_
      refine mw_get (C := RX2) (T := TX2) (N := 7) B hI hD.1 uin_X2 rfl 0 (by decide) kw_68 rfl dX2_fraction_24 ?_
      refine mv_iload_n B dX2_fraction_27 rfl (lv_at hl 1 rfl) ?_
      obtain ⟨gs, hs1, hs2⟩ := hD.2.1
      refine mw_aald B hI 1 hs1 rfl (a.toNat) (by omega) (by omega) (by decide) (hs2 _ (by omega)) dX2_fraction_28 ?_
      refine mv_aload_n B dX2_fraction_29 rfl (lv_at hl 0 rfl) ?_
      refine mw_get (C := RX2) (T := TX2) (N := 7) B hI hD.1 uin_X2 rfl 0 (by decide) kw_68 rfl dX2_fraction_30 ?_
      refine mv_iload B dX2_fraction_33 (lv_at hl 4 rfl) ?_
      obtain ⟨gs, hs1, hs2⟩ := hD.2.1
      refine mw_aald B hI 1 hs1 rfl (e_.toNat) (by omega) (by omega) (by decide) (hs2 _ (by omega)) dX2_fraction_35 ?_
      obtain ⟨_, _, _, cc, -, -⟩ := id (hD.rp (i := 18) (by omega))
      refine mw_callv hI hA (va_runV (As := [.ref ((w (a.toNat))), .ref ((w (e_.toNat)))]) (rest := []) B.fix (t_X1_takeProduct l D kA H.size f (hD.rp (i := 18) (by omega)).w (hD.rp (i := a.toNat) (by omega)) (hD.rp (i := e_.toNat) (by omega)) (hD.ne (i := a.toNat) (j := 18) (by omega) (by omega) (by omega)).1 (hD.ne (i := a.toNat) (j := 18) (by omega) (by omega) (by omega)).2 (hD.ne (i := e_.toNat) (j := 18) (by omega) (by omega) (by omega)).1 (hD.ne (i := e_.toNat) (j := 18) (by omega) (by omega) (by omega)).2 (by rw [hsl _ (by omega)]; exact hB _ (by omega)) (by rw [hsl _ (by omega)]; exact hB _ (by omega))) (cwV 2 B.2.2.2.2.1 (gV kw_114 kw_115 kw_116 kw_2 kw_117) rfl rfl rfl (by decide +kernel) ⟨Nat.le_of_ble_eq_true rfl, Nat.le_of_ble_eq_true rfl⟩) ⟨mw_blind st_S.blind, mw_recv B hI cc rfl, mw_pre B hI (hSt.call hI hA)⟩ rfl rfl hl.1 rfl (lv_room (Nat.le_of_ble_eq_true rfl)) dX2_fraction_36 ⟨Nat.le_of_ble_eq_true rfl, Nat.le_of_ble_eq_true rfl⟩) (fun f H locs hp hI2 => ?_)
      clear hI
      have hI := hI2
      clear hI2
      obtain ⟨hR, o1⟩ := hp
      have ho : ∀ k, ¬ dks d sl pa w ra k → f k = f0 k := fun k h => (o1 k (dks_w h (show 18 < 24 by omega)).1 (dks_w h (show 18 < 24 by omega)).2).trans (ho k h)
      obtain ⟨Y1, hY1, hD⟩ : ∃ Z, Z = upI Y (18) (Y (a.toNat) * Y (e_.toNat)) ∧ DK kA f d sl pa w ra Z := ⟨_, rfl, hD.upd (t := 18) (by omega) hR o1⟩
      have v1 : Y1 (18) = Y (a.toNat) * Y (e_.toNat) := by rw [hY1, upI_self]
      have r1 : ∀ i, i ≠ 18 → Y1 i = Y i := fun i hi => by rw [hY1, upI_ne _ _ hi]
      have hsl : ∀ i, i < 16 → Y1 i = Y i := fun i hi => (r1 i (by omega)).trans (hsl i hi)
      refine mv_aload_n B dX2_fraction_39 rfl (lv_at hl 0 rfl) ?_
      refine mw_get (C := RX2) (T := TX2) (N := 7) B hI hD.1 uin_X2 rfl 4 (by decide) kw_72 rfl dX2_fraction_40 ?_
      refine mv_aload_n B dX2_fraction_43 rfl (lv_at hl 0 rfl) ?_
      refine mw_get (C := RX2) (T := TX2) (N := 7) B hI hD.1 uin_X2 rfl 0 (by decide) kw_68 rfl dX2_fraction_44 ?_
      refine mv_iload_n B dX2_fraction_47 rfl (lv_at hl 3 rfl) ?_
      obtain ⟨gs, hs1, hs2⟩ := hD.2.1
      refine mw_aald B hI 1 hs1 rfl (c_.toNat) (by omega) (by omega) (by decide) (hs2 _ (by omega)) dX2_fraction_48 ?_
      refine mv_aload_n B dX2_fraction_49 rfl (lv_at hl 0 rfl) ?_
      refine mw_get (C := RX2) (T := TX2) (N := 7) B hI hD.1 uin_X2 rfl 0 (by decide) kw_68 rfl dX2_fraction_50 ?_
      refine mv_iload_n B dX2_fraction_53 rfl (lv_at hl 2 rfl) ?_
      obtain ⟨gs, hs1, hs2⟩ := hD.2.1
      refine mw_aald B hI 1 hs1 rfl (b.toNat) (by omega) (by omega) (by decide) (hs2 _ (by omega)) dX2_fraction_54 ?_
      obtain ⟨_, _, _, cc, -, -⟩ := id (hD.rp (i := 19) (by omega))
      refine mw_callv hI hA (va_runV (As := [.ref ((w (c_.toNat))), .ref ((w (b.toNat)))]) (rest := []) B.fix (t_X1_takeProduct l D kA H.size f (hD.rp (i := 19) (by omega)).w (hD.rp (i := c_.toNat) (by omega)) (hD.rp (i := b.toNat) (by omega)) (hD.ne (i := c_.toNat) (j := 19) (by omega) (by omega) (by omega)).1 (hD.ne (i := c_.toNat) (j := 19) (by omega) (by omega) (by omega)).2 (hD.ne (i := b.toNat) (j := 19) (by omega) (by omega) (by omega)).1 (hD.ne (i := b.toNat) (j := 19) (by omega) (by omega) (by omega)).2 (by rw [hsl _ (by omega)]; exact hB _ (by omega)) (by rw [hsl _ (by omega)]; exact hB _ (by omega))) (cwV 2 B.2.2.2.2.1 (gV kw_114 kw_115 kw_116 kw_2 kw_117) rfl rfl rfl (by decide +kernel) ⟨Nat.le_of_ble_eq_true rfl, Nat.le_of_ble_eq_true rfl⟩) ⟨mw_blind st_S.blind, mw_recv B hI cc rfl, mw_pre B hI (hSt.call hI hA)⟩ rfl rfl hl.1 rfl (lv_room (Nat.le_of_ble_eq_true rfl)) dX2_fraction_55 ⟨Nat.le_of_ble_eq_true rfl, Nat.le_of_ble_eq_true rfl⟩) (fun f H locs hp hI2 => ?_)
      clear hI
      have hI := hI2
      clear hI2
      obtain ⟨hR, o1⟩ := hp
      have ho : ∀ k, ¬ dks d sl pa w ra k → f k = f0 k := fun k h => (o1 k (dks_w h (show 19 < 24 by omega)).1 (dks_w h (show 19 < 24 by omega)).2).trans (ho k h)
      obtain ⟨Y2, hY2, hD⟩ : ∃ Z, Z = upI Y1 (19) (Y1 (c_.toNat) * Y1 (b.toNat)) ∧ DK kA f d sl pa w ra Z := ⟨_, rfl, hD.upd (t := 19) (by omega) hR o1⟩
      have v2 : Y2 (19) = Y1 (c_.toNat) * Y1 (b.toNat) := by rw [hY2, upI_self]
      have r2 : ∀ i, i ≠ 19 → Y2 i = Y1 i := fun i hi => by rw [hY2, upI_ne _ _ hi]
      have hsl : ∀ i, i < 16 → Y2 i = Y i := fun i hi => (r2 i (by omega)).trans (hsl i hi)
      have w18 : Y2 18 = Y a.toNat * Y e_.toNat := by rw [r2 18 (by decide), v1]
      have w19 : Y2 19 = Y c_.toNat * Y b.toNat := by rw [v2, r1 _ (by omega), r1 _ (by omega)]
      have m18 := mulbd ba be
      have m19 := mulbd bc bb
      rw [← w18] at m18
      rw [← w19] at m19
      refine mv_aload_n B dX2_fraction_58 rfl (lv_at hl 0 rfl) ?_
      refine mw_get (C := RX2) (T := TX2) (N := 7) B hI hD.1 uin_X2 rfl 1 (by decide) kw_69 rfl dX2_fraction_59 ?_
      refine mv_aload_n B dX2_fraction_62 rfl (lv_at hl 0 rfl) ?_
      refine mw_get (C := RX2) (T := TX2) (N := 7) B hI hD.1 uin_X2 rfl 3 (by decide) kw_71 rfl dX2_fraction_63 ?_
      refine mv_aload_n B dX2_fraction_66 rfl (lv_at hl 0 rfl) ?_
      refine mw_get (C := RX2) (T := TX2) (N := 7) B hI hD.1 uin_X2 rfl 4 (by decide) kw_72 rfl dX2_fraction_67 ?_
      refine mv_iconst B dX2_fraction_70 ?_
      obtain ⟨_, _, _, cc, -, -⟩ := id (hD.rp (i := 16) (by omega))
      refine mw_callv hI hA (va_runV (As := [.ref ((w 18)), .ref ((w 19)), .int (iI (0))]) (rest := []) B.fix (t_X1_takeSum l D kA H.size f (hD.rp (i := 16) (by omega)).w (hD.rp (i := 18) (by omega)) (hD.rp (i := 19) (by omega)) (hD.ne (i := 18) (j := 16) (by omega) (by omega) (by omega)).1 (hD.ne (i := 18) (j := 16) (by omega) (by omega) (by omega)).2 (hD.ne (i := 19) (j := 16) (by omega) (by omega) (by omega)).1 (hD.ne (i := 19) (j := 16) (by omega) (by omega) (by omega)).2 (by omega) (by omega) (by omega)) (cwV 3 B.2.2.2.2.1 (gV kw_124 kw_125 kw_126 kw_2 kw_127) rfl rfl rfl (by decide +kernel) ⟨Nat.le_of_ble_eq_true rfl, Nat.le_of_ble_eq_true rfl⟩) ⟨mw_blind st_S.blind, mw_recv B hI cc rfl, mw_pre B hI (hSt.call hI hA)⟩ rfl rfl hl.1 rfl (lv_room (Nat.le_of_ble_eq_true rfl)) dX2_fraction_71 ⟨Nat.le_of_ble_eq_true rfl, Nat.le_of_ble_eq_true rfl⟩) (fun f H locs hp hI2 => ?_)
      clear hI
      have hI := hI2
      clear hI2
      obtain ⟨hR, o1⟩ := hp
      have ho : ∀ k, ¬ dks d sl pa w ra k → f k = f0 k := fun k h => (o1 k (dks_w h (show 16 < 24 by omega)).1 (dks_w h (show 16 < 24 by omega)).2).trans (ho k h)
      obtain ⟨Y3, hY3, hD⟩ : ∃ Z, Z = upI Y2 (16) (if (0 : Int) = 0 then Y2 (18) + Y2 (19) else Y2 (18) - Y2 (19)) ∧ DK kA f d sl pa w ra Z := ⟨_, rfl, hD.upd (t := 16) (by omega) hR o1⟩
      have v3 : Y3 (16) = if (0 : Int) = 0 then Y2 (18) + Y2 (19) else Y2 (18) - Y2 (19) := by rw [hY3, upI_self]
      have r3 : ∀ i, i ≠ 16 → Y3 i = Y2 i := fun i hi => by rw [hY3, upI_ne _ _ hi]
      have hsl : ∀ i, i < 16 → Y3 i = Y i := fun i hi => (r3 i (by omega)).trans (hsl i hi)
      rw [if_pos rfl] at v3
      refine mv_aload_n B dX2_fraction_74 rfl (lv_at hl 0 rfl) ?_
      refine mw_get (C := RX2) (T := TX2) (N := 7) B hI hD.1 uin_X2 rfl 2 (by decide) kw_70 rfl dX2_fraction_75 ?_
      refine mv_aload_n B dX2_fraction_78 rfl (lv_at hl 0 rfl) ?_
      refine mw_get (C := RX2) (T := TX2) (N := 7) B hI hD.1 uin_X2 rfl 0 (by decide) kw_68 rfl dX2_fraction_79 ?_
      refine mv_iload_n B dX2_fraction_82 rfl (lv_at hl 2 rfl) ?_
      obtain ⟨gs, hs1, hs2⟩ := hD.2.1
      refine mw_aald B hI 1 hs1 rfl (b.toNat) (by omega) (by omega) (by decide) (hs2 _ (by omega)) dX2_fraction_83 ?_
      refine mv_aload_n B dX2_fraction_84 rfl (lv_at hl 0 rfl) ?_
      refine mw_get (C := RX2) (T := TX2) (N := 7) B hI hD.1 uin_X2 rfl 0 (by decide) kw_68 rfl dX2_fraction_85 ?_
      refine mv_iload B dX2_fraction_88 (lv_at hl 4 rfl) ?_
      obtain ⟨gs, hs1, hs2⟩ := hD.2.1
      refine mw_aald B hI 1 hs1 rfl (e_.toNat) (by omega) (by omega) (by decide) (hs2 _ (by omega)) dX2_fraction_90 ?_
      have s3b : Y3 b.toNat = Y b.toNat := hsl _ (by omega)
      have s3e : Y3 e_.toNat = Y e_.toNat := hsl _ (by omega)
      obtain ⟨_, _, _, cc, -, -⟩ := id (hD.rp (i := 17) (by omega))
      refine mw_callv hI hA (va_runV (As := [.ref ((w (b.toNat))), .ref ((w (e_.toNat)))]) (rest := []) B.fix (t_X1_takeProduct l D kA H.size f (hD.rp (i := 17) (by omega)).w (hD.rp (i := b.toNat) (by omega)) (hD.rp (i := e_.toNat) (by omega)) (hD.ne (i := b.toNat) (j := 17) (by omega) (by omega) (by omega)).1 (hD.ne (i := b.toNat) (j := 17) (by omega) (by omega) (by omega)).2 (hD.ne (i := e_.toNat) (j := 17) (by omega) (by omega) (by omega)).1 (hD.ne (i := e_.toNat) (j := 17) (by omega) (by omega) (by omega)).2 (by rw [hsl _ (by omega)]; exact hB _ (by omega)) (by rw [hsl _ (by omega)]; exact hB _ (by omega))) (cwV 2 B.2.2.2.2.1 (gV kw_114 kw_115 kw_116 kw_2 kw_117) rfl rfl rfl (by decide +kernel) ⟨Nat.le_of_ble_eq_true rfl, Nat.le_of_ble_eq_true rfl⟩) ⟨mw_blind st_S.blind, mw_recv B hI cc rfl, mw_pre B hI (hSt.call hI hA)⟩ rfl rfl hl.1 rfl (lv_room (Nat.le_of_ble_eq_true rfl)) dX2_fraction_91 ⟨Nat.le_of_ble_eq_true rfl, Nat.le_of_ble_eq_true rfl⟩) (fun f H locs hp hI2 => ?_)
      clear hI
      have hI := hI2
      clear hI2
      obtain ⟨hR, o1⟩ := hp
      have ho : ∀ k, ¬ dks d sl pa w ra k → f k = f0 k := fun k h => (o1 k (dks_w h (show 17 < 24 by omega)).1 (dks_w h (show 17 < 24 by omega)).2).trans (ho k h)
      obtain ⟨Y4, hY4, hD⟩ : ∃ Z, Z = upI Y3 (17) (Y3 (b.toNat) * Y3 (e_.toNat)) ∧ DK kA f d sl pa w ra Z := ⟨_, rfl, hD.upd (t := 17) (by omega) hR o1⟩
      have v4 : Y4 (17) = Y3 (b.toNat) * Y3 (e_.toNat) := by rw [hY4, upI_self]
      have r4 : ∀ i, i ≠ 17 → Y4 i = Y3 i := fun i hi => by rw [hY4, upI_ne _ _ hi]
      have hsl : ∀ i, i < 16 → Y4 i = Y i := fun i hi => (r4 i (by omega)).trans (hsl i hi)
      refine mv_aload_n B dX2_fraction_94 rfl (lv_at hl 0 rfl) ?_
      refine mv_iload_n B dX2_fraction_95 rfl (lv_at hl 1 rfl) ?_
      refine mv_iload_n B dX2_fraction_96 rfl (lv_at hl 2 rfl) ?_
      have w1 : Y4 16 = Y a.toNat * Y e_.toNat + Y c_.toNat * Y b.toNat := by rw [r4 _ (by decide), v3, w18, w19]
      have w2 : Y4 17 = Y b.toNat * Y e_.toNat := by rw [v4, s3b, s3e]
      have m17 := mulbd bb be
      have ab3 := (absadd (Y2 18) (Y2 19)).1
      have w1b : Y4 16 = Y2 18 + Y2 19 := by rw [r4 _ (by decide), v3]
      refine mw_calli hI hA (va_runV (As := [.int (iI (a)), .int (iI (b))]) (rest := []) B.fix (t_X2_keepLowest l D kA H.size f hD (fun i hi => by rw [hsl i hi]; exact hB i hi) h1 hab (by rw [w2]; exact Int.mul_ne_zero h0.2.2.2.2.1 h0.2.2.2.2.2) (by rw [w1b]; omega) (by rw [w2]; omega)) (cwV 2 B.2.2.2.2.1 (gV kw_289 kw_291 ks_14 kw_1 kw_292) rfl rfl rfl (by decide +kernel) ⟨Nat.le_of_ble_eq_true rfl, Nat.le_of_ble_eq_true rfl⟩) ⟨mw_blind st_S.blind, mw_recv B hI hD.1 rfl, mw_pre B hI (hSt.call hI hA)⟩ rfl rfl hl.1 rfl (lv_room (Nat.le_of_ble_eq_true rfl)) dX2_fraction_97 ⟨Nat.le_of_ble_eq_true rfl, Nat.le_of_ble_eq_true rfl⟩) (fun r f H locs hp hI2 => ?_)
      clear hI
      have hI := hI2
      clear hI2
      obtain ⟨rfl, ⟨Yf, hD, hy⟩, o1⟩ := hp
      have ho : ∀ k, ¬ dks d sl pa w ra k → f k = f0 k := fun k h => (o1 k h).trans (ho k h)
      have e9 : sp_fraction Y a b c_ e_ = kp2 Y a b (Y a.toNat * Y e_.toNat + Y c_.toNat * Y b.toNat) (Y b.toNat * Y e_.toNat) := by unfold sp_fraction; rw [if_pos ⟨h0.1, h0.2.1, h0.2.2.1, h0.2.2.2.1, hab, h0.2.2.2.2.1, h0.2.2.2.2.2⟩]
      have e8 := kp2_same (a := a) (b := b) w1 w2 hsl
      exact mw_iret B hQ hrt hI ⟨(congrArg iI e8.1).trans (by rw [e9]), ⟨_, hD, fun i hi => ((hy i hi).trans (e8.2 i hi)).trans (by rw [e9])⟩, ho⟩ dX2_fraction_100
    · refine mv_iconst B dX2_fraction_17 ?_
      have e9 : sp_fraction Y a b c_ e_ = (-1, Y) := by unfold sp_fraction; rw [if_neg (fun q => q.2.2.2.2.1 hc2)]
      exact mw_iret B hQ hrt hI ⟨by rw [e9], ⟨_, hD, fun i hi => (hsl i hi).trans (by rw [e9])⟩, ho⟩ dX2_fraction_18
end
section
section BITS3
variable {p : Program} {l : Launch} {e : Env} {R : Room} {s : State} {m : MethodId} {args : Array Value} {below : List Frame} {meth : Method} {c : Code} {H : Heap} {locs : List Loc} {cells slots : Nat} {Q : State → Prop}
variable {cc : ByteArray} {nL : Nat} {own : String} {Ts : List Cond} {pc : Nat} {ls : Array Slot} {rest : List Value} {D : va_G} {cl : List vw_C} {tys : List (ClassId × FieldType)}
theorem mv_andne2 {x y : Int} (X k : Nat) (hX : x = (X : Int)) (B : mw_C p s m args meth c cc nL own Ts D cl tys) {off : Int} {tgt : Nat} (hdg1 : decode cc pc = .ok (.iand, 1)) (hdg : decode cc (pc + 1) = .ok (.ifCond .ne off, 3)) (ht : ((pc + 1 : Nat) : Int) + off = (tgt : Int)) (hx : X ≤ 2147483647) (hk : k ≤ 30) (hy : y = ((2 ^ k : Nat) : Int)) (kt : ¬ X / 2 ^ k % 2 = 0 → W p l e R s m args below meth c H locs cells slots Q (F0 m tgt ls rest)) (kf : X / 2 ^ k % 2 = 0 → W p l e R s m args below meth c H locs cells slots Q (F0 m (pc + 4) ls rest)) : W p l e R s m args below meth c H locs cells slots Q (F0 m pc ls (.int (iI y) :: .int (iI x) :: rest)) := by
  rw [hX]
  exact mv_andne k B hdg1 hdg ht hx hk hy kt kf
end BITS3
end
section
abbrev rm_X2_squareRoot : Room := { frames := 3, cells := 0, slots := 0, locals := 85 }
set_option maxHeartbeats 4000000 in
set_option maxRecDepth 100000 in
/-- squareRoot -/
theorem t_X2_squareRoot (l : Launch) (D : va_G) (kA : Nat → ClassId) (sz : Nat) (f0 : mw_M) {d sl pa : Nat} {w ra : Nat → Nat} {Y : Nat → Int} {x : Nat} (hD : DK kA f0 d sl pa w ra Y) (hB : ∀ i, i < 16 → ((Y i).natAbs : Int) < 1000000 ^ 50) (hx : x < 16) (hx0 : 0 ≤ Y x) : mw_Mr l yX2_squareRoot (Cond.code yX2_squareRoot cX2_squareRoot 6 ((some (.object "BigDesk$Whole"))) :: gw) rm_X2_squareRoot D vwCl (tyL kA) st_S [.ref d, .ref ((w x))] f0 sz (fun u => ∃ (t : Nat) (Y' : Nat → Int), t < 24 ∧ u.1 = w t ∧ DK kA u.2 d sl pa w ra Y' ∧ (∀ i, i < 16 → Y' i = Y i) ∧ Y' t = sqr (Y x) ∧ ∀ k, ¬ dks d sl pa w ra k → u.2 k = f0 k) 0 0 := by
  refine mw_ofr (cc := cX2_squareRoot) (maxL := 6) (ret := (some (.object "BigDesk$Whole"))) (by decide) rfl (Nat.le_of_ble_eq_true rfl) ?_
  intro p e s m below meth c A ls Q hQ B hrt hnm hA hI hSt hl
  have hl : lv_has ls 6 [(0, .ref d), (1, .ref ((w x)))] := hl
  obtain ⟨f, hI, hf⟩ : ∃ f, mw_I D vwCl A s s.heap [] f ∧ f = f0 := ⟨f0, hI, rfl⟩
  rw [← hf] at hD
  have ho : ∀ k, ¬ dks d sl pa w ra k → f k = f0 k := fun k _ => by rw [hf]
  have hsl : ∀ i, i < 16 → Y i = Y i := fun _ _ => rfl
  refine mv_aload_n B dX2_squareRoot_0 rfl (lv_at hl 0 rfl) ?_
  refine mw_get (C := RX2) (T := TX2) (N := 7) B hI hD.1 uin_X2 rfl 3 (by decide) kw_71 rfl dX2_squareRoot_1 ?_
  refine mv_astore_n (lv' := [(2, .ref ((w 18))), (0, .ref d), (1, .ref ((w x)))]) B dX2_squareRoot_4 rfl hl (by decide) rfl (fun ls hl => ?_)
  refine mv_aload_n B dX2_squareRoot_5 rfl (lv_at hl 1 rfl) ?_
  refine mw_get (C := RX2) (T := TX2) (N := 7) B hI hD.1 uin_X2 rfl 4 (by decide) kw_72 rfl dX2_squareRoot_6 ?_
  refine mv_astore_n (lv' := [(3, .ref ((w 19))), (2, .ref ((w 18))), (0, .ref d), (1, .ref ((w x)))]) B dX2_squareRoot_9 rfl hl (by decide) rfl (fun ls hl => ?_)
  refine mv_aload_n B dX2_squareRoot_10 rfl (lv_at hl 3 rfl) ?_
  obtain ⟨g, n, b_, c1, c2, c3_⟩ := id (hD.rp (i := x) (by omega))
  have m1 := c3_.1
  have hz0 := c3_.zero
  refine mw_calli hI hA (va_runV (As := []) (rest := []) B.fix (t_X1_isZero l D kA s.heap.size f c1 (by omega)) (cwV 0 B.2.2.2.2.1 (gV kw_191 kw_192 kw_193 kw_2 kw_194) rfl rfl rfl (by decide +kernel) ⟨Nat.le_of_ble_eq_true rfl, Nat.le_of_ble_eq_true rfl⟩) ⟨mw_blind st_S.blind, mw_recv B hI c1 rfl, mw_pre B hI (hSt.call hI hA)⟩ rfl rfl hl.1 rfl (lv_room (Nat.le_of_ble_eq_true rfl)) dX2_squareRoot_11 ⟨Nat.le_of_ble_eq_true rfl, Nat.le_of_ble_eq_true rfl⟩) (fun r f H locs hp hI2 => ?_)
  clear hI
  have hI := hI2
  clear hI2
  obtain ⟨rfl, rfl⟩ := hp
  have b5 := b50
  have bx := hB x hx
  have sq := sqr_in hx0
  refine mv_if_eq (tgt := 19) B dX2_squareRoot_14 (by decide) (by split <;> omega) (fun hc => ?_) (fun hc => ?_)
  · have hnz : Y x ≠ 0 := fun q => by rw [if_pos (by have := hz0.mp q; omega)] at hc; exact absurd hc (by decide)
    have s1 : 1 ≤ sqr (Y x) := by
      rcases Int.lt_or_le 0 (sqr (Y x)) with q | q
      · omega
      · have q0 : sqr (Y x) = 0 := by omega
        rw [q0] at sq
        omega
    have s26 : sqr (Y x) < 1000000 ^ 26 := by
      refine sq_lt sq.1 (by decide) ?_
      have e52 : (1000000 : Int) ^ 26 * 1000000 ^ 26 = 1000000 ^ 52 := by decide
      have e50 : (1000000 : Int) ^ 50 < 1000000 ^ 52 := by decide
      omega
    refine mv_aload_n B dX2_squareRoot_19 rfl (lv_at hl 1 rfl) ?_
    refine mv_aload_n B dX2_squareRoot_20 rfl (lv_at hl 3 rfl) ?_
    obtain ⟨_, _, _, cg, -, -⟩ := id (hD.rp (i := 18) (by omega))
    refine mw_callv hI hA (va_runV (As := [.ref ((w x))]) (rest := []) B.fix (t_X1_loadAboveRoot l D kA H.size f (hD.rp (i := 18) (by omega)).w (hD.rp (i := x) (by omega)) (hD.ne (i := x) (j := 18) (by omega) (by omega) (by omega)).1 (hD.ne (i := x) (j := 18) (by omega) (by omega) (by omega)).2 (by omega) (by rw [hsl _ hx]; exact bx)) (cwV 1 B.2.2.2.2.1 (gV kw_267 kw_268 kw_269 kw_2 kw_270) rfl rfl rfl (by decide +kernel) ⟨Nat.le_of_ble_eq_true rfl, Nat.le_of_ble_eq_true rfl⟩) ⟨mw_blind st_S.blind, mw_recv B hI cg rfl, mw_pre B hI (hSt.call hI hA)⟩ rfl rfl hl.1 rfl (lv_room (Nat.le_of_ble_eq_true rfl)) dX2_squareRoot_21 ⟨Nat.le_of_ble_eq_true rfl, Nat.le_of_ble_eq_true rfl⟩) (fun f H locs hp hI2 => ?_)
    clear hI
    have hI := hI2
    clear hI2
    obtain ⟨⟨G0, hR, hG1, hG2⟩, o1⟩ := hp
    have hp := And.intro hR o1
    obtain ⟨hR, o1⟩ := hp
    have ho : ∀ k, ¬ dks d sl pa w ra k → f k = f0 k := fun k h => (o1 k (dks_w h (show 18 < 24 by omega)).1 (dks_w h (show 18 < 24 by omega)).2).trans (ho k h)
    obtain ⟨Y1, hY1, hD⟩ : ∃ Z, Z = upI Y (18) (G0) ∧ DK kA f d sl pa w ra Z := ⟨_, rfl, hD.upd (t := 18) (by omega) hR o1⟩
    have v1 : Y1 (18) = G0 := by rw [hY1, upI_self]
    have r1 : ∀ i, i ≠ 18 → Y1 i = Y i := fun i hi => by rw [hY1, upI_ne _ _ hi]
    have hsl : ∀ i, i < 16 → Y1 i = Y i := fun i hi => (r1 i (by omega)).trans (hsl i hi)
    have hG3 := hG2 _ sq.1 sq.2.1 sq.2.2
    refine mv_iconst B dX2_squareRoot_24 ?_
    refine mv_istore (lv' := [(4, .int (iI (0))), (3, .ref ((w 19))), (2, .ref ((w 18))), (0, .ref d), (1, .ref ((w x)))]) B dX2_squareRoot_25 hl (by decide) rfl (fun ls hl => ?_)
    have loop : ∀ (μ : Nat) (j : Nat) (i : Int) (gu nu : Nat) (Yc : Nat → Int) (f : mw_M) (H : Heap) (locs : List Loc) (ls : Array Slot), 64 - j < μ → i = (j : Int) → j ≤ 64 → (gu = 18 ∧ nu = 19 ∨ gu = 19 ∧ nu = 18) → DK kA f d sl pa w ra Yc → (∀ i, i < 16 → Yc i = Y i) → nwI (sqr (Y x)) (Yc gu - sqr (Y x)) j → Yc gu < 1000000 ^ 27 → (∀ k, ¬ dks d sl pa w ra k → f k = f0 k) → mw_I D vwCl A s H locs f → lv_has ls 6 [(4, .int (iI (i))), (3, .ref ((w nu))), (2, .ref ((w gu))), (0, .ref d), (1, .ref ((w x)))] → W p l e rm_X2_squareRoot s m ([.ref d, .ref ((w x))] : List Value).toArray below meth c H locs 0 0 Q (F0 m 27 ls []) := by
      intro μ
      induction μ with
      | zero => intro j i gu nu Yc f H locs ls hμ; exact absurd hμ (Nat.not_lt_zero _)
      | succ μ ih =>
        intro j i gu nu Yc f H locs ls hμ hi hj hgn hD hsl hnw hgb ho hI hl
        have g0 := hnw.1
        have e103 : (1000000 : Int) ^ 27 + 1000000 ^ 50 < 1000000 ^ 103 := by decide
        have e27 : (1000000 : Int) ^ 27 < 1000000 ^ 103 := by decide
        refine mv_iload B dX2_squareRoot_27 (lv_at hl 0 rfl) ?_
        refine mv_bipush B dX2_squareRoot_29 (by decide) ?_
        have hsl0 := hsl
        refine mv_icmp_ge (tgt := 92) B dX2_squareRoot_31 (by decide) (by omega) (fun hd0 => ?_) (fun hd0 => ?_)
        · exact (nwI_end hnw (by omega)).elim
        · refine mv_aload_n B dX2_squareRoot_34 rfl (lv_at hl 3 rfl) ?_
          refine mw_get (C := RX2) (T := TX2) (N := 7) B hI hD.1 uin_X2 rfl 1 (by decide) kw_69 rfl dX2_squareRoot_35 ?_
          refine mv_aload_n B dX2_squareRoot_38 rfl (lv_at hl 4 rfl) ?_
          obtain ⟨_, _, _, cc, -, -⟩ := id (hD.rp (i := 16) (by omega))
          refine mw_callv hI hA (va_runV (As := [.ref ((w x))]) (rest := []) B.fix (t_X1_take l D kA H.size f (hD.rp (i := 16) (by omega)).w (hD.rp (i := x) (by omega)) (Or.inr (hD.ne (i := x) (j := 16) (by omega) (by omega) (by omega)))) (cwV 1 B.2.2.2.2.1 (gV kw_153 kw_154 kw_155 kw_2 kw_156) rfl rfl rfl (by decide +kernel) ⟨Nat.le_of_ble_eq_true rfl, Nat.le_of_ble_eq_true rfl⟩) ⟨mw_blind st_S.blind, mw_recv B hI cc rfl, mw_pre B hI (hSt.call hI hA)⟩ rfl rfl hl.1 rfl (lv_room (Nat.le_of_ble_eq_true rfl)) dX2_squareRoot_39 ⟨Nat.le_of_ble_eq_true rfl, Nat.le_of_ble_eq_true rfl⟩) (fun f H locs hp hI2 => ?_)
          clear hI
          have hI := hI2
          clear hI2
          obtain ⟨hR, o1⟩ := hp
          have ho : ∀ k, ¬ dks d sl pa w ra k → f k = f0 k := fun k h => (o1 k (dks_w h (show 16 < 24 by omega)).1 (dks_w h (show 16 < 24 by omega)).2).trans (ho k h)
          obtain ⟨Y11, hY11, hD⟩ : ∃ Z, Z = upI Yc (16) (Yc (x)) ∧ DK kA f d sl pa w ra Z := ⟨_, rfl, hD.upd (t := 16) (by omega) hR o1⟩
          have v11 : Y11 (16) = Yc (x) := by rw [hY11, upI_self]
          have r11 : ∀ i, i ≠ 16 → Y11 i = Yc i := fun i hi => by rw [hY11, upI_ne _ _ hi]
          have hsl : ∀ i, i < 16 → Y11 i = Y i := fun i hi => (r11 i (by omega)).trans (hsl i hi)
          refine mv_aload_n B dX2_squareRoot_42 rfl (lv_at hl 3 rfl) ?_
          refine mw_get (C := RX2) (T := TX2) (N := 7) B hI hD.1 uin_X2 rfl 1 (by decide) kw_69 rfl dX2_squareRoot_43 ?_
          refine mv_aload_n B dX2_squareRoot_46 rfl (lv_at hl 2 rfl) ?_
          refine mv_aload_n B dX2_squareRoot_47 rfl (lv_at hl 3 rfl) ?_
          refine mw_get (C := RX2) (T := TX2) (N := 7) B hI hD.1 uin_X2 rfl 5 (by decide) kw_73 rfl dX2_squareRoot_48 ?_
          have eg1 : Y11 gu = Yc gu := r11 _ (by omega)
          obtain ⟨_, _, _, cc, -, -⟩ := id (hD.rp (i := 16) (by omega))
          refine mw_callv hI hA (va_runV (As := [.ref ((w gu)), .ref ((w 20))]) (rest := []) B.fix (t_X1_divideBy l D kA H.size f (hD.rp (i := 16) (by omega)) (hD.rp (i := gu) (by omega)) (hD.rp (i := 20) (by omega)).w (hD.ne (i := gu) (j := 16) (by omega) (by omega) (by omega)).1 (hD.ne (i := gu) (j := 16) (by omega) (by omega) (by omega)).2 (hD.ne (i := 20) (j := 16) (by omega) (by omega) (by omega)).1 (hD.ne (i := 20) (j := 16) (by omega) (by omega) (by omega)).2 (hD.ne (i := 20) (j := gu) (by omega) (by omega) (by omega)).1 (hD.ne (i := 20) (j := gu) (by omega) (by omega) (by omega)).2 (by rw [eg1]; omega) (by rw [v11, hsl0 x hx]; omega)) (cwV 2 B.2.2.2.2.1 (gV kw_195 kw_196 kw_197 kw_2 kw_198) rfl rfl rfl (by decide +kernel) ⟨Nat.le_of_ble_eq_true rfl, Nat.le_of_ble_eq_true rfl⟩) ⟨mw_blind st_S.blind, mw_recv B hI cc rfl, mw_pre B hI (hSt.call hI hA)⟩ rfl rfl hl.1 rfl (lv_room (Nat.le_of_ble_eq_true rfl)) dX2_squareRoot_51 ⟨Nat.le_of_ble_eq_true rfl, Nat.le_of_ble_eq_true rfl⟩) (fun f H locs hp hI2 => ?_)
          clear hI
          have hI := hI2
          clear hI2
          obtain ⟨hR, hR2, o1⟩ := hp
          have ho : ∀ k, ¬ dks d sl pa w ra k → f k = f0 k := fun k h => (o1 k (dks_w h (show 16 < 24 by omega)).1 (dks_w h (show 16 < 24 by omega)).2 (dks_w h (show 20 < 24 by omega)).1 (dks_w h (show 20 < 24 by omega)).2).trans (ho k h)
          obtain ⟨Y12, hY12, hD⟩ : ∃ Z, Z = upI (upI Y11 (16) ((Y11 (16)).tmod (Y11 (gu)))) (20) ((Y11 (16)).tdiv (Y11 (gu))) ∧ DK kA f d sl pa w ra Z := ⟨_, rfl, hD.upd2 (t := 16) (u := 20) (by omega) (by omega) (by omega) hR hR2 o1⟩
          have v12 : Y12 (16) = (Y11 (16)).tmod (Y11 (gu)) := by rw [hY12, upI_ne _ _ (by omega), upI_self]
          have u12 : Y12 (20) = (Y11 (16)).tdiv (Y11 (gu)) := by rw [hY12, upI_self]
          have r12 : ∀ i, i ≠ 16 → i ≠ 20 → Y12 i = Y11 i := fun i hi hj => by rw [hY12, upI_ne _ _ hj, upI_ne _ _ hi]
          have hsl : ∀ i, i < 16 → Y12 i = Y i := fun i hi => (r12 i (by omega) (by omega)).trans (hsl i hi)
          rw [v11, eg1] at u12
          have eg2 : Y12 gu = Yc gu := by rw [r12 _ (by omega) (by omega)]; exact eg1
          have u12 : Y12 20 = Y x / Yc gu := by rw [u12, hsl0 x hx]; exact Int.tdiv_eq_ediv_of_nonneg hx0
          have qb : 0 ≤ Y x / Yc gu ∧ Y x / Yc gu ≤ Y x := ⟨Int.ediv_nonneg hx0 (by omega), Int.ediv_le_self _ hx0⟩
          refine mv_aload_n B dX2_squareRoot_54 rfl (lv_at hl 1 rfl) ?_
          refine mv_aload_n B dX2_squareRoot_55 rfl (lv_at hl 2 rfl) ?_
          refine mv_aload_n B dX2_squareRoot_56 rfl (lv_at hl 3 rfl) ?_
          refine mw_get (C := RX2) (T := TX2) (N := 7) B hI hD.1 uin_X2 rfl 5 (by decide) kw_73 rfl dX2_squareRoot_57 ?_
          refine mv_iconst B dX2_squareRoot_60 ?_
          obtain ⟨_, _, _, cc, -, -⟩ := id (hD.rp (i := nu) (by omega))
          refine mw_callv hI hA (va_runV (As := [.ref ((w gu)), .ref ((w 20)), .int (iI (0))]) (rest := []) B.fix (t_X1_takeSum l D kA H.size f (hD.rp (i := nu) (by omega)).w (hD.rp (i := gu) (by omega)) (hD.rp (i := 20) (by omega)) (hD.ne (i := gu) (j := nu) (by omega) (by omega) (by omega)).1 (hD.ne (i := gu) (j := nu) (by omega) (by omega) (by omega)).2 (hD.ne (i := 20) (j := nu) (by omega) (by omega) (by omega)).1 (hD.ne (i := 20) (j := nu) (by omega) (by omega) (by omega)).2 (by omega) (by rw [eg2]; omega) (by rw [u12]; omega)) (cwV 3 B.2.2.2.2.1 (gV kw_124 kw_125 kw_126 kw_2 kw_127) rfl rfl rfl (by decide +kernel) ⟨Nat.le_of_ble_eq_true rfl, Nat.le_of_ble_eq_true rfl⟩) ⟨mw_blind st_S.blind, mw_recv B hI cc rfl, mw_pre B hI (hSt.call hI hA)⟩ rfl rfl hl.1 rfl (lv_room (Nat.le_of_ble_eq_true rfl)) dX2_squareRoot_61 ⟨Nat.le_of_ble_eq_true rfl, Nat.le_of_ble_eq_true rfl⟩) (fun f H locs hp hI2 => ?_)
          clear hI
          have hI := hI2
          clear hI2
          obtain ⟨hR, o1⟩ := hp
          have ho : ∀ k, ¬ dks d sl pa w ra k → f k = f0 k := fun k h => (o1 k (dks_w h (show nu < 24 by omega)).1 (dks_w h (show nu < 24 by omega)).2).trans (ho k h)
          obtain ⟨Y13, hY13, hD⟩ : ∃ Z, Z = upI Y12 (nu) (if (0 : Int) = 0 then Y12 (gu) + Y12 (20) else Y12 (gu) - Y12 (20)) ∧ DK kA f d sl pa w ra Z := ⟨_, rfl, hD.upd (t := nu) (by omega) hR o1⟩
          have v13 : Y13 (nu) = if (0 : Int) = 0 then Y12 (gu) + Y12 (20) else Y12 (gu) - Y12 (20) := by rw [hY13, upI_self]
          have r13 : ∀ i, i ≠ nu → Y13 i = Y12 i := fun i hi => by rw [hY13, upI_ne _ _ hi]
          have hsl : ∀ i, i < 16 → Y13 i = Y i := fun i hi => (r13 i (by omega)).trans (hsl i hi)
          have v13 : Y13 nu = Yc gu + Y x / Yc gu := by rw [v13, if_pos rfl, eg2, u12]
          have eg3 : Y13 gu = Yc gu := by rw [r13 _ (by omega)]; exact eg2
          refine mv_aload_n B dX2_squareRoot_64 rfl (lv_at hl 1 rfl) ?_
          obtain ⟨_, _, _, cc, -, -⟩ := id (hD.rp (i := nu) (by omega))
          refine mw_callv hI hA (va_runV (As := []) (rest := []) B.fix (t_X1_halve l D kA H.size f (hD.rp (i := nu) (by omega)) (by rw [v13]; omega)) (cwV 0 B.2.2.2.2.1 (gV kw_276 kw_277 kw_278 kw_2 kw_279) rfl rfl rfl (by decide +kernel) ⟨Nat.le_of_ble_eq_true rfl, Nat.le_of_ble_eq_true rfl⟩) ⟨mw_blind st_S.blind, mw_recv B hI cc rfl, mw_pre B hI (hSt.call hI hA)⟩ rfl rfl hl.1 rfl (lv_room (Nat.le_of_ble_eq_true rfl)) dX2_squareRoot_65 ⟨Nat.le_of_ble_eq_true rfl, Nat.le_of_ble_eq_true rfl⟩) (fun f H locs hp hI2 => ?_)
          clear hI
          have hI := hI2
          clear hI2
          obtain ⟨hR, o1⟩ := hp
          have ho : ∀ k, ¬ dks d sl pa w ra k → f k = f0 k := fun k h => (o1 k (dks_w h (show nu < 24 by omega)).1 (dks_w h (show nu < 24 by omega)).2).trans (ho k h)
          obtain ⟨Y14, hY14, hD⟩ : ∃ Z, Z = upI Y13 (nu) (Y13 nu / 2) ∧ DK kA f d sl pa w ra Z := ⟨_, rfl, hD.upd (t := nu) (by omega) hR o1⟩
          have v14 : Y14 (nu) = Y13 nu / 2 := by rw [hY14, upI_self]
          have r14 : ∀ i, i ≠ nu → Y14 i = Y13 i := fun i hi => by rw [hY14, upI_ne _ _ hi]
          have hsl : ∀ i, i < 16 → Y14 i = Y i := fun i hi => (r14 i (by omega)).trans (hsl i hi)
          have v14 : Y14 nu = (Yc gu + Y x / Yc gu) / 2 := by rw [v14, v13]
          have eg4 : Y14 gu = Yc gu := by rw [r14 _ (by omega)]; exact eg3
          refine mv_aload_n B dX2_squareRoot_68 rfl (lv_at hl 1 rfl) ?_
          refine mv_aload_n B dX2_squareRoot_69 rfl (lv_at hl 2 rfl) ?_
          obtain ⟨g1, m1, b1, e1, e2, e3⟩ := id (hD.rp (i := nu) (by omega))
          obtain ⟨g2, m2, b2, e4, e5, e6⟩ := id (hD.rp (i := gu) (by omega))
          refine mw_calli hI hA (va_runV (As := [.ref ((w gu))]) (rest := []) B.fix (t_X1_compareParts l D kA H.size f e1 e2 e4 e5 e3.toCn e6.toCn) (cwV 1 B.2.2.2.2.1 (gV kw_280 kw_129 kw_130 kw_2 kw_131) rfl rfl rfl (by decide +kernel) ⟨Nat.le_of_ble_eq_true rfl, Nat.le_of_ble_eq_true rfl⟩) ⟨mw_blind st_S.blind, mw_recv B hI e1 rfl, mw_pre B hI (hSt.call hI hA)⟩ rfl rfl hl.1 rfl (lv_room (Nat.le_of_ble_eq_true rfl)) dX2_squareRoot_70 ⟨Nat.le_of_ble_eq_true rfl, Nat.le_of_ble_eq_true rfl⟩) (fun r f H locs hp hI2 => ?_)
          clear hI
          have hI := hI2
          clear hI2
          obtain ⟨rfl, rfl⟩ := hp
          have n1 := e3.nat
          have n2 := e6.nat
          have cc3 := c3_in (dv g1 m1) (dv g2 m2)
          rw [v14] at n1
          rw [eg4] at n2
          have ge := nw_ge (x := Y x) (s := sqr (Y x)) (g := Yc gu) (by omega) sq.2.1 sq.1
          refine mv_if_lt (tgt := 78) B dX2_squareRoot_73 (by decide) (by omega) (fun hd3 => ?_) (fun hd3 => ?_)
          · refine mv_aload_n B dX2_squareRoot_78 rfl (lv_at hl 2 rfl) ?_
            refine mv_astore (lv' := [(5, .ref ((w gu))), (4, .int (iI (i))), (3, .ref ((w nu))), (2, .ref ((w gu))), (0, .ref d), (1, .ref ((w x)))]) B dX2_squareRoot_79 hl (by decide) rfl (fun ls hl => ?_)
            refine mv_aload_n B dX2_squareRoot_81 rfl (lv_at hl 2 rfl) ?_
            refine mv_astore_n (lv' := [(2, .ref ((w nu))), (5, .ref ((w gu))), (4, .int (iI (i))), (3, .ref ((w nu))), (0, .ref d), (1, .ref ((w x)))]) B dX2_squareRoot_82 rfl hl (by decide) rfl (fun ls hl => ?_)
            refine mv_aload B dX2_squareRoot_83 (lv_at hl 1 rfl) ?_
            refine mv_astore_n (lv' := [(3, .ref ((w gu))), (2, .ref ((w nu))), (5, .ref ((w gu))), (4, .int (iI (i))), (0, .ref d), (1, .ref ((w x)))]) B dX2_squareRoot_85 rfl hl (by decide) rfl (fun ls hl => ?_)
            refine mv_iinc (k := 3) (lv' := [(4, .int (iI (i + 1))), (3, .ref ((w gu))), (2, .ref ((w nu))), (5, .ref ((w gu))), (0, .ref d), (1, .ref ((w x)))]) B dX2_squareRoot_86 hl rfl (by decide) rfl (fun ls hl => ?_)
            refine mv_goto (tgt := 27) B dX2_squareRoot_89 (by decide) ?_
            exact ih (j + 1) _ nu gu Y14 f H locs ls (by omega) (by omega) (by omega) (by omega) hD hsl (by rw [v14]; exact nwI_step sq.1 s26 hnw (by omega) (by omega) (nw_near (by omega) (by omega) sq.2.1 sq.2.2)) (by rw [v14]; omega) ho hI (lv_sub hl [0, 1, 2, 4, 5] rfl)
          · refine mv_aload_n B dX2_squareRoot_76 rfl (lv_at hl 2 rfl) ?_
            have hfin : Yc gu = sqr (Y x) := by
              rcases Int.lt_or_le (sqr (Y x)) (Yc gu) with q | q
              · have := nw_lt q sq.1 sq.2.2; omega
              · omega
            exact mw_aret B hQ hrt hI ⟨gu, Y14, by omega, rfl, hD, hsl, by rw [eg4]; exact hfin, ho⟩ dX2_squareRoot_77
    exact loop 65 0 _ 18 19 Y1 f H locs ls (by decide) rfl (by decide) (Or.inl ⟨rfl, rfl⟩) hD hsl (by rw [v1]; exact nwI_0 (by omega) (by omega)) (by rw [v1]; exact hG1) ho hI (lv_sub hl [0, 1, 2, 3, 4] rfl)
  · have hzz : Y x = 0 := by
      by_cases q : (n : Int) = 0
      · exact hz0.mpr (by omega)
      · rw [if_neg q] at hc; exact absurd rfl hc
    refine mv_aload_n B dX2_squareRoot_17 rfl (lv_at hl 3 rfl) ?_
    exact mw_aret B hQ hrt hI ⟨x, Y, by omega, rfl, hD, hsl, by rw [hzz]; rfl, ho⟩ dX2_squareRoot_18
abbrev rm_X2_root : Room := { frames := 4, cells := 0, slots := 0, locals := 110 }
set_option maxHeartbeats 4000000 in
set_option maxRecDepth 100000 in
/-- root -/
theorem t_X2_root (l : Launch) (D : va_G) (kA : Nat → ClassId) (sz : Nat) (f0 : mw_M) {d sl pa : Nat} {w ra : Nat → Nat} {Y : Nat → Int} {a t : Int} (hD : DK kA f0 d sl pa w ra Y) (hB : ∀ i, i < 16 → ((Y i).natAbs : Int) < 1000000 ^ 50) (ha : -2147483648 ≤ a ∧ a ≤ 2147483647) (ht : -2147483648 ≤ t ∧ t ≤ 2147483647) : mw_Mi l yX2_root (Cond.code yX2_root cX2_root 3 ((some .int)) :: gw) rm_X2_root D vwCl (tyL kA) st_S [.ref d, .int (iI (a)), .int (iI (t))] f0 sz (fun v f => v = iI (sp_root Y a t).1 ∧ (∃ Y', DK kA f d sl pa w ra Y' ∧ ∀ i, i < 16 → Y' i = (sp_root Y a t).2 i) ∧ ∀ k, ¬ dks d sl pa w ra k → f k = f0 k) 0 0 := by
  refine mw_ofi (cc := cX2_root) (maxL := 3) (ret := (some .int)) (by decide) rfl (Nat.le_of_ble_eq_true rfl) ?_
  intro p e s m below meth c A ls Q hQ B hrt hnm hA hI hSt hl
  have hl : lv_has ls 3 [(0, .ref d), (1, .int (iI (a))), (2, .int (iI (t)))] := hl
  obtain ⟨f, hI, hf⟩ : ∃ f, mw_I D vwCl A s s.heap [] f ∧ f = f0 := ⟨f0, hI, rfl⟩
  rw [← hf] at hD
  have ho : ∀ k, ¬ dks d sl pa w ra k → f k = f0 k := fun k _ => by rw [hf]
  have hsl : ∀ i, i < 16 → Y i = Y i := fun _ _ => rfl
  refine mv_iload_n B dX2_root_0 rfl (lv_at hl 1 rfl) ?_
  refine mv_iload_n B dX2_root_1 rfl (lv_at hl 2 rfl) ?_
  refine mw_calli hI hA (va_runS (As := [.int (iI (a)), .int (iI (t))]) (rest := []) B.fix (t_X2_areSlots l D kA s.heap.size f ha ht) (cwS 2 B.2.2.2.2.1 (gS kw_164 kw_165 kw_1 kw_166) rfl rfl rfl (by decide +kernel) ⟨Nat.le_of_ble_eq_true rfl, Nat.le_of_ble_eq_true rfl⟩) ⟨mw_blind st_S.blind, mw_pre B hI (hSt.call hI hA)⟩ rfl rfl hl.1 rfl (lv_room (Nat.le_of_ble_eq_true rfl)) dX2_root_2 ⟨Nat.le_of_ble_eq_true rfl, Nat.le_of_ble_eq_true rfl⟩) (fun r f H locs hp hI2 => ?_)
  clear hI
  have hI := hI2
  clear hI2
  obtain ⟨rfl, rfl⟩ := hp
  refine mv_if_eq (tgt := 20) B dX2_root_5 (by decide) (by split <;> omega) (fun hc => ?_) (fun hc => ?_)
  · have h1 : ¬ (sOk a ∧ sOk t) := fun q => by rw [if_pos q] at hc; exact absurd hc (by decide)
    refine mv_iconst B dX2_root_20 ?_
    have e9 : sp_root Y a t = (-1, Y) := by unfold sp_root; rw [if_neg (fun q => h1 ⟨q.1, q.2.1⟩)]
    exact mw_iret B hQ hrt hI ⟨by rw [e9], ⟨_, hD, fun i hi => (hsl i hi).trans (by rw [e9])⟩, ho⟩ dX2_root_21
  · have h1 : sOk a ∧ sOk t := by
      by_cases q : sOk a ∧ sOk t
      · exact q
      · rw [if_neg q] at hc; exact absurd rfl hc
    refine mv_aload_n B dX2_root_8 rfl (lv_at hl 0 rfl) ?_
    refine mw_get (C := RX2) (T := TX2) (N := 7) B hI hD.1 uin_X2 rfl 0 (by decide) kw_68 rfl dX2_root_9 ?_
    refine mv_iload_n B dX2_root_12 rfl (lv_at hl 1 rfl) ?_
    obtain ⟨gs, hs1, hs2⟩ := hD.2.1
    refine mw_aald B hI 1 hs1 rfl (a.toNat) (by omega) (by omega) (by decide) (hs2 _ (by omega)) dX2_root_13 ?_
    obtain ⟨gA, nA, bA, cA, -, zA⟩ := id (hD.rp (i := a.toNat) (by omega))
    have qA := zA.b0
    refine ww_below B hI cA uin_X1 kw_29 dX2_root_14 ?_
    refine mv_if_eq (tgt := 22) B dX2_root_17 (by decide) (by omega) (fun hc2 => ?_) (fun hc2 => ?_)
    · refine mv_aload_n B dX2_root_22 rfl (lv_at hl 0 rfl) ?_
      refine mv_aload_n B dX2_root_23 rfl (lv_at hl 0 rfl) ?_
      refine mv_aload_n B dX2_root_24 rfl (lv_at hl 0 rfl) ?_
      refine mw_get (C := RX2) (T := TX2) (N := 7) B hI hD.1 uin_X2 rfl 0 (by decide) kw_68 rfl dX2_root_25 ?_
      refine mv_iload_n B dX2_root_28 rfl (lv_at hl 1 rfl) ?_
      obtain ⟨gs, hs1, hs2⟩ := hD.2.1
      refine mw_aald B hI 1 hs1 rfl (a.toNat) (by omega) (by omega) (by decide) (hs2 _ (by omega)) dX2_root_29 ?_
      refine mw_callr hI hA (va_runV (As := [.ref ((w (a.toNat)))]) (rest := [.ref d]) B.fix (t_X2_squareRoot l D kA H.size f (x := a.toNat) hD hB (by omega) (by omega)) (cwV 1 B.2.2.2.2.1 (gV kw_263 kw_265 ks_13 kw_1 kw_266) rfl rfl rfl (by decide +kernel) ⟨Nat.le_of_ble_eq_true rfl, Nat.le_of_ble_eq_true rfl⟩) ⟨mw_blind st_S.blind, mw_recv B hI hD.1 rfl, mw_pre B hI (hSt.call hI hA)⟩ rfl rfl hl.1 rfl (lv_room (Nat.le_of_ble_eq_true rfl)) dX2_root_30 ⟨Nat.le_of_ble_eq_true rfl, Nat.le_of_ble_eq_true rfl⟩) (fun r f H locs hp hI2 => ?_)
      clear hI
      have hI := hI2
      clear hI2
      obtain ⟨u1, Y1, hu1, hu2, hD, hsl, hv, o1⟩ := hp
      dsimp only at hu2 hD o1
      subst hu2
      have ho : ∀ k, ¬ dks d sl pa w ra k → f k = f0 k := fun k h => (o1 k h).trans (ho k h)
      refine mv_iload_n B dX2_root_33 rfl (lv_at hl 2 rfl) ?_
      refine mw_calli hI hA (va_runV (As := [.ref ((w u1)), .int (iI (t))]) (rest := []) B.fix (t_X2_keep l D kA H.size f (t := u1) hD (fun i hi => by rw [hsl i hi]; exact hB i hi) (by omega) h1.2) (cwV 2 B.2.2.2.2.1 (gV kw_145 kw_147 ks_2 kw_1 kw_148) rfl rfl rfl (by decide +kernel) ⟨Nat.le_of_ble_eq_true rfl, Nat.le_of_ble_eq_true rfl⟩) ⟨mw_blind st_S.blind, mw_recv B hI hD.1 rfl, mw_pre B hI (hSt.call hI hA)⟩ rfl rfl hl.1 rfl (lv_room (Nat.le_of_ble_eq_true rfl)) dX2_root_34 ⟨Nat.le_of_ble_eq_true rfl, Nat.le_of_ble_eq_true rfl⟩) (fun r f H locs hp hI2 => ?_)
      clear hI
      have hI := hI2
      clear hI2
      obtain ⟨rfl, hD, o1⟩ := hp
      have ho : ∀ k, ¬ dks d sl pa w ra k → f k = f0 k := fun k h => (o1 k h).trans (ho k h)
      have e9 : sp_root Y a t = kp Y (t) (sqr (Y a.toNat)) := by unfold sp_root; rw [if_pos ⟨h1.1, h1.2, by omega⟩]
      have e7 : Y1 (u1) = sqr (Y a.toNat) := by exact hv
      have e8 := kp_same (x := t) e7 hsl
      exact mw_iret B hQ hrt hI ⟨(congrArg iI e8.1).trans (by rw [e9]), ⟨_, hD, fun i hi => (e8.2 i hi).trans (by rw [e9])⟩, ho⟩ dX2_root_37
    · refine mv_iconst B dX2_root_20 ?_
      have e9 : sp_root Y a t = (-1, Y) := by unfold sp_root; rw [if_neg (fun q => by omega)]
      exact mw_iret B hQ hrt hI ⟨by rw [e9], ⟨_, hD, fun i hi => (hsl i hi).trans (by rw [e9])⟩, ho⟩ dX2_root_21
end
section
abbrev rm_X2_power : Room := { frames := 3, cells := 0, slots := 0, locals := 83 }
set_option maxHeartbeats 4000000 in
set_option maxRecDepth 100000 in
/-- power -/
theorem t_X2_power (l : Launch) (D : va_G) (kA : Nat → ClassId) (sz : Nat) (f0 : mw_M) {d sl pa : Nat} {w ra : Nat → Nat} {Y : Nat → Int} {a e_ t : Int} (hD : DK kA f0 d sl pa w ra Y) (hB : ∀ i, i < 16 → ((Y i).natAbs : Int) < 1000000 ^ 50) (ha : -2147483648 ≤ a ∧ a ≤ 2147483647) (he_ : -2147483648 ≤ e_ ∧ e_ ≤ 2147483647) (ht : -2147483648 ≤ t ∧ t ≤ 2147483647) : mw_Mi l yX2_power (Cond.code yX2_power cX2_power 8 ((some .int)) :: gw) rm_X2_power D vwCl (tyL kA) st_S [.ref d, .int (iI (a)), .int (iI (e_)), .int (iI (t))] f0 sz (fun v f => v = iI (sp_power Y a e_ t).1 ∧ (∃ Y', DK kA f d sl pa w ra Y' ∧ ∀ i, i < 16 → Y' i = (sp_power Y a e_ t).2 i) ∧ ∀ k, ¬ dks d sl pa w ra k → f k = f0 k) 0 0 := by
  refine mw_ofi (cc := cX2_power) (maxL := 8) (ret := (some .int)) (by decide) rfl (Nat.le_of_ble_eq_true rfl) ?_
  intro p e s m below meth c A ls Q hQ B hrt hnm hA hI hSt hl
  have hl : lv_has ls 8 [(0, .ref d), (1, .int (iI (a))), (2, .int (iI (e_))), (3, .int (iI (t)))] := hl
  obtain ⟨f, hI, hf⟩ : ∃ f, mw_I D vwCl A s s.heap [] f ∧ f = f0 := ⟨f0, hI, rfl⟩
  rw [← hf] at hD
  have ho : ∀ k, ¬ dks d sl pa w ra k → f k = f0 k := fun k _ => by rw [hf]
  have hsl : ∀ i, i < 16 → Y i = Y i := fun _ _ => rfl
  refine mv_iload_n B dX2_power_0 rfl (lv_at hl 1 rfl) ?_
  refine mv_iload_n B dX2_power_1 rfl (lv_at hl 3 rfl) ?_
  refine mw_calli hI hA (va_runS (As := [.int (iI (a)), .int (iI (t))]) (rest := []) B.fix (t_X2_areSlots l D kA s.heap.size f ha ht) (cwS 2 B.2.2.2.2.1 (gS kw_164 kw_165 kw_1 kw_166) rfl rfl rfl (by decide +kernel) ⟨Nat.le_of_ble_eq_true rfl, Nat.le_of_ble_eq_true rfl⟩) ⟨mw_blind st_S.blind, mw_pre B hI (hSt.call hI hA)⟩ rfl rfl hl.1 rfl (lv_room (Nat.le_of_ble_eq_true rfl)) dX2_power_2 ⟨Nat.le_of_ble_eq_true rfl, Nat.le_of_ble_eq_true rfl⟩) (fun r f H locs hp hI2 => ?_)
  clear hI
  have hI := hI2
  clear hI2
  obtain ⟨rfl, rfl⟩ := hp
  refine mv_if_eq (tgt := 19) B dX2_power_5 (by decide) (by split <;> omega) (fun hc => ?_) (fun hc => ?_)
  · have h1 : ¬ (sOk a ∧ sOk t) := fun q => by rw [if_pos q] at hc; exact absurd hc (by decide)
    refine mv_iconst B dX2_power_19 ?_
    have e9 : sp_power Y a e_ t = (-1, Y) := by unfold sp_power; rw [if_neg (fun q => h1 ⟨q.1, q.2.1⟩)]
    exact mw_iret B hQ hrt hI ⟨by rw [e9], ⟨_, hD, fun i hi => (hsl i hi).trans (by rw [e9])⟩, ho⟩ dX2_power_20
  · have h1 : sOk a ∧ sOk t := by
      by_cases q : sOk a ∧ sOk t
      · exact q
      · rw [if_neg q] at hc; exact absurd rfl hc
    refine mv_iload_n B dX2_power_8 rfl (lv_at hl 2 rfl) ?_
    refine mv_if_lt (tgt := 19) B dX2_power_9 (by decide) (by omega) (fun hc2 => ?_) (fun hc2 => ?_)
    · refine mv_iconst B dX2_power_19 ?_
      have e9 : sp_power Y a e_ t = (-1, Y) := by unfold sp_power; rw [if_neg (fun q => by omega)]
      exact mw_iret B hQ hrt hI ⟨by rw [e9], ⟨_, hD, fun i hi => (hsl i hi).trans (by rw [e9])⟩, ho⟩ dX2_power_20
    · refine mv_iload_n B dX2_power_12 rfl (lv_at hl 2 rfl) ?_
      refine mv_sipush B dX2_power_13 (by decide) ?_
      refine mv_icmp_le (tgt := 21) B dX2_power_16 (by decide) (by omega) (fun hc3 => ?_) (fun hc3 => ?_)
      · obtain ⟨E, hE⟩ : ∃ E : Nat, e_ = (E : Int) := ⟨e_.toNat, by omega⟩
        have hE2 : E ≤ 1000 := by omega
        have b5 := b50
        have ba := hB a.toNat (by omega)
        have e9 : sp_power Y a e_ t = kp Y t (Y a.toNat ^ E) := by unfold sp_power; rw [if_pos ⟨h1.1, h1.2, by omega, by omega⟩, hE]; rfl
        refine mv_aload_n B dX2_power_21 rfl (lv_at hl 0 rfl) ?_
        refine mw_get (C := RX2) (T := TX2) (N := 7) B hI hD.1 uin_X2 rfl 3 (by decide) kw_71 rfl dX2_power_22 ?_
        refine mv_astore (lv' := [(4, .ref ((w 18))), (0, .ref d), (1, .int (iI (a))), (2, .int (iI (e_))), (3, .int (iI (t)))]) B dX2_power_25 hl (by decide) rfl (fun ls hl => ?_)
        refine mv_aload_n B dX2_power_27 rfl (lv_at hl 1 rfl) ?_
        refine mw_get (C := RX2) (T := TX2) (N := 7) B hI hD.1 uin_X2 rfl 4 (by decide) kw_72 rfl dX2_power_28 ?_
        refine mv_astore (lv' := [(5, .ref ((w 19))), (4, .ref ((w 18))), (0, .ref d), (1, .int (iI (a))), (2, .int (iI (e_))), (3, .int (iI (t)))]) B dX2_power_31 hl (by decide) rfl (fun ls hl => ?_)
        refine mv_aload B dX2_power_33 (lv_at hl 1 rfl) ?_
        refine mv_lconst1 B dX2_power_35 ?_
        obtain ⟨_, _, _, cc, -, -⟩ := id (hD.rp (i := 18) (by omega))
        refine mw_callv hI hA (va_runV (As := [.long (lI (1))]) (rest := []) B.fix (t_X1_load l D kA H.size f (hD.rp (i := 18) (by omega)).w (by decide)) (cwV 1 B.2.2.2.2.1 (gV kw_97 kw_98 kw_99 kw_2 kw_100) rfl rfl rfl (by decide +kernel) ⟨Nat.le_of_ble_eq_true rfl, Nat.le_of_ble_eq_true rfl⟩) ⟨mw_blind st_S.blind, mw_recv B hI cc rfl, mw_pre B hI (hSt.call hI hA)⟩ rfl rfl hl.1 rfl (lv_room (Nat.le_of_ble_eq_true rfl)) dX2_power_36 ⟨Nat.le_of_ble_eq_true rfl, Nat.le_of_ble_eq_true rfl⟩) (fun f H locs hp hI2 => ?_)
        clear hI
        have hI := hI2
        clear hI2
        obtain ⟨hR, o1⟩ := hp
        have ho : ∀ k, ¬ dks d sl pa w ra k → f k = f0 k := fun k h => (o1 k (dks_w h (show 18 < 24 by omega)).1 (dks_w h (show 18 < 24 by omega)).2).trans (ho k h)
        obtain ⟨Y1, hY1, hD⟩ : ∃ Z, Z = upI Y (18) (1) ∧ DK kA f d sl pa w ra Z := ⟨_, rfl, hD.upd (t := 18) (by omega) hR o1⟩
        have v1 : Y1 (18) = 1 := by rw [hY1, upI_self]
        have r1 : ∀ i, i ≠ 18 → Y1 i = Y i := fun i hi => by rw [hY1, upI_ne _ _ hi]
        have hsl : ∀ i, i < 16 → Y1 i = Y i := fun i hi => (r1 i (by omega)).trans (hsl i hi)
        refine mv_sipush B dX2_power_39 (by decide) ?_
        refine mv_istore (lv' := [(6, .int (iI (512))), (5, .ref ((w 19))), (4, .ref ((w 18))), (0, .ref d), (1, .int (iI (a))), (2, .int (iI (e_))), (3, .int (iI (t)))]) B dX2_power_42 hl (by decide) rfl (fun ls hl => ?_)
        have loop : ∀ (μ : Nat) (j : Nat) (bi : Int) (gu nu : Nat) (Yc : Nat → Int) (f : mw_M) (H : Heap) (locs : List Loc) (ls : Array Slot), j < μ → bi = bt_ j → j ≤ 10 → (gu = 18 ∧ nu = 19 ∨ gu = 19 ∧ nu = 18) → DK kA f d sl pa w ra Yc → (∀ i, i < 16 → Yc i = Y i) → Yc gu = Y a.toNat ^ (E / 2 ^ j) → ((Yc gu).natAbs : Int) < 1000000 ^ 50 → (∀ k, ¬ dks d sl pa w ra k → f k = f0 k) → mw_I D vwCl A s H locs f → lv_has ls 8 [(6, .int (iI (bi))), (5, .ref ((w nu))), (4, .ref ((w gu))), (0, .ref d), (1, .int (iI (a))), (2, .int (iI (e_))), (3, .int (iI (t)))] → W p l e rm_X2_power s m ([.ref d, .int (iI (a)), .int (iI (e_)), .int (iI (t))] : List Value).toArray below meth c H locs 0 0 Q (F0 m 44 ls []) := by
          intro μ
          induction μ with
          | zero => intro j bi gu nu Yc f H locs ls hμ; exact absurd hμ (Nat.not_lt_zero _)
          | succ μ ih =>
            intro j bi gu nu Yc f H locs ls hμ hbi hj hgn hD hsl hv hfit ho hI hl
            have b0 := bt_in j (by omega)
            refine mv_iload B dX2_power_44 (lv_at hl 0 rfl) ?_
            refine mv_if_le (tgt := 122) B dX2_power_46 (by decide) (by omega) (fun hd0 => ?_) (fun hd0 => ?_)
            · obtain rfl : j = 0 := by have := b0.2.2; omega
              rw [Nat.pow_zero, Nat.div_one] at hv
              refine mv_aload_n B dX2_power_122 rfl (lv_at hl 3 rfl) ?_
              refine mv_aload B dX2_power_123 (lv_at hl 2 rfl) ?_
              refine mv_iload_n B dX2_power_125 rfl (lv_at hl 6 rfl) ?_
              refine mw_calli hI hA (va_runV (As := [.ref ((w gu)), .int (iI (t))]) (rest := []) B.fix (t_X2_keep l D kA H.size f (t := gu) hD (fun i hi => by rw [hsl i hi]; exact hB i hi) (by omega) h1.2) (cwV 2 B.2.2.2.2.1 (gV kw_145 kw_147 ks_2 kw_1 kw_148) rfl rfl rfl (by decide +kernel) ⟨Nat.le_of_ble_eq_true rfl, Nat.le_of_ble_eq_true rfl⟩) ⟨mw_blind st_S.blind, mw_recv B hI hD.1 rfl, mw_pre B hI (hSt.call hI hA)⟩ rfl rfl hl.1 rfl (lv_room (Nat.le_of_ble_eq_true rfl)) dX2_power_126 ⟨Nat.le_of_ble_eq_true rfl, Nat.le_of_ble_eq_true rfl⟩) (fun r f H locs hp hI2 => ?_)
              clear hI
              have hI := hI2
              clear hI2
              obtain ⟨rfl, hD, o1⟩ := hp
              have ho : ∀ k, ¬ dks d sl pa w ra k → f k = f0 k := fun k h => (o1 k h).trans (ho k h)
              have e8 := kp_same (x := t) hv hsl
              exact mw_iret B hQ hrt hI ⟨(congrArg iI e8.1).trans (by rw [e9]), ⟨_, hD, fun i hi => (e8.2 i hi).trans (by rw [e9])⟩, ho⟩ dX2_power_129
            · obtain ⟨k, rfl⟩ : ∃ k, j = k + 1 := ⟨j - 1, by have := b0.2.2; omega⟩
              have hbk : bi = ((2 ^ k : Nat) : Int) := by rw [hbi]; show (2 : Int) ^ k = _; rw [Int.natCast_pow]; rfl
              have pb := pw_bit (e := E) (j := k)
              have hEk : E / 2 ^ k ≤ E := Nat.div_le_self _ _
              refine mv_aload B dX2_power_49 (lv_at hl 1 rfl) ?_
              refine mv_aload B dX2_power_51 (lv_at hl 2 rfl) ?_
              refine mv_aload B dX2_power_53 (lv_at hl 2 rfl) ?_
              obtain ⟨_, _, _, cc, -, -⟩ := id (hD.rp (i := nu) (by omega))
              refine mw_callv hI hA (va_runV (As := [.ref ((w gu)), .ref ((w gu))]) (rest := []) B.fix (t_X1_takeProduct l D kA H.size f (hD.rp (i := nu) (by omega)).w (hD.rp (i := gu) (by omega)) (hD.rp (i := gu) (by omega)) (hD.ne (i := gu) (j := nu) (by omega) (by omega) (by omega)).1 (hD.ne (i := gu) (j := nu) (by omega) (by omega) (by omega)).2 (hD.ne (i := gu) (j := nu) (by omega) (by omega) (by omega)).1 (hD.ne (i := gu) (j := nu) (by omega) (by omega) (by omega)).2 hfit hfit) (cwV 2 B.2.2.2.2.1 (gV kw_114 kw_115 kw_116 kw_2 kw_117) rfl rfl rfl (by decide +kernel) ⟨Nat.le_of_ble_eq_true rfl, Nat.le_of_ble_eq_true rfl⟩) ⟨mw_blind st_S.blind, mw_recv B hI cc rfl, mw_pre B hI (hSt.call hI hA)⟩ rfl rfl hl.1 rfl (lv_room (Nat.le_of_ble_eq_true rfl)) dX2_power_55 ⟨Nat.le_of_ble_eq_true rfl, Nat.le_of_ble_eq_true rfl⟩) (fun f H locs hp hI2 => ?_)
              clear hI
              have hI := hI2
              clear hI2
              obtain ⟨hR, o1⟩ := hp
              have ho : ∀ k, ¬ dks d sl pa w ra k → f k = f0 k := fun k h => (o1 k (dks_w h (show nu < 24 by omega)).1 (dks_w h (show nu < 24 by omega)).2).trans (ho k h)
              obtain ⟨Y11, hY11, hD⟩ : ∃ Z, Z = upI Yc (nu) (Yc (gu) * Yc (gu)) ∧ DK kA f d sl pa w ra Z := ⟨_, rfl, hD.upd (t := nu) (by omega) hR o1⟩
              have v11 : Y11 (nu) = Yc (gu) * Yc (gu) := by rw [hY11, upI_self]
              have r11 : ∀ i, i ≠ nu → Y11 i = Yc i := fun i hi => by rw [hY11, upI_ne _ _ hi]
              have hsl : ∀ i, i < 16 → Y11 i = Y i := fun i hi => (r11 i (by omega)).trans (hsl i hi)
              have vn : Y11 nu = Y a.toNat ^ (E / 2 ^ (k + 1) + E / 2 ^ (k + 1)) := by rw [v11, hv, Int.pow_add]
              have eg : Y11 gu = Yc gu := r11 _ (by omega)
              refine mv_aload B dX2_power_58 (lv_at hl 1 rfl) ?_
              obtain ⟨g, n, b_, c1, c2, c3_⟩ := id (hD.rp (i := nu) (by omega))
              have m1 := c3_.1
              have m2 := c3_.size 50
              refine mw_calli hI hA (va_runV (As := []) (rest := []) B.fix (t_X1_isTooLong l D kA H.size f c1 (by omega)) (cwV 0 B.2.2.2.2.1 (gV kw_149 kw_150 kw_151 kw_2 kw_152) rfl rfl rfl (by decide +kernel) ⟨Nat.le_of_ble_eq_true rfl, Nat.le_of_ble_eq_true rfl⟩) ⟨mw_blind st_S.blind, mw_recv B hI c1 rfl, mw_pre B hI (hSt.call hI hA)⟩ rfl rfl hl.1 rfl (lv_room (Nat.le_of_ble_eq_true rfl)) dX2_power_60 ⟨Nat.le_of_ble_eq_true rfl, Nat.le_of_ble_eq_true rfl⟩) (fun r f H locs hp hI2 => ?_)
              clear hI
              have hI := hI2
              clear hI2
              obtain ⟨rfl, rfl⟩ := hp
              have hsl11 := hsl
              refine mv_if_eq (tgt := 68) B dX2_power_63 (by decide) (by split <;> omega) (fun hd1 => ?_) (fun hd1 => ?_)
              · have hf1 : ((Y11 nu).natAbs : Int) < 1000000 ^ 50 := m2.mp (by
                  by_cases q : (n : Int) ≤ 50
                  · omega
                  · rw [if_neg q] at hd1; exact absurd hd1 (by decide))
                refine mv_iload_n B dX2_power_68 rfl (lv_at hl 5 rfl) ?_
                refine mv_iload B dX2_power_69 (lv_at hl 0 rfl) ?_
                refine mv_andne2 E k hE (tgt := 90) B dX2_power_71 dX2_power_72 (by decide) (by omega) (by omega) hbk (fun hd2 => ?_) (fun hd2 => ?_)
                · have od : E / 2 ^ k = E / 2 ^ (k + 1) + E / 2 ^ (k + 1) + 1 := by omega
                  refine mv_aload B dX2_power_90 (lv_at hl 2 rfl) ?_
                  refine mv_aload B dX2_power_92 (lv_at hl 1 rfl) ?_
                  refine mv_aload_n B dX2_power_94 rfl (lv_at hl 3 rfl) ?_
                  refine mw_get (C := RX2) (T := TX2) (N := 7) B hI hD.1 uin_X2 rfl 0 (by decide) kw_68 rfl dX2_power_95 ?_
                  refine mv_iload_n B dX2_power_98 rfl (lv_at hl 4 rfl) ?_
                  obtain ⟨gs, hs1, hs2⟩ := hD.2.1
                  refine mw_aald B hI 1 hs1 rfl (a.toNat) (by omega) (by omega) (by decide) (hs2 _ (by omega)) dX2_power_99 ?_
                  obtain ⟨_, _, _, cc, -, -⟩ := id (hD.rp (i := gu) (by omega))
                  refine mw_callv hI hA (va_runV (As := [.ref ((w nu)), .ref ((w (a.toNat)))]) (rest := []) B.fix (t_X1_takeProduct l D kA H.size f (hD.rp (i := gu) (by omega)).w (hD.rp (i := nu) (by omega)) (hD.rp (i := a.toNat) (by omega)) (hD.ne (i := nu) (j := gu) (by omega) (by omega) (by omega)).1 (hD.ne (i := nu) (j := gu) (by omega) (by omega) (by omega)).2 (hD.ne (i := a.toNat) (j := gu) (by omega) (by omega) (by omega)).1 (hD.ne (i := a.toNat) (j := gu) (by omega) (by omega) (by omega)).2 hf1 (by rw [hsl _ (by omega)]; exact hB _ (by omega))) (cwV 2 B.2.2.2.2.1 (gV kw_114 kw_115 kw_116 kw_2 kw_117) rfl rfl rfl (by decide +kernel) ⟨Nat.le_of_ble_eq_true rfl, Nat.le_of_ble_eq_true rfl⟩) ⟨mw_blind st_S.blind, mw_recv B hI cc rfl, mw_pre B hI (hSt.call hI hA)⟩ rfl rfl hl.1 rfl (lv_room (Nat.le_of_ble_eq_true rfl)) dX2_power_100 ⟨Nat.le_of_ble_eq_true rfl, Nat.le_of_ble_eq_true rfl⟩) (fun f H locs hp hI2 => ?_)
                  clear hI
                  have hI := hI2
                  clear hI2
                  obtain ⟨hR, o1⟩ := hp
                  have ho : ∀ k, ¬ dks d sl pa w ra k → f k = f0 k := fun k h => (o1 k (dks_w h (show gu < 24 by omega)).1 (dks_w h (show gu < 24 by omega)).2).trans (ho k h)
                  obtain ⟨Y12, hY12, hD⟩ : ∃ Z, Z = upI Y11 (gu) (Y11 (nu) * Y11 (a.toNat)) ∧ DK kA f d sl pa w ra Z := ⟨_, rfl, hD.upd (t := gu) (by omega) hR o1⟩
                  have v12 : Y12 (gu) = Y11 (nu) * Y11 (a.toNat) := by rw [hY12, upI_self]
                  have r12 : ∀ i, i ≠ gu → Y12 i = Y11 i := fun i hi => by rw [hY12, upI_ne _ _ hi]
                  have hsl : ∀ i, i < 16 → Y12 i = Y i := fun i hi => (r12 i (by omega)).trans (hsl i hi)
                  have hvv : Y12 gu = Y a.toNat ^ (E / 2 ^ k) := by rw [v12, vn, hsl11 _ (by omega), od, Int.pow_succ]
                  refine mv_aload B dX2_power_103 (lv_at hl 2 rfl) ?_
                  obtain ⟨g, n, b_, c1, c2, c3_⟩ := id (hD.rp (i := gu) (by omega))
                  have m1 := c3_.1
                  have m2 := c3_.size 50
                  refine mw_calli hI hA (va_runV (As := []) (rest := []) B.fix (t_X1_isTooLong l D kA H.size f c1 (by omega)) (cwV 0 B.2.2.2.2.1 (gV kw_149 kw_150 kw_151 kw_2 kw_152) rfl rfl rfl (by decide +kernel) ⟨Nat.le_of_ble_eq_true rfl, Nat.le_of_ble_eq_true rfl⟩) ⟨mw_blind st_S.blind, mw_recv B hI c1 rfl, mw_pre B hI (hSt.call hI hA)⟩ rfl rfl hl.1 rfl (lv_room (Nat.le_of_ble_eq_true rfl)) dX2_power_105 ⟨Nat.le_of_ble_eq_true rfl, Nat.le_of_ble_eq_true rfl⟩) (fun r f H locs hp hI2 => ?_)
                  clear hI
                  have hI := hI2
                  clear hI2
                  obtain ⟨rfl, rfl⟩ := hp
                  refine mv_if_eq (tgt := 113) B dX2_power_108 (by decide) (by split <;> omega) (fun hd3 => ?_) (fun hd3 => ?_)
                  · have hf2 : ((Y12 gu).natAbs : Int) < 1000000 ^ 50 := m2.mp (by
                      by_cases q : (n : Int) ≤ 50
                      · omega
                      · rw [if_neg q] at hd3; exact absurd hd3 (by decide))
                    refine mv_iload B dX2_power_113 (lv_at hl 0 rfl) ?_
                    refine mv_iconst B dX2_power_115 ?_
                    refine mv_ishr1 B dX2_power_116 (by omega) ?_
                    refine mv_istore (lv' := [(6, .int (iI ((bi) / (2)))), (5, .ref ((w nu))), (4, .ref ((w gu))), (0, .ref d), (1, .int (iI (a))), (2, .int (iI (e_))), (3, .int (iI (t)))]) B dX2_power_117 hl (by decide) rfl (fun ls hl => ?_)
                    refine mv_goto (tgt := 44) B dX2_power_119 (by decide) ?_
                    exact ih k _ gu nu Y12 f H locs ls (by omega) (by rw [hbi]; exact bt_half k) (by omega) (by omega) hD hsl hvv hf2 ho hI (lv_sub hl [0, 1, 2, 3, 4, 5, 6] rfl)
                  · have hf2 : ¬ ((Y12 gu).natAbs : Int) < 1000000 ^ 50 := fun q => hd3 (by rw [if_pos (by have := m2.mpr q; omega)])
                    rw [hvv] at hf2
                    have big := pw_mono (A := Y a.toNat) hEk (Int.not_lt.mp hf2)
                    rw [kp_n (Int.not_lt.mpr big)] at e9
                    refine mv_iconst B dX2_power_111 ?_
                    exact mw_iret B hQ hrt hI ⟨by rw [e9], ⟨_, hD, fun i hi => (hsl i hi).trans (by rw [e9])⟩, ho⟩ dX2_power_112
                · have hvv : Y11 nu = Y a.toNat ^ (E / 2 ^ k) := by rw [vn]; congr 1; omega
                  refine mv_aload B dX2_power_75 (lv_at hl 2 rfl) ?_
                  refine mv_astore (lv' := [(7, .ref ((w gu))), (6, .int (iI (bi))), (5, .ref ((w nu))), (4, .ref ((w gu))), (0, .ref d), (1, .int (iI (a))), (2, .int (iI (e_))), (3, .int (iI (t)))]) B dX2_power_77 hl (by decide) rfl (fun ls hl => ?_)
                  refine mv_aload B dX2_power_79 (lv_at hl 2 rfl) ?_
                  refine mv_astore (lv' := [(4, .ref ((w nu))), (7, .ref ((w gu))), (6, .int (iI (bi))), (5, .ref ((w nu))), (0, .ref d), (1, .int (iI (a))), (2, .int (iI (e_))), (3, .int (iI (t)))]) B dX2_power_81 hl (by decide) rfl (fun ls hl => ?_)
                  refine mv_aload B dX2_power_83 (lv_at hl 1 rfl) ?_
                  refine mv_astore (lv' := [(5, .ref ((w gu))), (4, .ref ((w nu))), (7, .ref ((w gu))), (6, .int (iI (bi))), (0, .ref d), (1, .int (iI (a))), (2, .int (iI (e_))), (3, .int (iI (t)))]) B dX2_power_85 hl (by decide) rfl (fun ls hl => ?_)
                  refine mv_goto (tgt := 103) B dX2_power_87 (by decide) ?_
                  refine mv_aload B dX2_power_103 (lv_at hl 1 rfl) ?_
                  obtain ⟨g, n, b_, c1, c2, c3_⟩ := id (hD.rp (i := nu) (by omega))
                  have m1 := c3_.1
                  have m2 := c3_.size 50
                  refine mw_calli hI hA (va_runV (As := []) (rest := []) B.fix (t_X1_isTooLong l D kA H.size f c1 (by omega)) (cwV 0 B.2.2.2.2.1 (gV kw_149 kw_150 kw_151 kw_2 kw_152) rfl rfl rfl (by decide +kernel) ⟨Nat.le_of_ble_eq_true rfl, Nat.le_of_ble_eq_true rfl⟩) ⟨mw_blind st_S.blind, mw_recv B hI c1 rfl, mw_pre B hI (hSt.call hI hA)⟩ rfl rfl hl.1 rfl (lv_room (Nat.le_of_ble_eq_true rfl)) dX2_power_105 ⟨Nat.le_of_ble_eq_true rfl, Nat.le_of_ble_eq_true rfl⟩) (fun r f H locs hp hI2 => ?_)
                  clear hI
                  have hI := hI2
                  clear hI2
                  obtain ⟨rfl, rfl⟩ := hp
                  refine mv_if_eq (tgt := 113) B dX2_power_108 (by decide) (by split <;> omega) (fun hd3 => ?_) (fun hd3 => ?_)
                  · have hf2 : ((Y11 nu).natAbs : Int) < 1000000 ^ 50 := m2.mp (by
                      by_cases q : (n : Int) ≤ 50
                      · omega
                      · rw [if_neg q] at hd3; exact absurd hd3 (by decide))
                    refine mv_iload B dX2_power_113 (lv_at hl 3 rfl) ?_
                    refine mv_iconst B dX2_power_115 ?_
                    refine mv_ishr1 B dX2_power_116 (by omega) ?_
                    refine mv_istore (lv' := [(6, .int (iI ((bi) / (2)))), (5, .ref ((w gu))), (4, .ref ((w nu))), (7, .ref ((w gu))), (0, .ref d), (1, .int (iI (a))), (2, .int (iI (e_))), (3, .int (iI (t)))]) B dX2_power_117 hl (by decide) rfl (fun ls hl => ?_)
                    refine mv_goto (tgt := 44) B dX2_power_119 (by decide) ?_
                    exact ih k _ nu gu Y11 f H locs ls (by omega) (by rw [hbi]; exact bt_half k) (by omega) (by omega) hD hsl hvv hf2 ho hI (lv_sub hl [0, 1, 2, 4, 5, 6, 7] rfl)
                  · have hf2 : ¬ ((Y11 nu).natAbs : Int) < 1000000 ^ 50 := fun q => hd3 (by rw [if_pos (by have := m2.mpr q; omega)])
                    rw [hvv] at hf2
                    have big := pw_mono (A := Y a.toNat) hEk (Int.not_lt.mp hf2)
                    rw [kp_n (Int.not_lt.mpr big)] at e9
                    refine mv_iconst B dX2_power_111 ?_
                    exact mw_iret B hQ hrt hI ⟨by rw [e9], ⟨_, hD, fun i hi => (hsl i hi).trans (by rw [e9])⟩, ho⟩ dX2_power_112
              · have hf1 : ¬ ((Y11 nu).natAbs : Int) < 1000000 ^ 50 := fun q => hd1 (by rw [if_pos (by have := m2.mpr q; omega)])
                rw [vn] at hf1
                have big := pw_mono (A := Y a.toNat) (show E / 2 ^ (k + 1) + E / 2 ^ (k + 1) ≤ E by omega) (Int.not_lt.mp hf1)
                rw [kp_n (Int.not_lt.mpr big)] at e9
                refine mv_iconst B dX2_power_66 ?_
                exact mw_iret B hQ hrt hI ⟨by rw [e9], ⟨_, hD, fun i hi => (hsl i hi).trans (by rw [e9])⟩, ho⟩ dX2_power_67
        exact loop 11 10 _ 18 19 Y1 f H locs ls (by decide) (by decide) (by decide) (Or.inl ⟨rfl, rfl⟩) hD hsl (by rw [v1, show E / 2 ^ 10 = 0 by omega, Int.pow_zero]) (by rw [v1]; have : ((1 : Int).natAbs : Int) = 1 := rfl; omega) ho hI (lv_sub hl [0, 1, 2, 3, 4, 5, 6] rfl)
      · refine mv_iconst B dX2_power_19 ?_
        have e9 : sp_power Y a e_ t = (-1, Y) := by unfold sp_power; rw [if_neg (fun q => by omega)]
        exact mw_iret B hQ hrt hI ⟨by rw [e9], ⟨_, hD, fun i hi => (hsl i hi).trans (by rw [e9])⟩, ho⟩ dX2_power_20
end
