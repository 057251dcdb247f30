def RX0 : String := "BigDesk$Pair"
def TX0 : u_T := fun k => match k with
  | 0 => ("BigDesk$Pair", "unused", "LBigDesk$Whole;", true)
  | 1 => ("BigDesk$Pair", "more", "LBigDesk$Whole;", false)
  | 2 => ("BigDesk$Pair", "fewer", "LBigDesk$Whole;", false)
  | 3 => ("BigDesk$Pair", "a", "J", false)
  | 4 => ("BigDesk$Pair", "b", "J", false)
  | 5 => ("BigDesk$Pair", "c", "J", false)
  | _ => ("BigDesk$Pair", "d", "J", false)
def tyX0 : Nat → FieldType := fun k => match k with
  | 0 => .object "BigDesk$Whole"
  | 1 => .object "BigDesk$Whole"
  | 2 => .object "BigDesk$Whole"
  | 3 => .long
  | 4 => .long
  | 5 => .long
  | _ => .long
theorem nmX0 : ∀ a, a < 7 → ∀ b, b < 7 → a ≠ b → (TX0 a).2.1 ≠ (TX0 b).2.1 := by decide +kernel
theorem tyX0_ok : ∀ k, k < 7 → parseFieldDescriptor (TX0 k).2.2.1 = some (tyX0 k) := by decide +kernel
def RX1 : String := "BigDesk$Whole"
def TX1 : u_T := fun k => match k with
  | 0 => ("BigDesk$Whole", "parts", "[I", true)
  | 1 => ("BigDesk$Whole", "size", "I", false)
  | _ => ("BigDesk$Whole", "below", "Z", false)
def tyX1 : Nat → FieldType := fun k => match k with
  | 0 => .array .int
  | 1 => .int
  | _ => .boolean
theorem nmX1 : ∀ a, a < 3 → ∀ b, b < 3 → a ≠ b → (TX1 a).2.1 ≠ (TX1 b).2.1 := by decide +kernel
theorem tyX1_ok : ∀ k, k < 3 → parseFieldDescriptor (TX1 k).2.2.1 = some (tyX1 k) := by decide +kernel
def RX2 : String := "BigDesk"
def TX2 : u_T := fun k => match k with
  | 0 => ("BigDesk", "slots", "[LBigDesk$Whole;", true)
  | 1 => ("BigDesk", "upper", "LBigDesk$Whole;", true)
  | 2 => ("BigDesk", "lower", "LBigDesk$Whole;", true)
  | 3 => ("BigDesk", "first", "LBigDesk$Whole;", true)
  | 4 => ("BigDesk", "second", "LBigDesk$Whole;", true)
  | 5 => ("BigDesk", "quotient", "LBigDesk$Whole;", true)
  | _ => ("BigDesk", "pair", "LBigDesk$Pair;", true)
def tyX2 : Nat → FieldType := fun k => match k with
  | 0 => .array (.object "BigDesk$Whole")
  | 1 => .object "BigDesk$Whole"
  | 2 => .object "BigDesk$Whole"
  | 3 => .object "BigDesk$Whole"
  | 4 => .object "BigDesk$Whole"
  | 5 => .object "BigDesk$Whole"
  | _ => .object "BigDesk$Pair"
theorem nmX2 : ∀ a, a < 7 → ∀ b, b < 7 → a ≠ b → (TX2 a).2.1 ≠ (TX2 b).2.1 := by decide +kernel
theorem tyX2_ok : ∀ k, k < 7 → parseFieldDescriptor (TX2 k).2.2.1 = some (tyX2 k) := by decide +kernel
def RX3 : String := "BigDeskModel"
def TX3 : u_T := fun k => match k with
  | 0 => ("BigDeskModel", "limbs", "[I", true)
  | 1 => ("BigDeskModel", "signs", "[I", true)
  | 2 => ("BigDeskModel", "sums", "[J", true)
  | _ => ("BigDeskModel", "digits", "[I", true)
def tyX3 : Nat → FieldType := fun k => match k with
  | 0 => .array .int
  | 1 => .array .int
  | 2 => .array .long
  | _ => .array .int
theorem nmX3 : ∀ a, a < 4 → ∀ b, b < 4 → a ≠ b → (TX3 a).2.1 ≠ (TX3 b).2.1 := by decide +kernel
theorem tyX3_ok : ∀ k, k < 4 → parseFieldDescriptor (TX3 k).2.2.1 = some (tyX3 k) := by decide +kernel
abbrev vwCl : List vw_C := [(RX0, TX0, 7), (RX1, TX1, 3), (RX2, TX2, 7), (RX3, TX3, 4)]
/-- the words that a callee may be handed -/
def gw : List Cond := lw_tbl.filter goodWord
theorem gw_t {w : Cond} (h : w ∈ tables_1) (hg : goodWord w = true) : w ∈ gw := List.mem_filter.mpr ⟨List.mem_append_right _ h, hg⟩
theorem gw_s {w : Cond} (h : w ∈ k2_sels lw_privs) (hg : goodWord w = true) : w ∈ gw := List.mem_filter.mpr ⟨List.mem_append_left _ h, hg⟩
theorem gw_g {w : Cond} (h : w ∈ gw) : w ∈ gw ∧ ((w.onTables && w.keeps) = true ∨ ∃ ty, w = .arrayClass ty) := ⟨h, good_of_word (List.mem_filter.mp h).2⟩
theorem gV {own C : String} {idx maxL : Nat} {y : MethodName} {bytes : ByteArray} {ret : Option FieldType} (h1 : Cond.methodLink own idx y ∈ gw) (h2 : Cond.instanceMethod y ∈ gw) (h3 : Cond.selects C y y ∈ gw) (h4 : Cond.initialized C ∈ gw) (h5 : Cond.code y bytes maxL ret ∈ gw) : GoodIn gw (wsV own idx C y (Cond.code y bytes maxL ret :: gw)) := by
  intro w hw
  simp only [wsV, List.mem_append, List.mem_cons, List.not_mem_nil, or_false] at hw
  rcases hw with (rfl | rfl | rfl | rfl) | rfl | hw
  · exact gw_g h1
  · exact gw_g h2
  · exact gw_g h3
  · exact gw_g h4
  · exact gw_g h5
  · exact gw_g hw
theorem gS {own : String} {idx maxL : Nat} {y : MethodName} {bytes : ByteArray} {ret : Option FieldType} (h1 : Cond.methodLink own idx y ∈ gw) (h2 : Cond.static y ∈ gw) (h4 : Cond.initialized own ∈ gw) (h5 : Cond.code y bytes maxL ret ∈ gw) : GoodIn gw (wsS own idx y (Cond.code y bytes maxL ret :: gw)) := by
  intro w hw
  simp only [wsS, List.mem_append, List.mem_cons, List.not_mem_nil, or_false] at hw
  rcases hw with (rfl | rfl | rfl) | rfl | hw
  · exact gw_g h1
  · exact gw_g h2
  · exact gw_g h4
  · exact gw_g h5
  · exact gw_g hw
theorem gT {own : String} {idx maxL : Nat} {y : MethodName} {bytes : ByteArray} {ret : Option FieldType} (h1 : Cond.methodLink own idx y ∈ gw) (h2 : Cond.static y ∈ gw) (h4 : Cond.initialized y.cls ∈ gw) (h5 : Cond.code y bytes maxL ret ∈ gw) : GoodIn gw (va_wsS own idx y (Cond.code y bytes maxL ret :: gw)) := by
  intro w hw
  simp only [va_wsS, List.mem_append, List.mem_cons, List.not_mem_nil, or_false] at hw
  rcases hw with (rfl | rfl | rfl) | rfl | hw
  · exact gw_g h1
  · exact gw_g h2
  · exact gw_g h4
  · exact gw_g h5
  · exact gw_g hw
theorem gC {y : MethodName} {bytes : ByteArray} {maxL : Nat} {ret : Option FieldType} (h5 : Cond.code y bytes maxL ret ∈ gw) : GoodIn gw (Cond.code y bytes maxL ret :: gw) := by
  intro w hw
  rcases List.mem_cons.mp hw with rfl | hw
  · exact gw_g h5
  · exact gw_g hw
abbrev cX2_init : ByteArray := prog_1_method_1_code
abbrev yX2_init : MethodName := ⟨"BigDesk", "<init>", "()V"⟩
abbrev cXO_init : ByteArray := object_method_1_code
abbrev yXO_init : MethodName := ⟨"java/lang/Object", "<init>", "()V"⟩
abbrev cX1_init : ByteArray := prog_3_method_1_code
abbrev yX1_init : MethodName := ⟨"BigDesk$Whole", "<init>", "()V"⟩
abbrev cX0_init : ByteArray := prog_2_method_1_code
abbrev yX0_init : MethodName := ⟨"BigDesk$Pair", "<init>", "()V"⟩
abbrev cX2_set : ByteArray := prog_1_method_2_code
abbrev yX2_set : MethodName := ⟨"BigDesk", "set", "(IJ)I"⟩
abbrev cX2_isSlot : ByteArray := prog_1_method_22_code
abbrev yX2_isSlot : MethodName := ⟨"BigDesk", "isSlot", "(I)Z"⟩
abbrev cX1_load : ByteArray := prog_3_method_8_code
abbrev yX1_load : MethodName := ⟨"BigDesk$Whole", "load", "(J)V"⟩
abbrev cXM_abs : ByteArray := prog_6_method_61_code
abbrev yXM_abs : MethodName := ⟨"java/lang/Math", "abs", "(J)J"⟩
abbrev cX1_trimTo : ByteArray := prog_3_method_5_code
abbrev yX1_trimTo : MethodName := ⟨"BigDesk$Whole", "trimTo", "(I)V"⟩
abbrev cX2_digit : ByteArray := prog_1_method_3_code
abbrev yX2_digit : MethodName := ⟨"BigDesk", "digit", "(II)I"⟩
abbrev cX1_takeProduct : ByteArray := prog_3_method_13_code
abbrev yX1_takeProduct : MethodName := ⟨"BigDesk$Whole", "takeProduct", "(LBigDesk$Whole;LBigDesk$Whole;)V"⟩
abbrev cXM_min : ByteArray := prog_6_method_69_code
abbrev yXM_min : MethodName := ⟨"java/lang/Math", "min", "(II)I"⟩
abbrev cXM_max : ByteArray := prog_6_method_65_code
abbrev yXM_max : MethodName := ⟨"java/lang/Math", "max", "(II)I"⟩
abbrev cX1_takeSum : ByteArray := prog_3_method_10_code
abbrev yX1_takeSum : MethodName := ⟨"BigDesk$Whole", "takeSum", "(LBigDesk$Whole;LBigDesk$Whole;Z)V"⟩
abbrev cX1_compareParts : ByteArray := prog_3_method_15_code
abbrev yX1_compareParts : MethodName := ⟨"BigDesk$Whole", "compareParts", "(LBigDesk$Whole;)I"⟩
abbrev cX1_addParts : ByteArray := prog_3_method_11_code
abbrev yX1_addParts : MethodName := ⟨"BigDesk$Whole", "addParts", "(LBigDesk$Whole;LBigDesk$Whole;)V"⟩
abbrev cX1_partOrZero : ByteArray := prog_3_method_7_code
abbrev yX1_partOrZero : MethodName := ⟨"BigDesk$Whole", "partOrZero", "(I)I"⟩
abbrev cX1_subtractParts : ByteArray := prog_3_method_12_code
abbrev yX1_subtractParts : MethodName := ⟨"BigDesk$Whole", "subtractParts", "(LBigDesk$Whole;LBigDesk$Whole;)V"⟩
abbrev cX2_keep : ByteArray := prog_1_method_25_code
abbrev yX2_keep : MethodName := ⟨"BigDesk", "keep", "(LBigDesk$Whole;I)I"⟩
abbrev cX1_isTooLong : ByteArray := prog_3_method_3_code
abbrev yX1_isTooLong : MethodName := ⟨"BigDesk$Whole", "isTooLong", "()Z"⟩
abbrev cX1_take : ByteArray := prog_3_method_9_code
abbrev yX1_take : MethodName := ⟨"BigDesk$Whole", "take", "(LBigDesk$Whole;)V"⟩
abbrev cX2_copy : ByteArray := prog_1_method_4_code
abbrev yX2_copy : MethodName := ⟨"BigDesk", "copy", "(II)I"⟩
abbrev cX2_areSlots : ByteArray := prog_1_method_23_code
abbrev yX2_areSlots : MethodName := ⟨"BigDesk", "areSlots", "(II)Z"⟩
abbrev cX2_sum : ByteArray := prog_1_method_5_code
abbrev yX2_sum : MethodName := ⟨"BigDesk", "sum", "(III)I"⟩
abbrev cX2_addOrTakeAway : ByteArray := prog_1_method_26_code
abbrev yX2_addOrTakeAway : MethodName := ⟨"BigDesk", "addOrTakeAway", "(IIIZ)I"⟩
abbrev cX2_less : ByteArray := prog_1_method_6_code
abbrev yX2_less : MethodName := ⟨"BigDesk", "less", "(III)I"⟩
abbrev cX2_product : ByteArray := prog_1_method_7_code
abbrev yX2_product : MethodName := ⟨"BigDesk", "product", "(III)I"⟩
abbrev cX2_over : ByteArray := prog_1_method_8_code
abbrev yX2_over : MethodName := ⟨"BigDesk", "over", "(III)I"⟩
abbrev cX2_divideSlots : ByteArray := prog_1_method_27_code
abbrev yX2_divideSlots : MethodName := ⟨"BigDesk", "divideSlots", "(II)Z"⟩
abbrev cX1_isZero : ByteArray := prog_3_method_2_code
abbrev yX1_isZero : MethodName := ⟨"BigDesk$Whole", "isZero", "()Z"⟩
abbrev cX1_divideBy : ByteArray := prog_3_method_17_code
abbrev yX1_divideBy : MethodName := ⟨"BigDesk$Whole", "divideBy", "(LBigDesk$Whole;LBigDesk$Whole;)V"⟩
abbrev cX1_leadOfTwo : ByteArray := prog_3_method_18_code
abbrev yX1_leadOfTwo : MethodName := ⟨"BigDesk$Whole", "leadOfTwo", "()J"⟩
abbrev cX1_takeAway : ByteArray := prog_3_method_19_code
abbrev yX1_takeAway : MethodName := ⟨"BigDesk$Whole", "takeAway", "(LBigDesk$Whole;JI)I"⟩
abbrev cX1_subtractTimes : ByteArray := prog_3_method_20_code
abbrev yX1_subtractTimes : MethodName := ⟨"BigDesk$Whole", "subtractTimes", "(LBigDesk$Whole;II)V"⟩
abbrev cX1_addBack : ByteArray := prog_3_method_21_code
abbrev yX1_addBack : MethodName := ⟨"BigDesk$Whole", "addBack", "(LBigDesk$Whole;I)V"⟩
abbrev cX2_left : ByteArray := prog_1_method_9_code
abbrev yX2_left : MethodName := ⟨"BigDesk", "left", "(III)I"⟩
abbrev cX2_divisor : ByteArray := prog_1_method_10_code
abbrev yX2_divisor : MethodName := ⟨"BigDesk", "divisor", "(III)I"⟩
abbrev cX0_commonDivisor : ByteArray := prog_2_method_2_code
abbrev yX0_commonDivisor : MethodName := ⟨"BigDesk$Pair", "commonDivisor", "(LBigDesk$Whole;LBigDesk$Whole;)LBigDesk$Whole;"⟩
abbrev cX0_change : ByteArray := prog_2_method_3_code
abbrev yX0_change : MethodName := ⟨"BigDesk$Pair", "change", "()V"⟩
abbrev cX0_foretellSteps : ByteArray := prog_2_method_4_code
abbrev yX0_foretellSteps : MethodName := ⟨"BigDesk$Pair", "foretellSteps", "()V"⟩
abbrev cX0_leadOfThree : ByteArray := prog_2_method_5_code
abbrev yX0_leadOfThree : MethodName := ⟨"BigDesk$Pair", "leadOfThree", "(LBigDesk$Whole;)J"⟩
abbrev cX0_takeForetoldSteps : ByteArray := prog_2_method_6_code
abbrev yX0_takeForetoldSteps : MethodName := ⟨"BigDesk$Pair", "takeForetoldSteps", "()V"⟩
abbrev cX1_clearParts : ByteArray := prog_3_method_6_code
abbrev yX1_clearParts : MethodName := ⟨"BigDesk$Whole", "clearParts", "(II)V"⟩
abbrev cX2_root : ByteArray := prog_1_method_11_code
abbrev yX2_root : MethodName := ⟨"BigDesk", "root", "(II)I"⟩
abbrev cX2_squareRoot : ByteArray := prog_1_method_28_code
abbrev yX2_squareRoot : MethodName := ⟨"BigDesk", "squareRoot", "(LBigDesk$Whole;)LBigDesk$Whole;"⟩
abbrev cX1_loadAboveRoot : ByteArray := prog_3_method_22_code
abbrev yX1_loadAboveRoot : MethodName := ⟨"BigDesk$Whole", "loadAboveRoot", "(LBigDesk$Whole;)V"⟩
abbrev cX1_rootOfLong : ByteArray := prog_3_method_23_code
abbrev yX1_rootOfLong : MethodName := ⟨"BigDesk$Whole", "rootOfLong", "(J)J"⟩
abbrev cX1_halve : ByteArray := prog_3_method_14_code
abbrev yX1_halve : MethodName := ⟨"BigDesk$Whole", "halve", "()V"⟩
abbrev cX2_power : ByteArray := prog_1_method_12_code
abbrev yX2_power : MethodName := ⟨"BigDesk", "power", "(III)I"⟩
abbrev cX2_lowest : ByteArray := prog_1_method_13_code
abbrev yX2_lowest : MethodName := ⟨"BigDesk", "lowest", "(II)I"⟩
abbrev cX2_keepLowest : ByteArray := prog_1_method_29_code
abbrev yX2_keepLowest : MethodName := ⟨"BigDesk", "keepLowest", "(II)I"⟩
abbrev cX1_turnSign : ByteArray := prog_3_method_4_code
abbrev yX1_turnSign : MethodName := ⟨"BigDesk$Whole", "turnSign", "()V"⟩
abbrev cX2_fraction : ByteArray := prog_1_method_14_code
abbrev yX2_fraction : MethodName := ⟨"BigDesk", "fraction", "(IIII)I"⟩
abbrev cX2_areFractions : ByteArray := prog_1_method_24_code
abbrev yX2_areFractions : MethodName := ⟨"BigDesk", "areFractions", "(IIII)Z"⟩
abbrev cX2_order : ByteArray := prog_1_method_15_code
abbrev yX2_order : MethodName := ⟨"BigDesk", "order", "(II)I"⟩
abbrev cX1_compareWhole : ByteArray := prog_3_method_16_code
abbrev yX1_compareWhole : MethodName := ⟨"BigDesk$Whole", "compareWhole", "(LBigDesk$Whole;)I"⟩
abbrev cX2_ratio : ByteArray := prog_1_method_16_code
abbrev yX2_ratio : MethodName := ⟨"BigDesk", "ratio", "(IIII)I"⟩
abbrev cX2_sign : ByteArray := prog_1_method_17_code
abbrev yX2_sign : MethodName := ⟨"BigDesk", "sign", "(I)I"⟩
abbrev cX2_digits : ByteArray := prog_1_method_18_code
abbrev yX2_digits : MethodName := ⟨"BigDesk", "digits", "(I)I"⟩
abbrev cX1_countDigits : ByteArray := prog_3_method_24_code
abbrev yX1_countDigits : MethodName := ⟨"BigDesk$Whole", "countDigits", "()I"⟩
abbrev cX2_digitAt : ByteArray := prog_1_method_19_code
abbrev yX2_digitAt : MethodName := ⟨"BigDesk", "digitAt", "(II)I"⟩
abbrev cX1_digitOfPlace : ByteArray := prog_3_method_25_code
abbrev yX1_digitOfPlace : MethodName := ⟨"BigDesk$Whole", "digitOfPlace", "(I)I"⟩
abbrev cX2_modulo : ByteArray := prog_1_method_20_code
abbrev yX2_modulo : MethodName := ⟨"BigDesk", "modulo", "(IJ)J"⟩
abbrev cX1_remainder : ByteArray := prog_3_method_26_code
abbrev yX1_remainder : MethodName := ⟨"BigDesk$Whole", "remainder", "(J)J"⟩
abbrev cX2_low : ByteArray := prog_1_method_21_code
abbrev yX2_low : MethodName := ⟨"BigDesk", "low", "(I)J"⟩
abbrev cX1_lowBits : ByteArray := prog_3_method_27_code
abbrev yX1_lowBits : MethodName := ⟨"BigDesk$Whole", "lowBits", "()J"⟩
abbrev cX3_init : ByteArray := prog_5_method_1_code
abbrev yX3_init : MethodName := ⟨"BigDeskModel", "<init>", "()V"⟩
abbrev cX3_put : ByteArray := prog_5_method_4_code
abbrev yX3_put : MethodName := ⟨"BigDeskModel", "put", "(IJ)V"⟩
abbrev cX3_settle : ByteArray := prog_5_method_3_code
abbrev yX3_settle : MethodName := ⟨"BigDeskModel", "settle", "(II)V"⟩
abbrev cX3_at : ByteArray := prog_5_method_2_code
abbrev yX3_at : MethodName := ⟨"BigDeskModel", "at", "(II)I"⟩
abbrev cX3_multiply : ByteArray := prog_5_method_11_code
abbrev yX3_multiply : MethodName := ⟨"BigDeskModel", "multiply", "(III)V"⟩
abbrev cX3_set : ByteArray := prog_5_method_22_code
abbrev yX3_set : MethodName := ⟨"BigDeskModel", "set", "(IJ)I"⟩
abbrev cX3_isSlot : ByteArray := prog_5_method_18_code
abbrev yX3_isSlot : MethodName := ⟨"BigDeskModel", "isSlot", "(I)Z"⟩
abbrev cX3_digit : ByteArray := prog_5_method_23_code
abbrev yX3_digit : MethodName := ⟨"BigDeskModel", "digit", "(II)I"⟩
abbrev cX3_combine : ByteArray := prog_5_method_10_code
abbrev yX3_combine : MethodName := ⟨"BigDeskModel", "combine", "(IIII)V"⟩
abbrev cX3_addSizes : ByteArray := prog_5_method_8_code
abbrev yX3_addSizes : MethodName := ⟨"BigDeskModel", "addSizes", "(III)V"⟩
abbrev cX3_sizes : ByteArray := prog_5_method_6_code
abbrev yX3_sizes : MethodName := ⟨"BigDeskModel", "sizes", "(II)I"⟩
abbrev cX3_takeSizes : ByteArray := prog_5_method_9_code
abbrev yX3_takeSizes : MethodName := ⟨"BigDeskModel", "takeSizes", "(III)V"⟩
abbrev cX3_keep : ByteArray := prog_5_method_21_code
abbrev yX3_keep : MethodName := ⟨"BigDeskModel", "keep", "(II)I"⟩
abbrev cX3_isLong : ByteArray := prog_5_method_20_code
abbrev yX3_isLong : MethodName := ⟨"BigDeskModel", "isLong", "(I)Z"⟩
abbrev cX3_move : ByteArray := prog_5_method_5_code
abbrev yX3_move : MethodName := ⟨"BigDeskModel", "move", "(II)V"⟩
abbrev cX3_copy : ByteArray := prog_5_method_24_code
abbrev yX3_copy : MethodName := ⟨"BigDeskModel", "copy", "(II)I"⟩
abbrev cX3_sum : ByteArray := prog_5_method_25_code
abbrev yX3_sum : MethodName := ⟨"BigDeskModel", "sum", "(III)I"⟩
abbrev cX3_are : ByteArray := prog_5_method_19_code
abbrev yX3_are : MethodName := ⟨"BigDeskModel", "are", "(III)Z"⟩
abbrev cX3_less : ByteArray := prog_5_method_26_code
abbrev yX3_less : MethodName := ⟨"BigDeskModel", "less", "(III)I"⟩
abbrev cX3_product : ByteArray := prog_5_method_27_code
abbrev yX3_product : MethodName := ⟨"BigDeskModel", "product", "(III)I"⟩
abbrev cX3_over : ByteArray := prog_5_method_28_code
abbrev yX3_over : MethodName := ⟨"BigDeskModel", "over", "(III)I"⟩
abbrev cX3_divide : ByteArray := prog_5_method_15_code
abbrev yX3_divide : MethodName := ⟨"BigDeskModel", "divide", "(II)V"⟩
abbrev cX3_bit : ByteArray := prog_5_method_12_code
abbrev yX3_bit : MethodName := ⟨"BigDeskModel", "bit", "(II)I"⟩
abbrev cX3_twice : ByteArray := prog_5_method_14_code
abbrev yX3_twice : MethodName := ⟨"BigDeskModel", "twice", "(II)V"⟩
abbrev cX3_left : ByteArray := prog_5_method_29_code
abbrev yX3_left : MethodName := ⟨"BigDeskModel", "left", "(III)I"⟩
abbrev cX3_divisor : ByteArray := prog_5_method_30_code
abbrev yX3_divisor : MethodName := ⟨"BigDeskModel", "divisor", "(III)I"⟩
abbrev cX3_common : ByteArray := prog_5_method_17_code
abbrev yX3_common : MethodName := ⟨"BigDeskModel", "common", "(II)V"⟩
abbrev cX3_size : ByteArray := prog_5_method_16_code
abbrev yX3_size : MethodName := ⟨"BigDeskModel", "size", "(II)V"⟩
abbrev cX3_half : ByteArray := prog_5_method_13_code
abbrev yX3_half : MethodName := ⟨"BigDeskModel", "half", "(I)V"⟩
abbrev cX3_root : ByteArray := prog_5_method_31_code
abbrev yX3_root : MethodName := ⟨"BigDeskModel", "root", "(II)I"⟩
abbrev cX3_power : ByteArray := prog_5_method_32_code
abbrev yX3_power : MethodName := ⟨"BigDeskModel", "power", "(III)I"⟩
abbrev cX3_lowest : ByteArray := prog_5_method_34_code
abbrev yX3_lowest : MethodName := ⟨"BigDeskModel", "lowest", "(II)I"⟩
abbrev cX3_keepFraction : ByteArray := prog_5_method_33_code
abbrev yX3_keepFraction : MethodName := ⟨"BigDeskModel", "keepFraction", "(II)I"⟩
abbrev cX3_fraction : ByteArray := prog_5_method_35_code
abbrev yX3_fraction : MethodName := ⟨"BigDeskModel", "fraction", "(IIII)I"⟩
abbrev cX3_order : ByteArray := prog_5_method_36_code
abbrev yX3_order : MethodName := ⟨"BigDeskModel", "order", "(II)I"⟩
abbrev cX3_compare : ByteArray := prog_5_method_7_code
abbrev yX3_compare : MethodName := ⟨"BigDeskModel", "compare", "(II)I"⟩
abbrev cX3_ratio : ByteArray := prog_5_method_37_code
abbrev yX3_ratio : MethodName := ⟨"BigDeskModel", "ratio", "(IIII)I"⟩
abbrev cX3_sign : ByteArray := prog_5_method_38_code
abbrev yX3_sign : MethodName := ⟨"BigDeskModel", "sign", "(I)I"⟩
abbrev cX3_digits : ByteArray := prog_5_method_40_code
abbrev yX3_digits : MethodName := ⟨"BigDeskModel", "digits", "(I)I"⟩
abbrev cX3_spell : ByteArray := prog_5_method_39_code
abbrev yX3_spell : MethodName := ⟨"BigDeskModel", "spell", "(I)I"⟩
abbrev cX3_digitAt : ByteArray := prog_5_method_41_code
abbrev yX3_digitAt : MethodName := ⟨"BigDeskModel", "digitAt", "(II)I"⟩
abbrev cX3_modulo : ByteArray := prog_5_method_42_code
abbrev yX3_modulo : MethodName := ⟨"BigDeskModel", "modulo", "(IJ)J"⟩
abbrev cX3_low : ByteArray := prog_5_method_43_code
abbrev yX3_low : MethodName := ⟨"BigDeskModel", "low", "(I)J"⟩
