theorem kw_0 : Cond.initialized "BigDeskLaw" ∈ gw := gw_t (List.mem_of_getElem? (i := 0) (by decide +kernel)) (by decide +kernel)
theorem kw_1 : Cond.initialized "BigDesk" ∈ gw := gw_t (List.mem_of_getElem? (i := 1) (by decide +kernel)) (by decide +kernel)
theorem kw_2 : Cond.initialized "BigDesk$Whole" ∈ gw := gw_t (List.mem_of_getElem? (i := 2) (by decide +kernel)) (by decide +kernel)
theorem kw_3 : Cond.initialized "BigDesk$Pair" ∈ gw := gw_t (List.mem_of_getElem? (i := 3) (by decide +kernel)) (by decide +kernel)
theorem kw_4 : Cond.initialized "BigDeskModel" ∈ gw := gw_t (List.mem_of_getElem? (i := 4) (by decide +kernel)) (by decide +kernel)
theorem kw_5 : Cond.initialized "java/lang/Math" ∈ gw := gw_t (List.mem_of_getElem? (i := 5) (by decide +kernel)) (by decide +kernel)
theorem kw_6 : Cond.initialized "java/lang/System" ∈ gw := gw_t (List.mem_of_getElem? (i := 6) (by decide +kernel)) (by decide +kernel)
theorem kw_7 : Cond.classLink "BigDeskLaw" 7 "BigDesk" ∈ gw := gw_t (List.mem_of_getElem? (i := 7) (by decide +kernel)) (by decide +kernel)
theorem kw_8 : Cond.instantiable "BigDesk" 7 ∈ gw := gw_t (List.mem_of_getElem? (i := 8) (by decide +kernel)) (by decide +kernel)
theorem kw_9 : Cond.methodLink "BigDeskLaw" 9 ⟨"BigDesk", "<init>", "()V"⟩ ∈ gw := gw_t (List.mem_of_getElem? (i := 9) (by decide +kernel)) (by decide +kernel)
theorem kw_10 : Cond.instanceMethod ⟨"BigDesk", "<init>", "()V"⟩ ∈ gw := gw_t (List.mem_of_getElem? (i := 10) (by decide +kernel)) (by decide +kernel)
set_option maxRecDepth 20000 in
theorem kw_11 : Cond.code ⟨"BigDesk", "<init>", "()V"⟩ prog_1_method_1_code 2 none ∈ gw := gw_t (List.mem_of_getElem? (i := 11) rfl) rfl
theorem kw_12 : Cond.methodLink "BigDesk" 1 ⟨"java/lang/Object", "<init>", "()V"⟩ ∈ gw := gw_t (List.mem_of_getElem? (i := 12) (by decide +kernel)) (by decide +kernel)
theorem kw_13 : Cond.instanceMethod ⟨"java/lang/Object", "<init>", "()V"⟩ ∈ gw := gw_t (List.mem_of_getElem? (i := 13) (by decide +kernel)) (by decide +kernel)
set_option maxRecDepth 20000 in
theorem kw_14 : Cond.code ⟨"java/lang/Object", "<init>", "()V"⟩ object_method_1_code 1 none ∈ gw := gw_t (List.mem_of_getElem? (i := 14) rfl) rfl
theorem kw_15 : Cond.classLink "BigDesk" 9 "BigDesk$Whole" ∈ gw := gw_t (List.mem_of_getElem? (i := 15) (by decide +kernel)) (by decide +kernel)
theorem kw_17 : Cond.instantiable "BigDesk$Whole" 3 ∈ gw := gw_t (List.mem_of_getElem? (i := 17) (by decide +kernel)) (by decide +kernel)
theorem kw_18 : Cond.methodLink "BigDesk" 15 ⟨"BigDesk$Whole", "<init>", "()V"⟩ ∈ gw := gw_t (List.mem_of_getElem? (i := 18) (by decide +kernel)) (by decide +kernel)
theorem kw_19 : Cond.instanceMethod ⟨"BigDesk$Whole", "<init>", "()V"⟩ ∈ gw := gw_t (List.mem_of_getElem? (i := 19) (by decide +kernel)) (by decide +kernel)
set_option maxRecDepth 20000 in
theorem kw_20 : Cond.code ⟨"BigDesk$Whole", "<init>", "()V"⟩ prog_3_method_1_code 1 none ∈ gw := gw_t (List.mem_of_getElem? (i := 20) rfl) rfl
theorem kw_21 : Cond.methodLink "BigDesk$Whole" 3 ⟨"java/lang/Object", "<init>", "()V"⟩ ∈ gw := gw_t (List.mem_of_getElem? (i := 21) (by decide +kernel)) (by decide +kernel)
theorem kw_22 : Cond.fieldLink "BigDesk$Whole" 9 "BigDesk$Whole" "parts" "[I" ∈ gw := gw_t (List.mem_of_getElem? (i := 22) (by decide +kernel)) (by decide +kernel)
theorem kw_23 : Cond.fieldLink "BigDesk$Pair" 80 "BigDesk$Whole" "parts" "[I" ∈ gw := gw_t (List.mem_of_getElem? (i := 23) (by decide +kernel)) (by decide +kernel)
theorem kw_24 : Cond.fieldLink "BigDesk$Whole" 15 "BigDesk$Whole" "size" "I" ∈ gw := gw_t (List.mem_of_getElem? (i := 24) (by decide +kernel)) (by decide +kernel)
theorem kw_25 : Cond.fieldLink "BigDesk$Pair" 70 "BigDesk$Whole" "size" "I" ∈ gw := gw_t (List.mem_of_getElem? (i := 25) (by decide +kernel)) (by decide +kernel)
theorem kw_26 : Cond.fieldLink "BigDesk$Whole" 19 "BigDesk$Whole" "below" "Z" ∈ gw := gw_t (List.mem_of_getElem? (i := 26) (by decide +kernel)) (by decide +kernel)
theorem kw_27 : Cond.fieldLink "BigDesk$Pair" 28 "BigDesk$Whole" "below" "Z" ∈ gw := gw_t (List.mem_of_getElem? (i := 27) (by decide +kernel)) (by decide +kernel)
theorem kw_28 : Cond.fieldLink "BigDesk" 76 "BigDesk$Whole" "below" "Z" ∈ gw := gw_t (List.mem_of_getElem? (i := 28) (by decide +kernel)) (by decide +kernel)
theorem kw_29 : Cond.laysFinal "BigDesk$Whole" "BigDesk$Whole" "parts" "[I" ∈ gw := gw_t (List.mem_of_getElem? (i := 29) (by decide +kernel)) (by decide +kernel)
theorem kw_30 : Cond.soleField "BigDesk$Whole" "parts" ∈ gw := gw_t (List.mem_of_getElem? (i := 30) (by decide +kernel)) (by decide +kernel)
theorem kw_31 : Cond.lays "BigDesk$Whole" "BigDesk$Whole" "size" "I" ∈ gw := gw_t (List.mem_of_getElem? (i := 31) (by decide +kernel)) (by decide +kernel)
theorem kw_32 : Cond.soleField "BigDesk$Whole" "size" ∈ gw := gw_t (List.mem_of_getElem? (i := 32) (by decide +kernel)) (by decide +kernel)
theorem kw_33 : Cond.lays "BigDesk$Whole" "BigDesk$Whole" "below" "Z" ∈ gw := gw_t (List.mem_of_getElem? (i := 33) (by decide +kernel)) (by decide +kernel)
theorem kw_34 : Cond.soleField "BigDesk$Whole" "below" ∈ gw := gw_t (List.mem_of_getElem? (i := 34) (by decide +kernel)) (by decide +kernel)
theorem kw_35 : Cond.superclass "BigDesk$Whole" "java/lang/Object" ∈ gw := gw_t (List.mem_of_getElem? (i := 35) (by decide +kernel)) (by decide +kernel)
theorem kw_36 : Cond.arrayClass .int ∈ gw := gw_t (List.mem_of_getElem? (i := 36) (by decide +kernel)) (by decide +kernel)
theorem kw_37 : Cond.classLink "BigDesk" 32 "BigDesk$Pair" ∈ gw := gw_t (List.mem_of_getElem? (i := 37) (by decide +kernel)) (by decide +kernel)
theorem kw_38 : Cond.instantiable "BigDesk$Pair" 7 ∈ gw := gw_t (List.mem_of_getElem? (i := 38) (by decide +kernel)) (by decide +kernel)
theorem kw_39 : Cond.methodLink "BigDesk" 34 ⟨"BigDesk$Pair", "<init>", "()V"⟩ ∈ gw := gw_t (List.mem_of_getElem? (i := 39) (by decide +kernel)) (by decide +kernel)
theorem kw_40 : Cond.instanceMethod ⟨"BigDesk$Pair", "<init>", "()V"⟩ ∈ gw := gw_t (List.mem_of_getElem? (i := 40) (by decide +kernel)) (by decide +kernel)
set_option maxRecDepth 20000 in
theorem kw_41 : Cond.code ⟨"BigDesk$Pair", "<init>", "()V"⟩ prog_2_method_1_code 1 none ∈ gw := gw_t (List.mem_of_getElem? (i := 41) rfl) rfl
theorem kw_42 : Cond.methodLink "BigDesk$Pair" 3 ⟨"java/lang/Object", "<init>", "()V"⟩ ∈ gw := gw_t (List.mem_of_getElem? (i := 42) (by decide +kernel)) (by decide +kernel)
theorem kw_43 : Cond.classLink "BigDesk$Pair" 9 "BigDesk$Whole" ∈ gw := gw_t (List.mem_of_getElem? (i := 43) (by decide +kernel)) (by decide +kernel)
theorem kw_44 : Cond.methodLink "BigDesk$Pair" 11 ⟨"BigDesk$Whole", "<init>", "()V"⟩ ∈ gw := gw_t (List.mem_of_getElem? (i := 44) (by decide +kernel)) (by decide +kernel)
theorem kw_45 : Cond.fieldLink "BigDesk$Pair" 12 "BigDesk$Pair" "unused" "LBigDesk$Whole;" ∈ gw := gw_t (List.mem_of_getElem? (i := 45) (by decide +kernel)) (by decide +kernel)
theorem kw_46 : Cond.fieldLink "BigDesk$Pair" 18 "BigDesk$Pair" "more" "LBigDesk$Whole;" ∈ gw := gw_t (List.mem_of_getElem? (i := 46) (by decide +kernel)) (by decide +kernel)
theorem kw_47 : Cond.fieldLink "BigDesk$Pair" 21 "BigDesk$Pair" "fewer" "LBigDesk$Whole;" ∈ gw := gw_t (List.mem_of_getElem? (i := 47) (by decide +kernel)) (by decide +kernel)
theorem kw_48 : Cond.fieldLink "BigDesk$Pair" 61 "BigDesk$Pair" "a" "J" ∈ gw := gw_t (List.mem_of_getElem? (i := 48) (by decide +kernel)) (by decide +kernel)
theorem kw_49 : Cond.fieldLink "BigDesk$Pair" 46 "BigDesk$Pair" "b" "J" ∈ gw := gw_t (List.mem_of_getElem? (i := 49) (by decide +kernel)) (by decide +kernel)
theorem kw_50 : Cond.fieldLink "BigDesk$Pair" 64 "BigDesk$Pair" "c" "J" ∈ gw := gw_t (List.mem_of_getElem? (i := 50) (by decide +kernel)) (by decide +kernel)
theorem kw_51 : Cond.fieldLink "BigDesk$Pair" 67 "BigDesk$Pair" "d" "J" ∈ gw := gw_t (List.mem_of_getElem? (i := 51) (by decide +kernel)) (by decide +kernel)
theorem kw_52 : Cond.laysFinal "BigDesk$Pair" "BigDesk$Pair" "unused" "LBigDesk$Whole;" ∈ gw := gw_t (List.mem_of_getElem? (i := 52) (by decide +kernel)) (by decide +kernel)
theorem kw_53 : Cond.soleField "BigDesk$Pair" "unused" ∈ gw := gw_t (List.mem_of_getElem? (i := 53) (by decide +kernel)) (by decide +kernel)
theorem kw_54 : Cond.lays "BigDesk$Pair" "BigDesk$Pair" "more" "LBigDesk$Whole;" ∈ gw := gw_t (List.mem_of_getElem? (i := 54) (by decide +kernel)) (by decide +kernel)
theorem kw_55 : Cond.soleField "BigDesk$Pair" "more" ∈ gw := gw_t (List.mem_of_getElem? (i := 55) (by decide +kernel)) (by decide +kernel)
theorem kw_56 : Cond.lays "BigDesk$Pair" "BigDesk$Pair" "fewer" "LBigDesk$Whole;" ∈ gw := gw_t (List.mem_of_getElem? (i := 56) (by decide +kernel)) (by decide +kernel)
theorem kw_57 : Cond.soleField "BigDesk$Pair" "fewer" ∈ gw := gw_t (List.mem_of_getElem? (i := 57) (by decide +kernel)) (by decide +kernel)
theorem kw_58 : Cond.lays "BigDesk$Pair" "BigDesk$Pair" "a" "J" ∈ gw := gw_t (List.mem_of_getElem? (i := 58) (by decide +kernel)) (by decide +kernel)
theorem kw_59 : Cond.soleField "BigDesk$Pair" "a" ∈ gw := gw_t (List.mem_of_getElem? (i := 59) (by decide +kernel)) (by decide +kernel)
theorem kw_60 : Cond.lays "BigDesk$Pair" "BigDesk$Pair" "b" "J" ∈ gw := gw_t (List.mem_of_getElem? (i := 60) (by decide +kernel)) (by decide +kernel)
theorem kw_61 : Cond.soleField "BigDesk$Pair" "b" ∈ gw := gw_t (List.mem_of_getElem? (i := 61) (by decide +kernel)) (by decide +kernel)
theorem kw_62 : Cond.lays "BigDesk$Pair" "BigDesk$Pair" "c" "J" ∈ gw := gw_t (List.mem_of_getElem? (i := 62) (by decide +kernel)) (by decide +kernel)
theorem kw_63 : Cond.soleField "BigDesk$Pair" "c" ∈ gw := gw_t (List.mem_of_getElem? (i := 63) (by decide +kernel)) (by decide +kernel)
theorem kw_64 : Cond.lays "BigDesk$Pair" "BigDesk$Pair" "d" "J" ∈ gw := gw_t (List.mem_of_getElem? (i := 64) (by decide +kernel)) (by decide +kernel)
theorem kw_65 : Cond.soleField "BigDesk$Pair" "d" ∈ gw := gw_t (List.mem_of_getElem? (i := 65) (by decide +kernel)) (by decide +kernel)
theorem kw_66 : Cond.superclass "BigDesk$Pair" "java/lang/Object" ∈ gw := gw_t (List.mem_of_getElem? (i := 66) (by decide +kernel)) (by decide +kernel)
theorem kw_67 : Cond.fieldLink "BigDesk" 11 "BigDesk" "slots" "[LBigDesk$Whole;" ∈ gw := gw_t (List.mem_of_getElem? (i := 67) (by decide +kernel)) (by decide +kernel)
theorem kw_68 : Cond.fieldLink "BigDesk" 16 "BigDesk" "upper" "LBigDesk$Whole;" ∈ gw := gw_t (List.mem_of_getElem? (i := 68) (by decide +kernel)) (by decide +kernel)
theorem kw_69 : Cond.fieldLink "BigDesk" 20 "BigDesk" "lower" "LBigDesk$Whole;" ∈ gw := gw_t (List.mem_of_getElem? (i := 69) (by decide +kernel)) (by decide +kernel)
theorem kw_70 : Cond.fieldLink "BigDesk" 23 "BigDesk" "first" "LBigDesk$Whole;" ∈ gw := gw_t (List.mem_of_getElem? (i := 70) (by decide +kernel)) (by decide +kernel)
theorem kw_71 : Cond.fieldLink "BigDesk" 26 "BigDesk" "second" "LBigDesk$Whole;" ∈ gw := gw_t (List.mem_of_getElem? (i := 71) (by decide +kernel)) (by decide +kernel)
theorem kw_72 : Cond.fieldLink "BigDesk" 29 "BigDesk" "quotient" "LBigDesk$Whole;" ∈ gw := gw_t (List.mem_of_getElem? (i := 72) (by decide +kernel)) (by decide +kernel)
theorem kw_73 : Cond.fieldLink "BigDesk" 35 "BigDesk" "pair" "LBigDesk$Pair;" ∈ gw := gw_t (List.mem_of_getElem? (i := 73) (by decide +kernel)) (by decide +kernel)
theorem kw_74 : Cond.laysFinal "BigDesk" "BigDesk" "slots" "[LBigDesk$Whole;" ∈ gw := gw_t (List.mem_of_getElem? (i := 74) (by decide +kernel)) (by decide +kernel)
theorem kw_75 : Cond.soleField "BigDesk" "slots" ∈ gw := gw_t (List.mem_of_getElem? (i := 75) (by decide +kernel)) (by decide +kernel)
theorem kw_76 : Cond.laysFinal "BigDesk" "BigDesk" "upper" "LBigDesk$Whole;" ∈ gw := gw_t (List.mem_of_getElem? (i := 76) (by decide +kernel)) (by decide +kernel)
theorem kw_77 : Cond.soleField "BigDesk" "upper" ∈ gw := gw_t (List.mem_of_getElem? (i := 77) (by decide +kernel)) (by decide +kernel)
theorem kw_78 : Cond.laysFinal "BigDesk" "BigDesk" "lower" "LBigDesk$Whole;" ∈ gw := gw_t (List.mem_of_getElem? (i := 78) (by decide +kernel)) (by decide +kernel)
theorem kw_79 : Cond.soleField "BigDesk" "lower" ∈ gw := gw_t (List.mem_of_getElem? (i := 79) (by decide +kernel)) (by decide +kernel)
theorem kw_80 : Cond.laysFinal "BigDesk" "BigDesk" "first" "LBigDesk$Whole;" ∈ gw := gw_t (List.mem_of_getElem? (i := 80) (by decide +kernel)) (by decide +kernel)
theorem kw_81 : Cond.soleField "BigDesk" "first" ∈ gw := gw_t (List.mem_of_getElem? (i := 81) (by decide +kernel)) (by decide +kernel)
theorem kw_82 : Cond.laysFinal "BigDesk" "BigDesk" "second" "LBigDesk$Whole;" ∈ gw := gw_t (List.mem_of_getElem? (i := 82) (by decide +kernel)) (by decide +kernel)
theorem kw_83 : Cond.soleField "BigDesk" "second" ∈ gw := gw_t (List.mem_of_getElem? (i := 83) (by decide +kernel)) (by decide +kernel)
theorem kw_84 : Cond.laysFinal "BigDesk" "BigDesk" "quotient" "LBigDesk$Whole;" ∈ gw := gw_t (List.mem_of_getElem? (i := 84) (by decide +kernel)) (by decide +kernel)
theorem kw_85 : Cond.soleField "BigDesk" "quotient" ∈ gw := gw_t (List.mem_of_getElem? (i := 85) (by decide +kernel)) (by decide +kernel)
theorem kw_86 : Cond.laysFinal "BigDesk" "BigDesk" "pair" "LBigDesk$Pair;" ∈ gw := gw_t (List.mem_of_getElem? (i := 86) (by decide +kernel)) (by decide +kernel)
theorem kw_87 : Cond.soleField "BigDesk" "pair" ∈ gw := gw_t (List.mem_of_getElem? (i := 87) (by decide +kernel)) (by decide +kernel)
theorem kw_88 : Cond.superclass "BigDesk" "java/lang/Object" ∈ gw := gw_t (List.mem_of_getElem? (i := 88) (by decide +kernel)) (by decide +kernel)
theorem kw_89 : Cond.methodLink "BigDeskLaw" 15 ⟨"BigDesk", "set", "(IJ)I"⟩ ∈ gw := gw_t (List.mem_of_getElem? (i := 89) (by decide +kernel)) (by decide +kernel)
theorem kw_90 : Cond.instanceMethod ⟨"BigDesk", "set", "(IJ)I"⟩ ∈ gw := gw_t (List.mem_of_getElem? (i := 90) (by decide +kernel)) (by decide +kernel)
theorem kw_91 : Cond.selects "BigDesk" ⟨"BigDesk", "set", "(IJ)I"⟩ ⟨"BigDesk", "set", "(IJ)I"⟩ ∈ gw := gw_t (List.mem_of_getElem? (i := 91) (by decide +kernel)) (by decide +kernel)
set_option maxRecDepth 20000 in
theorem kw_92 : Cond.code ⟨"BigDesk", "set", "(IJ)I"⟩ prog_1_method_2_code 4 (some .int) ∈ gw := gw_t (List.mem_of_getElem? (i := 92) rfl) rfl
theorem kw_93 : Cond.methodLink "BigDesk" 39 ⟨"BigDesk", "isSlot", "(I)Z"⟩ ∈ gw := gw_t (List.mem_of_getElem? (i := 93) (by decide +kernel)) (by decide +kernel)
theorem kw_94 : Cond.static ⟨"BigDesk", "isSlot", "(I)Z"⟩ ∈ gw := gw_t (List.mem_of_getElem? (i := 94) (by decide +kernel)) (by decide +kernel)
set_option maxRecDepth 20000 in
theorem kw_95 : Cond.code ⟨"BigDesk", "isSlot", "(I)Z"⟩ prog_1_method_22_code 1 (some .boolean) ∈ gw := gw_t (List.mem_of_getElem? (i := 95) rfl) rfl
theorem kw_96 : Cond.methodLink "BigDesk" 43 ⟨"BigDesk$Whole", "load", "(J)V"⟩ ∈ gw := gw_t (List.mem_of_getElem? (i := 96) (by decide +kernel)) (by decide +kernel)
theorem kw_97 : Cond.instanceMethod ⟨"BigDesk$Whole", "load", "(J)V"⟩ ∈ gw := gw_t (List.mem_of_getElem? (i := 97) (by decide +kernel)) (by decide +kernel)
theorem kw_98 : Cond.selects "BigDesk$Whole" ⟨"BigDesk$Whole", "load", "(J)V"⟩ ⟨"BigDesk$Whole", "load", "(J)V"⟩ ∈ gw := gw_t (List.mem_of_getElem? (i := 98) (by decide +kernel)) (by decide +kernel)
set_option maxRecDepth 20000 in
theorem kw_99 : Cond.code ⟨"BigDesk$Whole", "load", "(J)V"⟩ prog_3_method_8_code 6 none ∈ gw := gw_t (List.mem_of_getElem? (i := 99) rfl) rfl
theorem kw_100 : Cond.constantLong "BigDesk$Whole" 23 (1000000 : Int64) ∈ gw := gw_t (List.mem_of_getElem? (i := 100) (by decide +kernel)) (by decide +kernel)
theorem kw_101 : Cond.methodLink "BigDesk$Whole" 25 ⟨"java/lang/Math", "abs", "(J)J"⟩ ∈ gw := gw_t (List.mem_of_getElem? (i := 101) (by decide +kernel)) (by decide +kernel)
theorem kw_102 : Cond.static ⟨"java/lang/Math", "abs", "(J)J"⟩ ∈ gw := gw_t (List.mem_of_getElem? (i := 102) (by decide +kernel)) (by decide +kernel)
set_option maxRecDepth 20000 in
theorem kw_103 : Cond.code ⟨"java/lang/Math", "abs", "(J)J"⟩ prog_6_method_61_code 2 (some .long) ∈ gw := gw_t (List.mem_of_getElem? (i := 103) rfl) rfl
theorem kw_104 : Cond.methodLink "BigDesk$Whole" 31 ⟨"BigDesk$Whole", "trimTo", "(I)V"⟩ ∈ gw := gw_t (List.mem_of_getElem? (i := 104) (by decide +kernel)) (by decide +kernel)
theorem kw_105 : Cond.instanceMethod ⟨"BigDesk$Whole", "trimTo", "(I)V"⟩ ∈ gw := gw_t (List.mem_of_getElem? (i := 105) (by decide +kernel)) (by decide +kernel)
theorem kw_106 : Cond.selects "BigDesk$Whole" ⟨"BigDesk$Whole", "trimTo", "(I)V"⟩ ⟨"BigDesk$Whole", "trimTo", "(I)V"⟩ ∈ gw := gw_t (List.mem_of_getElem? (i := 106) (by decide +kernel)) (by decide +kernel)
set_option maxRecDepth 20000 in
theorem kw_107 : Cond.code ⟨"BigDesk$Whole", "trimTo", "(I)V"⟩ prog_3_method_5_code 3 none ∈ gw := gw_t (List.mem_of_getElem? (i := 107) rfl) rfl
theorem kw_108 : Cond.methodLink "BigDeskLaw" 20 ⟨"BigDesk", "digit", "(II)I"⟩ ∈ gw := gw_t (List.mem_of_getElem? (i := 108) (by decide +kernel)) (by decide +kernel)
theorem kw_109 : Cond.instanceMethod ⟨"BigDesk", "digit", "(II)I"⟩ ∈ gw := gw_t (List.mem_of_getElem? (i := 109) (by decide +kernel)) (by decide +kernel)
theorem kw_110 : Cond.selects "BigDesk" ⟨"BigDesk", "digit", "(II)I"⟩ ⟨"BigDesk", "digit", "(II)I"⟩ ∈ gw := gw_t (List.mem_of_getElem? (i := 110) (by decide +kernel)) (by decide +kernel)
set_option maxRecDepth 20000 in
theorem kw_111 : Cond.code ⟨"BigDesk", "digit", "(II)I"⟩ prog_1_method_3_code 3 (some .int) ∈ gw := gw_t (List.mem_of_getElem? (i := 111) rfl) rfl
theorem kw_112 : Cond.constantLong "BigDesk" 47 (10 : Int64) ∈ gw := gw_t (List.mem_of_getElem? (i := 112) (by decide +kernel)) (by decide +kernel)
theorem kw_113 : Cond.methodLink "BigDesk" 49 ⟨"BigDesk$Whole", "takeProduct", "(LBigDesk$Whole;LBigDesk$Whole;)V"⟩ ∈ gw := gw_t (List.mem_of_getElem? (i := 113) (by decide +kernel)) (by decide +kernel)
theorem kw_114 : Cond.instanceMethod ⟨"BigDesk$Whole", "takeProduct", "(LBigDesk$Whole;LBigDesk$Whole;)V"⟩ ∈ gw := gw_t (List.mem_of_getElem? (i := 114) (by decide +kernel)) (by decide +kernel)
theorem kw_115 : Cond.selects "BigDesk$Whole" ⟨"BigDesk$Whole", "takeProduct", "(LBigDesk$Whole;LBigDesk$Whole;)V"⟩ ⟨"BigDesk$Whole", "takeProduct", "(LBigDesk$Whole;LBigDesk$Whole;)V"⟩ ∈ gw := gw_t (List.mem_of_getElem? (i := 115) (by decide +kernel)) (by decide +kernel)
set_option maxRecDepth 20000 in
theorem kw_116 : Cond.code ⟨"BigDesk$Whole", "takeProduct", "(LBigDesk$Whole;LBigDesk$Whole;)V"⟩ prog_3_method_13_code 11 none ∈ gw := gw_t (List.mem_of_getElem? (i := 116) rfl) rfl
theorem kw_117 : Cond.methodLink "BigDesk$Whole" 56 ⟨"java/lang/Math", "min", "(II)I"⟩ ∈ gw := gw_t (List.mem_of_getElem? (i := 117) (by decide +kernel)) (by decide +kernel)
theorem kw_118 : Cond.static ⟨"java/lang/Math", "min", "(II)I"⟩ ∈ gw := gw_t (List.mem_of_getElem? (i := 118) (by decide +kernel)) (by decide +kernel)
set_option maxRecDepth 20000 in
theorem kw_119 : Cond.code ⟨"java/lang/Math", "min", "(II)I"⟩ prog_6_method_69_code 2 (some .int) ∈ gw := gw_t (List.mem_of_getElem? (i := 119) rfl) rfl
theorem kw_120 : Cond.methodLink "BigDesk$Whole" 52 ⟨"java/lang/Math", "max", "(II)I"⟩ ∈ gw := gw_t (List.mem_of_getElem? (i := 120) (by decide +kernel)) (by decide +kernel)
theorem kw_121 : Cond.static ⟨"java/lang/Math", "max", "(II)I"⟩ ∈ gw := gw_t (List.mem_of_getElem? (i := 121) (by decide +kernel)) (by decide +kernel)
set_option maxRecDepth 20000 in
theorem kw_122 : Cond.code ⟨"java/lang/Math", "max", "(II)I"⟩ prog_6_method_65_code 2 (some .int) ∈ gw := gw_t (List.mem_of_getElem? (i := 122) rfl) rfl
theorem kw_123 : Cond.methodLink "BigDesk" 53 ⟨"BigDesk$Whole", "takeSum", "(LBigDesk$Whole;LBigDesk$Whole;Z)V"⟩ ∈ gw := gw_t (List.mem_of_getElem? (i := 123) (by decide +kernel)) (by decide +kernel)
theorem kw_124 : Cond.instanceMethod ⟨"BigDesk$Whole", "takeSum", "(LBigDesk$Whole;LBigDesk$Whole;Z)V"⟩ ∈ gw := gw_t (List.mem_of_getElem? (i := 124) (by decide +kernel)) (by decide +kernel)
theorem kw_125 : Cond.selects "BigDesk$Whole" ⟨"BigDesk$Whole", "takeSum", "(LBigDesk$Whole;LBigDesk$Whole;Z)V"⟩ ⟨"BigDesk$Whole", "takeSum", "(LBigDesk$Whole;LBigDesk$Whole;Z)V"⟩ ∈ gw := gw_t (List.mem_of_getElem? (i := 125) (by decide +kernel)) (by decide +kernel)
set_option maxRecDepth 20000 in
theorem kw_126 : Cond.code ⟨"BigDesk$Whole", "takeSum", "(LBigDesk$Whole;LBigDesk$Whole;Z)V"⟩ prog_3_method_10_code 6 none ∈ gw := gw_t (List.mem_of_getElem? (i := 126) rfl) rfl
theorem kw_127 : Cond.methodLink "BigDesk$Whole" 41 ⟨"BigDesk$Whole", "compareParts", "(LBigDesk$Whole;)I"⟩ ∈ gw := gw_t (List.mem_of_getElem? (i := 127) (by decide +kernel)) (by decide +kernel)
theorem kw_128 : Cond.instanceMethod ⟨"BigDesk$Whole", "compareParts", "(LBigDesk$Whole;)I"⟩ ∈ gw := gw_t (List.mem_of_getElem? (i := 128) (by decide +kernel)) (by decide +kernel)
theorem kw_129 : Cond.selects "BigDesk$Whole" ⟨"BigDesk$Whole", "compareParts", "(LBigDesk$Whole;)I"⟩ ⟨"BigDesk$Whole", "compareParts", "(LBigDesk$Whole;)I"⟩ ∈ gw := gw_t (List.mem_of_getElem? (i := 129) (by decide +kernel)) (by decide +kernel)
set_option maxRecDepth 20000 in
theorem kw_130 : Cond.code ⟨"BigDesk$Whole", "compareParts", "(LBigDesk$Whole;)I"⟩ prog_3_method_15_code 3 (some .int) ∈ gw := gw_t (List.mem_of_getElem? (i := 130) rfl) rfl
theorem kw_131 : Cond.methodLink "BigDesk$Whole" 45 ⟨"BigDesk$Whole", "addParts", "(LBigDesk$Whole;LBigDesk$Whole;)V"⟩ ∈ gw := gw_t (List.mem_of_getElem? (i := 131) (by decide +kernel)) (by decide +kernel)
theorem kw_133 : Cond.instanceMethod ⟨"BigDesk$Whole", "addParts", "(LBigDesk$Whole;LBigDesk$Whole;)V"⟩ ∈ gw := gw_t (List.mem_of_getElem? (i := 133) (by decide +kernel)) (by decide +kernel)
set_option maxRecDepth 20000 in
theorem kw_134 : Cond.code ⟨"BigDesk$Whole", "addParts", "(LBigDesk$Whole;LBigDesk$Whole;)V"⟩ prog_3_method_11_code 7 none ∈ gw := gw_t (List.mem_of_getElem? (i := 134) rfl) rfl
theorem kw_135 : Cond.methodLink "BigDesk$Whole" 59 ⟨"BigDesk$Whole", "partOrZero", "(I)I"⟩ ∈ gw := gw_t (List.mem_of_getElem? (i := 135) (by decide +kernel)) (by decide +kernel)
theorem kw_136 : Cond.instanceMethod ⟨"BigDesk$Whole", "partOrZero", "(I)I"⟩ ∈ gw := gw_t (List.mem_of_getElem? (i := 136) (by decide +kernel)) (by decide +kernel)
theorem kw_137 : Cond.selects "BigDesk$Whole" ⟨"BigDesk$Whole", "partOrZero", "(I)I"⟩ ⟨"BigDesk$Whole", "partOrZero", "(I)I"⟩ ∈ gw := gw_t (List.mem_of_getElem? (i := 137) (by decide +kernel)) (by decide +kernel)
set_option maxRecDepth 20000 in
theorem kw_138 : Cond.code ⟨"BigDesk$Whole", "partOrZero", "(I)I"⟩ prog_3_method_7_code 2 (some .int) ∈ gw := gw_t (List.mem_of_getElem? (i := 138) rfl) rfl
theorem kw_139 : Cond.constant "BigDesk$Whole" 63 (1000000 : Int32) ∈ gw := gw_t (List.mem_of_getElem? (i := 139) (by decide +kernel)) (by decide +kernel)
theorem kw_140 : Cond.methodLink "BigDesk$Whole" 49 ⟨"BigDesk$Whole", "subtractParts", "(LBigDesk$Whole;LBigDesk$Whole;)V"⟩ ∈ gw := gw_t (List.mem_of_getElem? (i := 140) (by decide +kernel)) (by decide +kernel)
theorem kw_142 : Cond.instanceMethod ⟨"BigDesk$Whole", "subtractParts", "(LBigDesk$Whole;LBigDesk$Whole;)V"⟩ ∈ gw := gw_t (List.mem_of_getElem? (i := 142) (by decide +kernel)) (by decide +kernel)
set_option maxRecDepth 20000 in
theorem kw_143 : Cond.code ⟨"BigDesk$Whole", "subtractParts", "(LBigDesk$Whole;LBigDesk$Whole;)V"⟩ prog_3_method_12_code 6 none ∈ gw := gw_t (List.mem_of_getElem? (i := 143) rfl) rfl
theorem kw_144 : Cond.methodLink "BigDesk" 57 ⟨"BigDesk", "keep", "(LBigDesk$Whole;I)I"⟩ ∈ gw := gw_t (List.mem_of_getElem? (i := 144) (by decide +kernel)) (by decide +kernel)
theorem kw_146 : Cond.instanceMethod ⟨"BigDesk", "keep", "(LBigDesk$Whole;I)I"⟩ ∈ gw := gw_t (List.mem_of_getElem? (i := 146) (by decide +kernel)) (by decide +kernel)
set_option maxRecDepth 20000 in
theorem kw_147 : Cond.code ⟨"BigDesk", "keep", "(LBigDesk$Whole;I)I"⟩ prog_1_method_25_code 3 (some .int) ∈ gw := gw_t (List.mem_of_getElem? (i := 147) rfl) rfl
theorem kw_148 : Cond.methodLink "BigDesk" 84 ⟨"BigDesk$Whole", "isTooLong", "()Z"⟩ ∈ gw := gw_t (List.mem_of_getElem? (i := 148) (by decide +kernel)) (by decide +kernel)
theorem kw_149 : Cond.instanceMethod ⟨"BigDesk$Whole", "isTooLong", "()Z"⟩ ∈ gw := gw_t (List.mem_of_getElem? (i := 149) (by decide +kernel)) (by decide +kernel)
theorem kw_150 : Cond.selects "BigDesk$Whole" ⟨"BigDesk$Whole", "isTooLong", "()Z"⟩ ⟨"BigDesk$Whole", "isTooLong", "()Z"⟩ ∈ gw := gw_t (List.mem_of_getElem? (i := 150) (by decide +kernel)) (by decide +kernel)
set_option maxRecDepth 20000 in
theorem kw_151 : Cond.code ⟨"BigDesk$Whole", "isTooLong", "()Z"⟩ prog_3_method_3_code 1 (some .boolean) ∈ gw := gw_t (List.mem_of_getElem? (i := 151) rfl) rfl
theorem kw_152 : Cond.methodLink "BigDesk" 91 ⟨"BigDesk$Whole", "take", "(LBigDesk$Whole;)V"⟩ ∈ gw := gw_t (List.mem_of_getElem? (i := 152) (by decide +kernel)) (by decide +kernel)
theorem kw_153 : Cond.instanceMethod ⟨"BigDesk$Whole", "take", "(LBigDesk$Whole;)V"⟩ ∈ gw := gw_t (List.mem_of_getElem? (i := 153) (by decide +kernel)) (by decide +kernel)
theorem kw_154 : Cond.selects "BigDesk$Whole" ⟨"BigDesk$Whole", "take", "(LBigDesk$Whole;)V"⟩ ⟨"BigDesk$Whole", "take", "(LBigDesk$Whole;)V"⟩ ∈ gw := gw_t (List.mem_of_getElem? (i := 154) (by decide +kernel)) (by decide +kernel)
set_option maxRecDepth 20000 in
theorem kw_155 : Cond.code ⟨"BigDesk$Whole", "take", "(LBigDesk$Whole;)V"⟩ prog_3_method_9_code 2 none ∈ gw := gw_t (List.mem_of_getElem? (i := 155) rfl) rfl
theorem kw_156 : Cond.methodLink "BigDesk$Whole" 35 ⟨"java/lang/System", "arraycopy", "(Ljava/lang/Object;ILjava/lang/Object;II)V"⟩ ∈ gw := gw_t (List.mem_of_getElem? (i := 156) (by decide +kernel)) (by decide +kernel)
theorem kw_157 : Cond.static ⟨"java/lang/System", "arraycopy", "(Ljava/lang/Object;ILjava/lang/Object;II)V"⟩ ∈ gw := gw_t (List.mem_of_getElem? (i := 157) (by decide +kernel)) (by decide +kernel)
theorem kw_158 : Cond.native ⟨"java/lang/System", "arraycopy", "(Ljava/lang/Object;ILjava/lang/Object;II)V"⟩ ∈ gw := gw_t (List.mem_of_getElem? (i := 158) (by decide +kernel)) (by decide +kernel)
theorem kw_159 : Cond.methodLink "BigDeskLaw" 25 ⟨"BigDesk", "copy", "(II)I"⟩ ∈ gw := gw_t (List.mem_of_getElem? (i := 159) (by decide +kernel)) (by decide +kernel)
theorem kw_160 : Cond.instanceMethod ⟨"BigDesk", "copy", "(II)I"⟩ ∈ gw := gw_t (List.mem_of_getElem? (i := 160) (by decide +kernel)) (by decide +kernel)
theorem kw_161 : Cond.selects "BigDesk" ⟨"BigDesk", "copy", "(II)I"⟩ ⟨"BigDesk", "copy", "(II)I"⟩ ∈ gw := gw_t (List.mem_of_getElem? (i := 161) (by decide +kernel)) (by decide +kernel)
set_option maxRecDepth 20000 in
theorem kw_162 : Cond.code ⟨"BigDesk", "copy", "(II)I"⟩ prog_1_method_4_code 3 (some .int) ∈ gw := gw_t (List.mem_of_getElem? (i := 162) rfl) rfl
theorem kw_163 : Cond.methodLink "BigDesk" 61 ⟨"BigDesk", "areSlots", "(II)Z"⟩ ∈ gw := gw_t (List.mem_of_getElem? (i := 163) (by decide +kernel)) (by decide +kernel)
theorem kw_164 : Cond.static ⟨"BigDesk", "areSlots", "(II)Z"⟩ ∈ gw := gw_t (List.mem_of_getElem? (i := 164) (by decide +kernel)) (by decide +kernel)
set_option maxRecDepth 20000 in
theorem kw_165 : Cond.code ⟨"BigDesk", "areSlots", "(II)Z"⟩ prog_1_method_23_code 2 (some .boolean) ∈ gw := gw_t (List.mem_of_getElem? (i := 165) rfl) rfl
theorem kw_166 : Cond.methodLink "BigDeskLaw" 29 ⟨"BigDesk", "sum", "(III)I"⟩ ∈ gw := gw_t (List.mem_of_getElem? (i := 166) (by decide +kernel)) (by decide +kernel)
theorem kw_167 : Cond.instanceMethod ⟨"BigDesk", "sum", "(III)I"⟩ ∈ gw := gw_t (List.mem_of_getElem? (i := 167) (by decide +kernel)) (by decide +kernel)
theorem kw_168 : Cond.selects "BigDesk" ⟨"BigDesk", "sum", "(III)I"⟩ ⟨"BigDesk", "sum", "(III)I"⟩ ∈ gw := gw_t (List.mem_of_getElem? (i := 168) (by decide +kernel)) (by decide +kernel)
set_option maxRecDepth 20000 in
theorem kw_169 : Cond.code ⟨"BigDesk", "sum", "(III)I"⟩ prog_1_method_5_code 4 (some .int) ∈ gw := gw_t (List.mem_of_getElem? (i := 169) rfl) rfl
theorem kw_170 : Cond.methodLink "BigDesk" 65 ⟨"BigDesk", "addOrTakeAway", "(IIIZ)I"⟩ ∈ gw := gw_t (List.mem_of_getElem? (i := 170) (by decide +kernel)) (by decide +kernel)
theorem kw_172 : Cond.instanceMethod ⟨"BigDesk", "addOrTakeAway", "(IIIZ)I"⟩ ∈ gw := gw_t (List.mem_of_getElem? (i := 172) (by decide +kernel)) (by decide +kernel)
set_option maxRecDepth 20000 in
theorem kw_173 : Cond.code ⟨"BigDesk", "addOrTakeAway", "(IIIZ)I"⟩ prog_1_method_26_code 5 (some .int) ∈ gw := gw_t (List.mem_of_getElem? (i := 173) rfl) rfl
theorem kw_174 : Cond.methodLink "BigDeskLaw" 34 ⟨"BigDesk", "less", "(III)I"⟩ ∈ gw := gw_t (List.mem_of_getElem? (i := 174) (by decide +kernel)) (by decide +kernel)
theorem kw_175 : Cond.instanceMethod ⟨"BigDesk", "less", "(III)I"⟩ ∈ gw := gw_t (List.mem_of_getElem? (i := 175) (by decide +kernel)) (by decide +kernel)
theorem kw_176 : Cond.selects "BigDesk" ⟨"BigDesk", "less", "(III)I"⟩ ⟨"BigDesk", "less", "(III)I"⟩ ∈ gw := gw_t (List.mem_of_getElem? (i := 176) (by decide +kernel)) (by decide +kernel)
set_option maxRecDepth 20000 in
theorem kw_177 : Cond.code ⟨"BigDesk", "less", "(III)I"⟩ prog_1_method_6_code 4 (some .int) ∈ gw := gw_t (List.mem_of_getElem? (i := 177) rfl) rfl
theorem kw_178 : Cond.methodLink "BigDeskLaw" 38 ⟨"BigDesk", "product", "(III)I"⟩ ∈ gw := gw_t (List.mem_of_getElem? (i := 178) (by decide +kernel)) (by decide +kernel)
theorem kw_179 : Cond.instanceMethod ⟨"BigDesk", "product", "(III)I"⟩ ∈ gw := gw_t (List.mem_of_getElem? (i := 179) (by decide +kernel)) (by decide +kernel)
theorem kw_180 : Cond.selects "BigDesk" ⟨"BigDesk", "product", "(III)I"⟩ ⟨"BigDesk", "product", "(III)I"⟩ ∈ gw := gw_t (List.mem_of_getElem? (i := 180) (by decide +kernel)) (by decide +kernel)
set_option maxRecDepth 20000 in
theorem kw_181 : Cond.code ⟨"BigDesk", "product", "(III)I"⟩ prog_1_method_7_code 4 (some .int) ∈ gw := gw_t (List.mem_of_getElem? (i := 181) rfl) rfl
theorem kw_182 : Cond.methodLink "BigDeskLaw" 42 ⟨"BigDesk", "over", "(III)I"⟩ ∈ gw := gw_t (List.mem_of_getElem? (i := 182) (by decide +kernel)) (by decide +kernel)
theorem kw_183 : Cond.instanceMethod ⟨"BigDesk", "over", "(III)I"⟩ ∈ gw := gw_t (List.mem_of_getElem? (i := 183) (by decide +kernel)) (by decide +kernel)
theorem kw_184 : Cond.selects "BigDesk" ⟨"BigDesk", "over", "(III)I"⟩ ⟨"BigDesk", "over", "(III)I"⟩ ∈ gw := gw_t (List.mem_of_getElem? (i := 184) (by decide +kernel)) (by decide +kernel)
set_option maxRecDepth 20000 in
theorem kw_185 : Cond.code ⟨"BigDesk", "over", "(III)I"⟩ prog_1_method_8_code 4 (some .int) ∈ gw := gw_t (List.mem_of_getElem? (i := 185) rfl) rfl
theorem kw_186 : Cond.methodLink "BigDesk" 69 ⟨"BigDesk", "divideSlots", "(II)Z"⟩ ∈ gw := gw_t (List.mem_of_getElem? (i := 186) (by decide +kernel)) (by decide +kernel)
theorem kw_188 : Cond.instanceMethod ⟨"BigDesk", "divideSlots", "(II)Z"⟩ ∈ gw := gw_t (List.mem_of_getElem? (i := 188) (by decide +kernel)) (by decide +kernel)
set_option maxRecDepth 20000 in
theorem kw_189 : Cond.code ⟨"BigDesk", "divideSlots", "(II)Z"⟩ prog_1_method_27_code 3 (some .boolean) ∈ gw := gw_t (List.mem_of_getElem? (i := 189) rfl) rfl
theorem kw_190 : Cond.methodLink "BigDesk" 88 ⟨"BigDesk$Whole", "isZero", "()Z"⟩ ∈ gw := gw_t (List.mem_of_getElem? (i := 190) (by decide +kernel)) (by decide +kernel)
theorem kw_191 : Cond.instanceMethod ⟨"BigDesk$Whole", "isZero", "()Z"⟩ ∈ gw := gw_t (List.mem_of_getElem? (i := 191) (by decide +kernel)) (by decide +kernel)
theorem kw_192 : Cond.selects "BigDesk$Whole" ⟨"BigDesk$Whole", "isZero", "()Z"⟩ ⟨"BigDesk$Whole", "isZero", "()Z"⟩ ∈ gw := gw_t (List.mem_of_getElem? (i := 192) (by decide +kernel)) (by decide +kernel)
set_option maxRecDepth 20000 in
theorem kw_193 : Cond.code ⟨"BigDesk$Whole", "isZero", "()Z"⟩ prog_3_method_2_code 1 (some .boolean) ∈ gw := gw_t (List.mem_of_getElem? (i := 193) rfl) rfl
theorem kw_194 : Cond.methodLink "BigDesk" 127 ⟨"BigDesk$Whole", "divideBy", "(LBigDesk$Whole;LBigDesk$Whole;)V"⟩ ∈ gw := gw_t (List.mem_of_getElem? (i := 194) (by decide +kernel)) (by decide +kernel)
theorem kw_195 : Cond.instanceMethod ⟨"BigDesk$Whole", "divideBy", "(LBigDesk$Whole;LBigDesk$Whole;)V"⟩ ∈ gw := gw_t (List.mem_of_getElem? (i := 195) (by decide +kernel)) (by decide +kernel)
theorem kw_196 : Cond.selects "BigDesk$Whole" ⟨"BigDesk$Whole", "divideBy", "(LBigDesk$Whole;LBigDesk$Whole;)V"⟩ ⟨"BigDesk$Whole", "divideBy", "(LBigDesk$Whole;LBigDesk$Whole;)V"⟩ ∈ gw := gw_t (List.mem_of_getElem? (i := 196) (by decide +kernel)) (by decide +kernel)
set_option maxRecDepth 20000 in
theorem kw_197 : Cond.code ⟨"BigDesk$Whole", "divideBy", "(LBigDesk$Whole;LBigDesk$Whole;)V"⟩ prog_3_method_17_code 7 none ∈ gw := gw_t (List.mem_of_getElem? (i := 197) rfl) rfl
theorem kw_198 : Cond.methodLink "BigDesk$Whole" 64 ⟨"BigDesk$Whole", "leadOfTwo", "()J"⟩ ∈ gw := gw_t (List.mem_of_getElem? (i := 198) (by decide +kernel)) (by decide +kernel)
theorem kw_200 : Cond.instanceMethod ⟨"BigDesk$Whole", "leadOfTwo", "()J"⟩ ∈ gw := gw_t (List.mem_of_getElem? (i := 200) (by decide +kernel)) (by decide +kernel)
set_option maxRecDepth 20000 in
theorem kw_201 : Cond.code ⟨"BigDesk$Whole", "leadOfTwo", "()J"⟩ prog_3_method_18_code 1 (some .long) ∈ gw := gw_t (List.mem_of_getElem? (i := 201) rfl) rfl
theorem kw_202 : Cond.methodLink "BigDesk$Whole" 68 ⟨"BigDesk$Whole", "load", "(J)V"⟩ ∈ gw := gw_t (List.mem_of_getElem? (i := 202) (by decide +kernel)) (by decide +kernel)
theorem kw_203 : Cond.methodLink "BigDesk$Whole" 72 ⟨"BigDesk$Whole", "takeAway", "(LBigDesk$Whole;JI)I"⟩ ∈ gw := gw_t (List.mem_of_getElem? (i := 203) (by decide +kernel)) (by decide +kernel)
theorem kw_205 : Cond.instanceMethod ⟨"BigDesk$Whole", "takeAway", "(LBigDesk$Whole;JI)I"⟩ ∈ gw := gw_t (List.mem_of_getElem? (i := 205) (by decide +kernel)) (by decide +kernel)
set_option maxRecDepth 20000 in
theorem kw_206 : Cond.code ⟨"BigDesk$Whole", "takeAway", "(LBigDesk$Whole;JI)I"⟩ prog_3_method_19_code 11 (some .int) ∈ gw := gw_t (List.mem_of_getElem? (i := 206) rfl) rfl
theorem kw_207 : Cond.methodLink "BigDesk$Whole" 76 ⟨"BigDesk$Whole", "subtractTimes", "(LBigDesk$Whole;II)V"⟩ ∈ gw := gw_t (List.mem_of_getElem? (i := 207) (by decide +kernel)) (by decide +kernel)
theorem kw_209 : Cond.instanceMethod ⟨"BigDesk$Whole", "subtractTimes", "(LBigDesk$Whole;II)V"⟩ ∈ gw := gw_t (List.mem_of_getElem? (i := 209) (by decide +kernel)) (by decide +kernel)
set_option maxRecDepth 20000 in
theorem kw_210 : Cond.code ⟨"BigDesk$Whole", "subtractTimes", "(LBigDesk$Whole;II)V"⟩ prog_3_method_20_code 10 none ∈ gw := gw_t (List.mem_of_getElem? (i := 210) rfl) rfl
theorem kw_211 : Cond.methodLink "BigDesk$Whole" 80 ⟨"BigDesk$Whole", "addBack", "(LBigDesk$Whole;I)V"⟩ ∈ gw := gw_t (List.mem_of_getElem? (i := 211) (by decide +kernel)) (by decide +kernel)
theorem kw_213 : Cond.instanceMethod ⟨"BigDesk$Whole", "addBack", "(LBigDesk$Whole;I)V"⟩ ∈ gw := gw_t (List.mem_of_getElem? (i := 213) (by decide +kernel)) (by decide +kernel)
set_option maxRecDepth 20000 in
theorem kw_214 : Cond.code ⟨"BigDesk$Whole", "addBack", "(LBigDesk$Whole;I)V"⟩ prog_3_method_21_code 6 none ∈ gw := gw_t (List.mem_of_getElem? (i := 214) rfl) rfl
theorem kw_215 : Cond.methodLink "BigDeskLaw" 46 ⟨"BigDesk", "left", "(III)I"⟩ ∈ gw := gw_t (List.mem_of_getElem? (i := 215) (by decide +kernel)) (by decide +kernel)
theorem kw_216 : Cond.instanceMethod ⟨"BigDesk", "left", "(III)I"⟩ ∈ gw := gw_t (List.mem_of_getElem? (i := 216) (by decide +kernel)) (by decide +kernel)
theorem kw_217 : Cond.selects "BigDesk" ⟨"BigDesk", "left", "(III)I"⟩ ⟨"BigDesk", "left", "(III)I"⟩ ∈ gw := gw_t (List.mem_of_getElem? (i := 217) (by decide +kernel)) (by decide +kernel)
set_option maxRecDepth 20000 in
theorem kw_218 : Cond.code ⟨"BigDesk", "left", "(III)I"⟩ prog_1_method_9_code 4 (some .int) ∈ gw := gw_t (List.mem_of_getElem? (i := 218) rfl) rfl
theorem kw_219 : Cond.methodLink "BigDeskLaw" 50 ⟨"BigDesk", "divisor", "(III)I"⟩ ∈ gw := gw_t (List.mem_of_getElem? (i := 219) (by decide +kernel)) (by decide +kernel)
theorem kw_220 : Cond.instanceMethod ⟨"BigDesk", "divisor", "(III)I"⟩ ∈ gw := gw_t (List.mem_of_getElem? (i := 220) (by decide +kernel)) (by decide +kernel)
theorem kw_221 : Cond.selects "BigDesk" ⟨"BigDesk", "divisor", "(III)I"⟩ ⟨"BigDesk", "divisor", "(III)I"⟩ ∈ gw := gw_t (List.mem_of_getElem? (i := 221) (by decide +kernel)) (by decide +kernel)
set_option maxRecDepth 20000 in
theorem kw_222 : Cond.code ⟨"BigDesk", "divisor", "(III)I"⟩ prog_1_method_10_code 4 (some .int) ∈ gw := gw_t (List.mem_of_getElem? (i := 222) rfl) rfl
theorem kw_223 : Cond.methodLink "BigDesk" 72 ⟨"BigDesk$Pair", "commonDivisor", "(LBigDesk$Whole;LBigDesk$Whole;)LBigDesk$Whole;"⟩ ∈ gw := gw_t (List.mem_of_getElem? (i := 223) (by decide +kernel)) (by decide +kernel)
theorem kw_224 : Cond.instanceMethod ⟨"BigDesk$Pair", "commonDivisor", "(LBigDesk$Whole;LBigDesk$Whole;)LBigDesk$Whole;"⟩ ∈ gw := gw_t (List.mem_of_getElem? (i := 224) (by decide +kernel)) (by decide +kernel)
theorem kw_225 : Cond.selects "BigDesk$Pair" ⟨"BigDesk$Pair", "commonDivisor", "(LBigDesk$Whole;LBigDesk$Whole;)LBigDesk$Whole;"⟩ ⟨"BigDesk$Pair", "commonDivisor", "(LBigDesk$Whole;LBigDesk$Whole;)LBigDesk$Whole;"⟩ ∈ gw := gw_t (List.mem_of_getElem? (i := 225) (by decide +kernel)) (by decide +kernel)
set_option maxRecDepth 20000 in
theorem kw_226 : Cond.code ⟨"BigDesk$Pair", "commonDivisor", "(LBigDesk$Whole;LBigDesk$Whole;)LBigDesk$Whole;"⟩ prog_2_method_2_code 4 (some (.object "BigDesk$Whole")) ∈ gw := gw_t (List.mem_of_getElem? (i := 226) rfl) rfl
theorem kw_227 : Cond.methodLink "BigDesk$Pair" 24 ⟨"BigDesk$Whole", "take", "(LBigDesk$Whole;)V"⟩ ∈ gw := gw_t (List.mem_of_getElem? (i := 227) (by decide +kernel)) (by decide +kernel)
theorem kw_228 : Cond.methodLink "BigDesk$Pair" 32 ⟨"BigDesk$Whole", "compareParts", "(LBigDesk$Whole;)I"⟩ ∈ gw := gw_t (List.mem_of_getElem? (i := 228) (by decide +kernel)) (by decide +kernel)
theorem kw_229 : Cond.methodLink "BigDesk$Pair" 36 ⟨"BigDesk$Pair", "change", "()V"⟩ ∈ gw := gw_t (List.mem_of_getElem? (i := 229) (by decide +kernel)) (by decide +kernel)
theorem kw_231 : Cond.instanceMethod ⟨"BigDesk$Pair", "change", "()V"⟩ ∈ gw := gw_t (List.mem_of_getElem? (i := 231) (by decide +kernel)) (by decide +kernel)
set_option maxRecDepth 20000 in
theorem kw_232 : Cond.code ⟨"BigDesk$Pair", "change", "()V"⟩ prog_2_method_3_code 2 none ∈ gw := gw_t (List.mem_of_getElem? (i := 232) rfl) rfl
theorem kw_233 : Cond.methodLink "BigDesk$Pair" 39 ⟨"BigDesk$Whole", "isZero", "()Z"⟩ ∈ gw := gw_t (List.mem_of_getElem? (i := 233) (by decide +kernel)) (by decide +kernel)
theorem kw_234 : Cond.methodLink "BigDesk$Pair" 43 ⟨"BigDesk$Pair", "foretellSteps", "()V"⟩ ∈ gw := gw_t (List.mem_of_getElem? (i := 234) (by decide +kernel)) (by decide +kernel)
theorem kw_236 : Cond.instanceMethod ⟨"BigDesk$Pair", "foretellSteps", "()V"⟩ ∈ gw := gw_t (List.mem_of_getElem? (i := 236) (by decide +kernel)) (by decide +kernel)
set_option maxRecDepth 20000 in
theorem kw_237 : Cond.code ⟨"BigDesk$Pair", "foretellSteps", "()V"⟩ prog_2_method_4_code 14 none ∈ gw := gw_t (List.mem_of_getElem? (i := 237) rfl) rfl
theorem kw_238 : Cond.methodLink "BigDesk$Pair" 57 ⟨"BigDesk$Pair", "leadOfThree", "(LBigDesk$Whole;)J"⟩ ∈ gw := gw_t (List.mem_of_getElem? (i := 238) (by decide +kernel)) (by decide +kernel)
theorem kw_240 : Cond.instanceMethod ⟨"BigDesk$Pair", "leadOfThree", "(LBigDesk$Whole;)J"⟩ ∈ gw := gw_t (List.mem_of_getElem? (i := 240) (by decide +kernel)) (by decide +kernel)
set_option maxRecDepth 20000 in
theorem kw_241 : Cond.code ⟨"BigDesk$Pair", "leadOfThree", "(LBigDesk$Whole;)J"⟩ prog_2_method_5_code 5 (some .long) ∈ gw := gw_t (List.mem_of_getElem? (i := 241) rfl) rfl
theorem kw_242 : Cond.methodLink "BigDesk$Pair" 74 ⟨"BigDesk$Whole", "partOrZero", "(I)I"⟩ ∈ gw := gw_t (List.mem_of_getElem? (i := 242) (by decide +kernel)) (by decide +kernel)
theorem kw_243 : Cond.constantLong "BigDesk$Pair" 78 (1000000 : Int64) ∈ gw := gw_t (List.mem_of_getElem? (i := 243) (by decide +kernel)) (by decide +kernel)
theorem kw_244 : Cond.methodLink "BigDesk$Pair" 50 ⟨"BigDesk$Whole", "divideBy", "(LBigDesk$Whole;LBigDesk$Whole;)V"⟩ ∈ gw := gw_t (List.mem_of_getElem? (i := 244) (by decide +kernel)) (by decide +kernel)
theorem kw_245 : Cond.methodLink "BigDesk$Pair" 54 ⟨"BigDesk$Pair", "takeForetoldSteps", "()V"⟩ ∈ gw := gw_t (List.mem_of_getElem? (i := 245) (by decide +kernel)) (by decide +kernel)
theorem kw_247 : Cond.instanceMethod ⟨"BigDesk$Pair", "takeForetoldSteps", "()V"⟩ ∈ gw := gw_t (List.mem_of_getElem? (i := 247) (by decide +kernel)) (by decide +kernel)
set_option maxRecDepth 20000 in
theorem kw_248 : Cond.code ⟨"BigDesk$Pair", "takeForetoldSteps", "()V"⟩ prog_2_method_6_code 17 none ∈ gw := gw_t (List.mem_of_getElem? (i := 248) rfl) rfl
theorem kw_249 : Cond.methodLink "BigDesk$Pair" 84 ⟨"BigDesk$Whole", "clearParts", "(II)V"⟩ ∈ gw := gw_t (List.mem_of_getElem? (i := 249) (by decide +kernel)) (by decide +kernel)
theorem kw_250 : Cond.instanceMethod ⟨"BigDesk$Whole", "clearParts", "(II)V"⟩ ∈ gw := gw_t (List.mem_of_getElem? (i := 250) (by decide +kernel)) (by decide +kernel)
theorem kw_251 : Cond.selects "BigDesk$Whole" ⟨"BigDesk$Whole", "clearParts", "(II)V"⟩ ⟨"BigDesk$Whole", "clearParts", "(II)V"⟩ ∈ gw := gw_t (List.mem_of_getElem? (i := 251) (by decide +kernel)) (by decide +kernel)
set_option maxRecDepth 20000 in
theorem kw_252 : Cond.code ⟨"BigDesk$Whole", "clearParts", "(II)V"⟩ prog_3_method_6_code 4 none ∈ gw := gw_t (List.mem_of_getElem? (i := 252) rfl) rfl
theorem kw_253 : Cond.constantLong "BigDesk$Pair" 88 (1000000000000000000 : Int64) ∈ gw := gw_t (List.mem_of_getElem? (i := 253) (by decide +kernel)) (by decide +kernel)
theorem kw_254 : Cond.constantLong "BigDesk$Pair" 90 (1000000000000 : Int64) ∈ gw := gw_t (List.mem_of_getElem? (i := 254) (by decide +kernel)) (by decide +kernel)
theorem kw_255 : Cond.methodLink "BigDesk$Pair" 92 ⟨"BigDesk$Whole", "trimTo", "(I)V"⟩ ∈ gw := gw_t (List.mem_of_getElem? (i := 255) (by decide +kernel)) (by decide +kernel)
theorem kw_256 : Cond.methodLink "BigDeskLaw" 54 ⟨"BigDesk", "root", "(II)I"⟩ ∈ gw := gw_t (List.mem_of_getElem? (i := 256) (by decide +kernel)) (by decide +kernel)
theorem kw_257 : Cond.instanceMethod ⟨"BigDesk", "root", "(II)I"⟩ ∈ gw := gw_t (List.mem_of_getElem? (i := 257) (by decide +kernel)) (by decide +kernel)
theorem kw_258 : Cond.selects "BigDesk" ⟨"BigDesk", "root", "(II)I"⟩ ⟨"BigDesk", "root", "(II)I"⟩ ∈ gw := gw_t (List.mem_of_getElem? (i := 258) (by decide +kernel)) (by decide +kernel)
set_option maxRecDepth 20000 in
theorem kw_259 : Cond.code ⟨"BigDesk", "root", "(II)I"⟩ prog_1_method_11_code 3 (some .int) ∈ gw := gw_t (List.mem_of_getElem? (i := 259) rfl) rfl
theorem kw_260 : Cond.methodLink "BigDesk" 80 ⟨"BigDesk", "squareRoot", "(LBigDesk$Whole;)LBigDesk$Whole;"⟩ ∈ gw := gw_t (List.mem_of_getElem? (i := 260) (by decide +kernel)) (by decide +kernel)
theorem kw_262 : Cond.instanceMethod ⟨"BigDesk", "squareRoot", "(LBigDesk$Whole;)LBigDesk$Whole;"⟩ ∈ gw := gw_t (List.mem_of_getElem? (i := 262) (by decide +kernel)) (by decide +kernel)
set_option maxRecDepth 20000 in
theorem kw_263 : Cond.code ⟨"BigDesk", "squareRoot", "(LBigDesk$Whole;)LBigDesk$Whole;"⟩ prog_1_method_28_code 6 (some (.object "BigDesk$Whole")) ∈ gw := gw_t (List.mem_of_getElem? (i := 263) rfl) rfl
theorem kw_264 : Cond.methodLink "BigDesk" 130 ⟨"BigDesk$Whole", "loadAboveRoot", "(LBigDesk$Whole;)V"⟩ ∈ gw := gw_t (List.mem_of_getElem? (i := 264) (by decide +kernel)) (by decide +kernel)
theorem kw_265 : Cond.instanceMethod ⟨"BigDesk$Whole", "loadAboveRoot", "(LBigDesk$Whole;)V"⟩ ∈ gw := gw_t (List.mem_of_getElem? (i := 265) (by decide +kernel)) (by decide +kernel)
theorem kw_266 : Cond.selects "BigDesk$Whole" ⟨"BigDesk$Whole", "loadAboveRoot", "(LBigDesk$Whole;)V"⟩ ⟨"BigDesk$Whole", "loadAboveRoot", "(LBigDesk$Whole;)V"⟩ ∈ gw := gw_t (List.mem_of_getElem? (i := 266) (by decide +kernel)) (by decide +kernel)
set_option maxRecDepth 20000 in
theorem kw_267 : Cond.code ⟨"BigDesk$Whole", "loadAboveRoot", "(LBigDesk$Whole;)V"⟩ prog_3_method_22_code 8 none ∈ gw := gw_t (List.mem_of_getElem? (i := 267) rfl) rfl
theorem kw_268 : Cond.methodLink "BigDesk$Whole" 84 ⟨"BigDesk$Whole", "rootOfLong", "(J)J"⟩ ∈ gw := gw_t (List.mem_of_getElem? (i := 268) (by decide +kernel)) (by decide +kernel)
theorem kw_269 : Cond.static ⟨"BigDesk$Whole", "rootOfLong", "(J)J"⟩ ∈ gw := gw_t (List.mem_of_getElem? (i := 269) (by decide +kernel)) (by decide +kernel)
set_option maxRecDepth 20000 in
theorem kw_270 : Cond.code ⟨"BigDesk$Whole", "rootOfLong", "(J)J"⟩ prog_3_method_23_code 8 (some .long) ∈ gw := gw_t (List.mem_of_getElem? (i := 270) rfl) rfl
theorem kw_271 : Cond.constantLong "BigDesk$Whole" 91 (536870912 : Int64) ∈ gw := gw_t (List.mem_of_getElem? (i := 271) (by decide +kernel)) (by decide +kernel)
theorem kw_272 : Cond.methodLink "BigDesk$Whole" 87 ⟨"BigDesk$Whole", "clearParts", "(II)V"⟩ ∈ gw := gw_t (List.mem_of_getElem? (i := 272) (by decide +kernel)) (by decide +kernel)
theorem kw_273 : Cond.methodLink "BigDesk" 133 ⟨"BigDesk$Whole", "halve", "()V"⟩ ∈ gw := gw_t (List.mem_of_getElem? (i := 273) (by decide +kernel)) (by decide +kernel)
theorem kw_274 : Cond.instanceMethod ⟨"BigDesk$Whole", "halve", "()V"⟩ ∈ gw := gw_t (List.mem_of_getElem? (i := 274) (by decide +kernel)) (by decide +kernel)
theorem kw_275 : Cond.selects "BigDesk$Whole" ⟨"BigDesk$Whole", "halve", "()V"⟩ ⟨"BigDesk$Whole", "halve", "()V"⟩ ∈ gw := gw_t (List.mem_of_getElem? (i := 275) (by decide +kernel)) (by decide +kernel)
set_option maxRecDepth 20000 in
theorem kw_276 : Cond.code ⟨"BigDesk$Whole", "halve", "()V"⟩ prog_3_method_14_code 4 none ∈ gw := gw_t (List.mem_of_getElem? (i := 276) rfl) rfl
theorem kw_277 : Cond.methodLink "BigDesk" 136 ⟨"BigDesk$Whole", "compareParts", "(LBigDesk$Whole;)I"⟩ ∈ gw := gw_t (List.mem_of_getElem? (i := 277) (by decide +kernel)) (by decide +kernel)
theorem kw_278 : Cond.methodLink "BigDeskLaw" 58 ⟨"BigDesk", "power", "(III)I"⟩ ∈ gw := gw_t (List.mem_of_getElem? (i := 278) (by decide +kernel)) (by decide +kernel)
theorem kw_279 : Cond.instanceMethod ⟨"BigDesk", "power", "(III)I"⟩ ∈ gw := gw_t (List.mem_of_getElem? (i := 279) (by decide +kernel)) (by decide +kernel)
theorem kw_280 : Cond.selects "BigDesk" ⟨"BigDesk", "power", "(III)I"⟩ ⟨"BigDesk", "power", "(III)I"⟩ ∈ gw := gw_t (List.mem_of_getElem? (i := 280) (by decide +kernel)) (by decide +kernel)
set_option maxRecDepth 20000 in
theorem kw_281 : Cond.code ⟨"BigDesk", "power", "(III)I"⟩ prog_1_method_12_code 8 (some .int) ∈ gw := gw_t (List.mem_of_getElem? (i := 281) rfl) rfl
theorem kw_282 : Cond.methodLink "BigDeskLaw" 62 ⟨"BigDesk", "lowest", "(II)I"⟩ ∈ gw := gw_t (List.mem_of_getElem? (i := 282) (by decide +kernel)) (by decide +kernel)
theorem kw_283 : Cond.instanceMethod ⟨"BigDesk", "lowest", "(II)I"⟩ ∈ gw := gw_t (List.mem_of_getElem? (i := 283) (by decide +kernel)) (by decide +kernel)
theorem kw_284 : Cond.selects "BigDesk" ⟨"BigDesk", "lowest", "(II)I"⟩ ⟨"BigDesk", "lowest", "(II)I"⟩ ∈ gw := gw_t (List.mem_of_getElem? (i := 284) (by decide +kernel)) (by decide +kernel)
set_option maxRecDepth 20000 in
theorem kw_285 : Cond.code ⟨"BigDesk", "lowest", "(II)I"⟩ prog_1_method_13_code 3 (some .int) ∈ gw := gw_t (List.mem_of_getElem? (i := 285) rfl) rfl
theorem kw_286 : Cond.methodLink "BigDesk" 95 ⟨"BigDesk", "keepLowest", "(II)I"⟩ ∈ gw := gw_t (List.mem_of_getElem? (i := 286) (by decide +kernel)) (by decide +kernel)
theorem kw_288 : Cond.instanceMethod ⟨"BigDesk", "keepLowest", "(II)I"⟩ ∈ gw := gw_t (List.mem_of_getElem? (i := 288) (by decide +kernel)) (by decide +kernel)
set_option maxRecDepth 20000 in
theorem kw_289 : Cond.code ⟨"BigDesk", "keepLowest", "(II)I"⟩ prog_1_method_29_code 4 (some .int) ∈ gw := gw_t (List.mem_of_getElem? (i := 289) rfl) rfl
theorem kw_290 : Cond.methodLink "BigDesk" 139 ⟨"BigDesk$Whole", "turnSign", "()V"⟩ ∈ gw := gw_t (List.mem_of_getElem? (i := 290) (by decide +kernel)) (by decide +kernel)
theorem kw_291 : Cond.instanceMethod ⟨"BigDesk$Whole", "turnSign", "()V"⟩ ∈ gw := gw_t (List.mem_of_getElem? (i := 291) (by decide +kernel)) (by decide +kernel)
theorem kw_292 : Cond.selects "BigDesk$Whole" ⟨"BigDesk$Whole", "turnSign", "()V"⟩ ⟨"BigDesk$Whole", "turnSign", "()V"⟩ ∈ gw := gw_t (List.mem_of_getElem? (i := 292) (by decide +kernel)) (by decide +kernel)
set_option maxRecDepth 20000 in
theorem kw_293 : Cond.code ⟨"BigDesk$Whole", "turnSign", "()V"⟩ prog_3_method_4_code 1 none ∈ gw := gw_t (List.mem_of_getElem? (i := 293) rfl) rfl
theorem kw_294 : Cond.methodLink "BigDeskLaw" 66 ⟨"BigDesk", "fraction", "(IIII)I"⟩ ∈ gw := gw_t (List.mem_of_getElem? (i := 294) (by decide +kernel)) (by decide +kernel)
theorem kw_295 : Cond.instanceMethod ⟨"BigDesk", "fraction", "(IIII)I"⟩ ∈ gw := gw_t (List.mem_of_getElem? (i := 295) (by decide +kernel)) (by decide +kernel)
theorem kw_296 : Cond.selects "BigDesk" ⟨"BigDesk", "fraction", "(IIII)I"⟩ ⟨"BigDesk", "fraction", "(IIII)I"⟩ ∈ gw := gw_t (List.mem_of_getElem? (i := 296) (by decide +kernel)) (by decide +kernel)
set_option maxRecDepth 20000 in
theorem kw_297 : Cond.code ⟨"BigDesk", "fraction", "(IIII)I"⟩ prog_1_method_14_code 5 (some .int) ∈ gw := gw_t (List.mem_of_getElem? (i := 297) rfl) rfl
theorem kw_298 : Cond.methodLink "BigDesk" 99 ⟨"BigDesk", "areFractions", "(IIII)Z"⟩ ∈ gw := gw_t (List.mem_of_getElem? (i := 298) (by decide +kernel)) (by decide +kernel)
theorem kw_300 : Cond.instanceMethod ⟨"BigDesk", "areFractions", "(IIII)Z"⟩ ∈ gw := gw_t (List.mem_of_getElem? (i := 300) (by decide +kernel)) (by decide +kernel)
set_option maxRecDepth 20000 in
theorem kw_301 : Cond.code ⟨"BigDesk", "areFractions", "(IIII)Z"⟩ prog_1_method_24_code 5 (some .boolean) ∈ gw := gw_t (List.mem_of_getElem? (i := 301) rfl) rfl
theorem kw_302 : Cond.methodLink "BigDeskLaw" 71 ⟨"BigDesk", "order", "(II)I"⟩ ∈ gw := gw_t (List.mem_of_getElem? (i := 302) (by decide +kernel)) (by decide +kernel)
theorem kw_303 : Cond.instanceMethod ⟨"BigDesk", "order", "(II)I"⟩ ∈ gw := gw_t (List.mem_of_getElem? (i := 303) (by decide +kernel)) (by decide +kernel)
theorem kw_304 : Cond.selects "BigDesk" ⟨"BigDesk", "order", "(II)I"⟩ ⟨"BigDesk", "order", "(II)I"⟩ ∈ gw := gw_t (List.mem_of_getElem? (i := 304) (by decide +kernel)) (by decide +kernel)
set_option maxRecDepth 20000 in
theorem kw_305 : Cond.code ⟨"BigDesk", "order", "(II)I"⟩ prog_1_method_15_code 3 (some .int) ∈ gw := gw_t (List.mem_of_getElem? (i := 305) rfl) rfl
theorem kw_306 : Cond.methodLink "BigDesk" 103 ⟨"BigDesk$Whole", "compareWhole", "(LBigDesk$Whole;)I"⟩ ∈ gw := gw_t (List.mem_of_getElem? (i := 306) (by decide +kernel)) (by decide +kernel)
theorem kw_307 : Cond.instanceMethod ⟨"BigDesk$Whole", "compareWhole", "(LBigDesk$Whole;)I"⟩ ∈ gw := gw_t (List.mem_of_getElem? (i := 307) (by decide +kernel)) (by decide +kernel)
theorem kw_308 : Cond.selects "BigDesk$Whole" ⟨"BigDesk$Whole", "compareWhole", "(LBigDesk$Whole;)I"⟩ ⟨"BigDesk$Whole", "compareWhole", "(LBigDesk$Whole;)I"⟩ ∈ gw := gw_t (List.mem_of_getElem? (i := 308) (by decide +kernel)) (by decide +kernel)
set_option maxRecDepth 20000 in
theorem kw_309 : Cond.code ⟨"BigDesk$Whole", "compareWhole", "(LBigDesk$Whole;)I"⟩ prog_3_method_16_code 2 (some .int) ∈ gw := gw_t (List.mem_of_getElem? (i := 309) rfl) rfl
theorem kw_310 : Cond.methodLink "BigDeskLaw" 75 ⟨"BigDesk", "ratio", "(IIII)I"⟩ ∈ gw := gw_t (List.mem_of_getElem? (i := 310) (by decide +kernel)) (by decide +kernel)
theorem kw_311 : Cond.instanceMethod ⟨"BigDesk", "ratio", "(IIII)I"⟩ ∈ gw := gw_t (List.mem_of_getElem? (i := 311) (by decide +kernel)) (by decide +kernel)
theorem kw_312 : Cond.selects "BigDesk" ⟨"BigDesk", "ratio", "(IIII)I"⟩ ⟨"BigDesk", "ratio", "(IIII)I"⟩ ∈ gw := gw_t (List.mem_of_getElem? (i := 312) (by decide +kernel)) (by decide +kernel)
set_option maxRecDepth 20000 in
theorem kw_313 : Cond.code ⟨"BigDesk", "ratio", "(IIII)I"⟩ prog_1_method_16_code 6 (some .int) ∈ gw := gw_t (List.mem_of_getElem? (i := 313) rfl) rfl
theorem kw_314 : Cond.methodLink "BigDeskLaw" 79 ⟨"BigDesk", "sign", "(I)I"⟩ ∈ gw := gw_t (List.mem_of_getElem? (i := 314) (by decide +kernel)) (by decide +kernel)
theorem kw_315 : Cond.instanceMethod ⟨"BigDesk", "sign", "(I)I"⟩ ∈ gw := gw_t (List.mem_of_getElem? (i := 315) (by decide +kernel)) (by decide +kernel)
theorem kw_316 : Cond.selects "BigDesk" ⟨"BigDesk", "sign", "(I)I"⟩ ⟨"BigDesk", "sign", "(I)I"⟩ ∈ gw := gw_t (List.mem_of_getElem? (i := 316) (by decide +kernel)) (by decide +kernel)
set_option maxRecDepth 20000 in
theorem kw_317 : Cond.code ⟨"BigDesk", "sign", "(I)I"⟩ prog_1_method_17_code 2 (some .int) ∈ gw := gw_t (List.mem_of_getElem? (i := 317) rfl) rfl
theorem kw_318 : Cond.methodLink "BigDeskLaw" 84 ⟨"BigDesk", "digits", "(I)I"⟩ ∈ gw := gw_t (List.mem_of_getElem? (i := 318) (by decide +kernel)) (by decide +kernel)
theorem kw_319 : Cond.instanceMethod ⟨"BigDesk", "digits", "(I)I"⟩ ∈ gw := gw_t (List.mem_of_getElem? (i := 319) (by decide +kernel)) (by decide +kernel)
theorem kw_320 : Cond.selects "BigDesk" ⟨"BigDesk", "digits", "(I)I"⟩ ⟨"BigDesk", "digits", "(I)I"⟩ ∈ gw := gw_t (List.mem_of_getElem? (i := 320) (by decide +kernel)) (by decide +kernel)
set_option maxRecDepth 20000 in
theorem kw_321 : Cond.code ⟨"BigDesk", "digits", "(I)I"⟩ prog_1_method_18_code 2 (some .int) ∈ gw := gw_t (List.mem_of_getElem? (i := 321) rfl) rfl
theorem kw_322 : Cond.methodLink "BigDesk" 107 ⟨"BigDesk$Whole", "countDigits", "()I"⟩ ∈ gw := gw_t (List.mem_of_getElem? (i := 322) (by decide +kernel)) (by decide +kernel)
theorem kw_323 : Cond.instanceMethod ⟨"BigDesk$Whole", "countDigits", "()I"⟩ ∈ gw := gw_t (List.mem_of_getElem? (i := 323) (by decide +kernel)) (by decide +kernel)
theorem kw_324 : Cond.selects "BigDesk$Whole" ⟨"BigDesk$Whole", "countDigits", "()I"⟩ ⟨"BigDesk$Whole", "countDigits", "()I"⟩ ∈ gw := gw_t (List.mem_of_getElem? (i := 324) (by decide +kernel)) (by decide +kernel)
set_option maxRecDepth 20000 in
theorem kw_325 : Cond.code ⟨"BigDesk$Whole", "countDigits", "()I"⟩ prog_3_method_24_code 3 (some .int) ∈ gw := gw_t (List.mem_of_getElem? (i := 325) rfl) rfl
theorem kw_328 : Cond.methodLink "BigDeskLaw" 88 ⟨"BigDesk", "digitAt", "(II)I"⟩ ∈ gw := gw_t (List.mem_of_getElem? (i := 328) (by decide +kernel)) (by decide +kernel)
theorem kw_329 : Cond.instanceMethod ⟨"BigDesk", "digitAt", "(II)I"⟩ ∈ gw := gw_t (List.mem_of_getElem? (i := 329) (by decide +kernel)) (by decide +kernel)
theorem kw_330 : Cond.selects "BigDesk" ⟨"BigDesk", "digitAt", "(II)I"⟩ ⟨"BigDesk", "digitAt", "(II)I"⟩ ∈ gw := gw_t (List.mem_of_getElem? (i := 330) (by decide +kernel)) (by decide +kernel)
set_option maxRecDepth 20000 in
theorem kw_331 : Cond.code ⟨"BigDesk", "digitAt", "(II)I"⟩ prog_1_method_19_code 3 (some .int) ∈ gw := gw_t (List.mem_of_getElem? (i := 331) rfl) rfl
theorem kw_332 : Cond.methodLink "BigDesk" 111 ⟨"BigDesk$Whole", "digitOfPlace", "(I)I"⟩ ∈ gw := gw_t (List.mem_of_getElem? (i := 332) (by decide +kernel)) (by decide +kernel)
theorem kw_333 : Cond.instanceMethod ⟨"BigDesk$Whole", "digitOfPlace", "(I)I"⟩ ∈ gw := gw_t (List.mem_of_getElem? (i := 333) (by decide +kernel)) (by decide +kernel)
theorem kw_334 : Cond.selects "BigDesk$Whole" ⟨"BigDesk$Whole", "digitOfPlace", "(I)I"⟩ ⟨"BigDesk$Whole", "digitOfPlace", "(I)I"⟩ ∈ gw := gw_t (List.mem_of_getElem? (i := 334) (by decide +kernel)) (by decide +kernel)
set_option maxRecDepth 20000 in
theorem kw_335 : Cond.code ⟨"BigDesk$Whole", "digitOfPlace", "(I)I"⟩ prog_3_method_25_code 2 (some .int) ∈ gw := gw_t (List.mem_of_getElem? (i := 335) rfl) rfl
theorem kw_336 : Cond.methodLink "BigDeskLaw" 92 ⟨"BigDesk", "modulo", "(IJ)J"⟩ ∈ gw := gw_t (List.mem_of_getElem? (i := 336) (by decide +kernel)) (by decide +kernel)
theorem kw_337 : Cond.instanceMethod ⟨"BigDesk", "modulo", "(IJ)J"⟩ ∈ gw := gw_t (List.mem_of_getElem? (i := 337) (by decide +kernel)) (by decide +kernel)
theorem kw_338 : Cond.selects "BigDesk" ⟨"BigDesk", "modulo", "(IJ)J"⟩ ⟨"BigDesk", "modulo", "(IJ)J"⟩ ∈ gw := gw_t (List.mem_of_getElem? (i := 338) (by decide +kernel)) (by decide +kernel)
set_option maxRecDepth 20000 in
theorem kw_339 : Cond.code ⟨"BigDesk", "modulo", "(IJ)J"⟩ prog_1_method_20_code 4 (some .long) ∈ gw := gw_t (List.mem_of_getElem? (i := 339) rfl) rfl
theorem kw_340 : Cond.constantLong "BigDesk" 115 (1152921504606846976 : Int64) ∈ gw := gw_t (List.mem_of_getElem? (i := 340) (by decide +kernel)) (by decide +kernel)
theorem kw_341 : Cond.constantLong "BigDesk" 117 (-1 : Int64) ∈ gw := gw_t (List.mem_of_getElem? (i := 341) (by decide +kernel)) (by decide +kernel)
theorem kw_342 : Cond.methodLink "BigDesk" 119 ⟨"BigDesk$Whole", "remainder", "(J)J"⟩ ∈ gw := gw_t (List.mem_of_getElem? (i := 342) (by decide +kernel)) (by decide +kernel)
theorem kw_343 : Cond.instanceMethod ⟨"BigDesk$Whole", "remainder", "(J)J"⟩ ∈ gw := gw_t (List.mem_of_getElem? (i := 343) (by decide +kernel)) (by decide +kernel)
theorem kw_344 : Cond.selects "BigDesk$Whole" ⟨"BigDesk$Whole", "remainder", "(J)J"⟩ ⟨"BigDesk$Whole", "remainder", "(J)J"⟩ ∈ gw := gw_t (List.mem_of_getElem? (i := 344) (by decide +kernel)) (by decide +kernel)
set_option maxRecDepth 20000 in
theorem kw_345 : Cond.code ⟨"BigDesk$Whole", "remainder", "(J)J"⟩ prog_3_method_26_code 10 (some .long) ∈ gw := gw_t (List.mem_of_getElem? (i := 345) rfl) rfl
theorem kw_348 : Cond.methodLink "BigDeskLaw" 97 ⟨"BigDesk", "low", "(I)J"⟩ ∈ gw := gw_t (List.mem_of_getElem? (i := 348) (by decide +kernel)) (by decide +kernel)
theorem kw_349 : Cond.instanceMethod ⟨"BigDesk", "low", "(I)J"⟩ ∈ gw := gw_t (List.mem_of_getElem? (i := 349) (by decide +kernel)) (by decide +kernel)
theorem kw_350 : Cond.selects "BigDesk" ⟨"BigDesk", "low", "(I)J"⟩ ⟨"BigDesk", "low", "(I)J"⟩ ∈ gw := gw_t (List.mem_of_getElem? (i := 350) (by decide +kernel)) (by decide +kernel)
set_option maxRecDepth 20000 in
theorem kw_351 : Cond.code ⟨"BigDesk", "low", "(I)J"⟩ prog_1_method_21_code 2 (some .long) ∈ gw := gw_t (List.mem_of_getElem? (i := 351) rfl) rfl
theorem kw_352 : Cond.methodLink "BigDesk" 123 ⟨"BigDesk$Whole", "lowBits", "()J"⟩ ∈ gw := gw_t (List.mem_of_getElem? (i := 352) (by decide +kernel)) (by decide +kernel)
theorem kw_353 : Cond.instanceMethod ⟨"BigDesk$Whole", "lowBits", "()J"⟩ ∈ gw := gw_t (List.mem_of_getElem? (i := 353) (by decide +kernel)) (by decide +kernel)
theorem kw_354 : Cond.selects "BigDesk$Whole" ⟨"BigDesk$Whole", "lowBits", "()J"⟩ ⟨"BigDesk$Whole", "lowBits", "()J"⟩ ∈ gw := gw_t (List.mem_of_getElem? (i := 354) (by decide +kernel)) (by decide +kernel)
set_option maxRecDepth 20000 in
theorem kw_355 : Cond.code ⟨"BigDesk$Whole", "lowBits", "()J"⟩ prog_3_method_27_code 4 (some .long) ∈ gw := gw_t (List.mem_of_getElem? (i := 355) rfl) rfl
theorem kw_356 : Cond.classLink "BigDeskLaw" 10 "BigDeskModel" ∈ gw := gw_t (List.mem_of_getElem? (i := 356) (by decide +kernel)) (by decide +kernel)
theorem kw_357 : Cond.instantiable "BigDeskModel" 4 ∈ gw := gw_t (List.mem_of_getElem? (i := 357) (by decide +kernel)) (by decide +kernel)
theorem kw_358 : Cond.methodLink "BigDeskLaw" 12 ⟨"BigDeskModel", "<init>", "()V"⟩ ∈ gw := gw_t (List.mem_of_getElem? (i := 358) (by decide +kernel)) (by decide +kernel)
theorem kw_359 : Cond.instanceMethod ⟨"BigDeskModel", "<init>", "()V"⟩ ∈ gw := gw_t (List.mem_of_getElem? (i := 359) (by decide +kernel)) (by decide +kernel)
set_option maxRecDepth 20000 in
theorem kw_360 : Cond.code ⟨"BigDeskModel", "<init>", "()V"⟩ prog_5_method_1_code 2 none ∈ gw := gw_t (List.mem_of_getElem? (i := 360) rfl) rfl
theorem kw_361 : Cond.methodLink "BigDeskModel" 1 ⟨"java/lang/Object", "<init>", "()V"⟩ ∈ gw := gw_t (List.mem_of_getElem? (i := 361) (by decide +kernel)) (by decide +kernel)
theorem kw_362 : Cond.methodLink "BigDeskModel" 23 ⟨"BigDeskModel", "put", "(IJ)V"⟩ ∈ gw := gw_t (List.mem_of_getElem? (i := 362) (by decide +kernel)) (by decide +kernel)
theorem kw_364 : Cond.instanceMethod ⟨"BigDeskModel", "put", "(IJ)V"⟩ ∈ gw := gw_t (List.mem_of_getElem? (i := 364) (by decide +kernel)) (by decide +kernel)
set_option maxRecDepth 20000 in
theorem kw_365 : Cond.code ⟨"BigDeskModel", "put", "(IJ)V"⟩ prog_5_method_4_code 7 none ∈ gw := gw_t (List.mem_of_getElem? (i := 365) rfl) rfl
theorem kw_366 : Cond.constant "BigDeskModel" 37 (65535 : Int32) ∈ gw := gw_t (List.mem_of_getElem? (i := 366) (by decide +kernel)) (by decide +kernel)
theorem kw_367 : Cond.methodLink "BigDeskModel" 38 ⟨"BigDeskModel", "settle", "(II)V"⟩ ∈ gw := gw_t (List.mem_of_getElem? (i := 367) (by decide +kernel)) (by decide +kernel)
theorem kw_369 : Cond.instanceMethod ⟨"BigDeskModel", "settle", "(II)V"⟩ ∈ gw := gw_t (List.mem_of_getElem? (i := 369) (by decide +kernel)) (by decide +kernel)
set_option maxRecDepth 20000 in
theorem kw_370 : Cond.code ⟨"BigDeskModel", "settle", "(II)V"⟩ prog_5_method_3_code 5 none ∈ gw := gw_t (List.mem_of_getElem? (i := 370) rfl) rfl
theorem kw_371 : Cond.methodLink "BigDeskModel" 33 ⟨"BigDeskModel", "at", "(II)I"⟩ ∈ gw := gw_t (List.mem_of_getElem? (i := 371) (by decide +kernel)) (by decide +kernel)
theorem kw_373 : Cond.instanceMethod ⟨"BigDeskModel", "at", "(II)I"⟩ ∈ gw := gw_t (List.mem_of_getElem? (i := 373) (by decide +kernel)) (by decide +kernel)
set_option maxRecDepth 20000 in
theorem kw_374 : Cond.code ⟨"BigDeskModel", "at", "(II)I"⟩ prog_5_method_2_code 3 (some .int) ∈ gw := gw_t (List.mem_of_getElem? (i := 374) rfl) rfl
theorem kw_375 : Cond.constantLong "BigDeskModel" 27 (10 : Int64) ∈ gw := gw_t (List.mem_of_getElem? (i := 375) (by decide +kernel)) (by decide +kernel)
theorem kw_376 : Cond.methodLink "BigDeskModel" 29 ⟨"BigDeskModel", "multiply", "(III)V"⟩ ∈ gw := gw_t (List.mem_of_getElem? (i := 376) (by decide +kernel)) (by decide +kernel)
theorem kw_378 : Cond.instanceMethod ⟨"BigDeskModel", "multiply", "(III)V"⟩ ∈ gw := gw_t (List.mem_of_getElem? (i := 378) (by decide +kernel)) (by decide +kernel)
set_option maxRecDepth 20000 in
theorem kw_379 : Cond.code ⟨"BigDeskModel", "multiply", "(III)V"⟩ prog_5_method_11_code 8 none ∈ gw := gw_t (List.mem_of_getElem? (i := 379) rfl) rfl
theorem kw_380 : Cond.constantLong "BigDeskModel" 51 (65535 : Int64) ∈ gw := gw_t (List.mem_of_getElem? (i := 380) (by decide +kernel)) (by decide +kernel)
theorem kw_381 : Cond.fieldLink "BigDeskModel" 7 "BigDeskModel" "limbs" "[I" ∈ gw := gw_t (List.mem_of_getElem? (i := 381) (by decide +kernel)) (by decide +kernel)
theorem kw_382 : Cond.fieldLink "BigDeskModel" 13 "BigDeskModel" "signs" "[I" ∈ gw := gw_t (List.mem_of_getElem? (i := 382) (by decide +kernel)) (by decide +kernel)
theorem kw_383 : Cond.fieldLink "BigDeskModel" 16 "BigDeskModel" "sums" "[J" ∈ gw := gw_t (List.mem_of_getElem? (i := 383) (by decide +kernel)) (by decide +kernel)
theorem kw_384 : Cond.fieldLink "BigDeskModel" 20 "BigDeskModel" "digits" "[I" ∈ gw := gw_t (List.mem_of_getElem? (i := 384) (by decide +kernel)) (by decide +kernel)
theorem kw_385 : Cond.laysFinal "BigDeskModel" "BigDeskModel" "limbs" "[I" ∈ gw := gw_t (List.mem_of_getElem? (i := 385) (by decide +kernel)) (by decide +kernel)
theorem kw_386 : Cond.soleField "BigDeskModel" "limbs" ∈ gw := gw_t (List.mem_of_getElem? (i := 386) (by decide +kernel)) (by decide +kernel)
theorem kw_387 : Cond.laysFinal "BigDeskModel" "BigDeskModel" "signs" "[I" ∈ gw := gw_t (List.mem_of_getElem? (i := 387) (by decide +kernel)) (by decide +kernel)
theorem kw_388 : Cond.soleField "BigDeskModel" "signs" ∈ gw := gw_t (List.mem_of_getElem? (i := 388) (by decide +kernel)) (by decide +kernel)
theorem kw_389 : Cond.laysFinal "BigDeskModel" "BigDeskModel" "sums" "[J" ∈ gw := gw_t (List.mem_of_getElem? (i := 389) (by decide +kernel)) (by decide +kernel)
theorem kw_390 : Cond.soleField "BigDeskModel" "sums" ∈ gw := gw_t (List.mem_of_getElem? (i := 390) (by decide +kernel)) (by decide +kernel)
theorem kw_391 : Cond.laysFinal "BigDeskModel" "BigDeskModel" "digits" "[I" ∈ gw := gw_t (List.mem_of_getElem? (i := 391) (by decide +kernel)) (by decide +kernel)
theorem kw_392 : Cond.soleField "BigDeskModel" "digits" ∈ gw := gw_t (List.mem_of_getElem? (i := 392) (by decide +kernel)) (by decide +kernel)
theorem kw_393 : Cond.superclass "BigDeskModel" "java/lang/Object" ∈ gw := gw_t (List.mem_of_getElem? (i := 393) (by decide +kernel)) (by decide +kernel)
theorem kw_394 : Cond.arrayClass .long ∈ gw := gw_t (List.mem_of_getElem? (i := 394) (by decide +kernel)) (by decide +kernel)
theorem kw_395 : Cond.methodLink "BigDeskLaw" 19 ⟨"BigDeskModel", "set", "(IJ)I"⟩ ∈ gw := gw_t (List.mem_of_getElem? (i := 395) (by decide +kernel)) (by decide +kernel)
theorem kw_396 : Cond.instanceMethod ⟨"BigDeskModel", "set", "(IJ)I"⟩ ∈ gw := gw_t (List.mem_of_getElem? (i := 396) (by decide +kernel)) (by decide +kernel)
theorem kw_397 : Cond.selects "BigDeskModel" ⟨"BigDeskModel", "set", "(IJ)I"⟩ ⟨"BigDeskModel", "set", "(IJ)I"⟩ ∈ gw := gw_t (List.mem_of_getElem? (i := 397) (by decide +kernel)) (by decide +kernel)
set_option maxRecDepth 20000 in
theorem kw_398 : Cond.code ⟨"BigDeskModel", "set", "(IJ)I"⟩ prog_5_method_22_code 4 (some .int) ∈ gw := gw_t (List.mem_of_getElem? (i := 398) rfl) rfl
theorem kw_399 : Cond.methodLink "BigDeskModel" 69 ⟨"BigDeskModel", "isSlot", "(I)Z"⟩ ∈ gw := gw_t (List.mem_of_getElem? (i := 399) (by decide +kernel)) (by decide +kernel)
theorem kw_400 : Cond.static ⟨"BigDeskModel", "isSlot", "(I)Z"⟩ ∈ gw := gw_t (List.mem_of_getElem? (i := 400) (by decide +kernel)) (by decide +kernel)
set_option maxRecDepth 20000 in
theorem kw_401 : Cond.code ⟨"BigDeskModel", "isSlot", "(I)Z"⟩ prog_5_method_18_code 1 (some .boolean) ∈ gw := gw_t (List.mem_of_getElem? (i := 401) rfl) rfl
theorem kw_402 : Cond.methodLink "BigDeskLaw" 24 ⟨"BigDeskModel", "digit", "(II)I"⟩ ∈ gw := gw_t (List.mem_of_getElem? (i := 402) (by decide +kernel)) (by decide +kernel)
theorem kw_403 : Cond.instanceMethod ⟨"BigDeskModel", "digit", "(II)I"⟩ ∈ gw := gw_t (List.mem_of_getElem? (i := 403) (by decide +kernel)) (by decide +kernel)
theorem kw_404 : Cond.selects "BigDeskModel" ⟨"BigDeskModel", "digit", "(II)I"⟩ ⟨"BigDeskModel", "digit", "(II)I"⟩ ∈ gw := gw_t (List.mem_of_getElem? (i := 404) (by decide +kernel)) (by decide +kernel)
set_option maxRecDepth 20000 in
theorem kw_405 : Cond.code ⟨"BigDeskModel", "digit", "(II)I"⟩ prog_5_method_23_code 3 (some .int) ∈ gw := gw_t (List.mem_of_getElem? (i := 405) rfl) rfl
theorem kw_406 : Cond.methodLink "BigDeskModel" 76 ⟨"BigDeskModel", "combine", "(IIII)V"⟩ ∈ gw := gw_t (List.mem_of_getElem? (i := 406) (by decide +kernel)) (by decide +kernel)
theorem kw_408 : Cond.instanceMethod ⟨"BigDeskModel", "combine", "(IIII)V"⟩ ∈ gw := gw_t (List.mem_of_getElem? (i := 408) (by decide +kernel)) (by decide +kernel)
set_option maxRecDepth 20000 in
theorem kw_409 : Cond.code ⟨"BigDeskModel", "combine", "(IIII)V"⟩ prog_5_method_10_code 7 none ∈ gw := gw_t (List.mem_of_getElem? (i := 409) rfl) rfl
theorem kw_410 : Cond.methodLink "BigDeskModel" 45 ⟨"BigDeskModel", "addSizes", "(III)V"⟩ ∈ gw := gw_t (List.mem_of_getElem? (i := 410) (by decide +kernel)) (by decide +kernel)
theorem kw_412 : Cond.instanceMethod ⟨"BigDeskModel", "addSizes", "(III)V"⟩ ∈ gw := gw_t (List.mem_of_getElem? (i := 412) (by decide +kernel)) (by decide +kernel)
set_option maxRecDepth 20000 in
theorem kw_413 : Cond.code ⟨"BigDeskModel", "addSizes", "(III)V"⟩ prog_5_method_8_code 6 none ∈ gw := gw_t (List.mem_of_getElem? (i := 413) rfl) rfl
theorem kw_414 : Cond.methodLink "BigDeskModel" 42 ⟨"BigDeskModel", "sizes", "(II)I"⟩ ∈ gw := gw_t (List.mem_of_getElem? (i := 414) (by decide +kernel)) (by decide +kernel)
theorem kw_416 : Cond.instanceMethod ⟨"BigDeskModel", "sizes", "(II)I"⟩ ∈ gw := gw_t (List.mem_of_getElem? (i := 416) (by decide +kernel)) (by decide +kernel)
set_option maxRecDepth 20000 in
theorem kw_417 : Cond.code ⟨"BigDeskModel", "sizes", "(II)I"⟩ prog_5_method_6_code 4 (some .int) ∈ gw := gw_t (List.mem_of_getElem? (i := 417) rfl) rfl
theorem kw_418 : Cond.methodLink "BigDeskModel" 48 ⟨"BigDeskModel", "takeSizes", "(III)V"⟩ ∈ gw := gw_t (List.mem_of_getElem? (i := 418) (by decide +kernel)) (by decide +kernel)
theorem kw_420 : Cond.instanceMethod ⟨"BigDeskModel", "takeSizes", "(III)V"⟩ ∈ gw := gw_t (List.mem_of_getElem? (i := 420) (by decide +kernel)) (by decide +kernel)
set_option maxRecDepth 20000 in
theorem kw_421 : Cond.code ⟨"BigDeskModel", "takeSizes", "(III)V"⟩ prog_5_method_9_code 6 none ∈ gw := gw_t (List.mem_of_getElem? (i := 421) rfl) rfl
theorem kw_422 : Cond.methodLink "BigDeskModel" 80 ⟨"BigDeskModel", "keep", "(II)I"⟩ ∈ gw := gw_t (List.mem_of_getElem? (i := 422) (by decide +kernel)) (by decide +kernel)
theorem kw_424 : Cond.instanceMethod ⟨"BigDeskModel", "keep", "(II)I"⟩ ∈ gw := gw_t (List.mem_of_getElem? (i := 424) (by decide +kernel)) (by decide +kernel)
set_option maxRecDepth 20000 in
theorem kw_425 : Cond.code ⟨"BigDeskModel", "keep", "(II)I"⟩ prog_5_method_21_code 3 (some .int) ∈ gw := gw_t (List.mem_of_getElem? (i := 425) rfl) rfl
theorem kw_426 : Cond.methodLink "BigDeskModel" 73 ⟨"BigDeskModel", "isLong", "(I)Z"⟩ ∈ gw := gw_t (List.mem_of_getElem? (i := 426) (by decide +kernel)) (by decide +kernel)
theorem kw_428 : Cond.instanceMethod ⟨"BigDeskModel", "isLong", "(I)Z"⟩ ∈ gw := gw_t (List.mem_of_getElem? (i := 428) (by decide +kernel)) (by decide +kernel)
set_option maxRecDepth 20000 in
theorem kw_429 : Cond.code ⟨"BigDeskModel", "isLong", "(I)Z"⟩ prog_5_method_20_code 2 (some .boolean) ∈ gw := gw_t (List.mem_of_getElem? (i := 429) rfl) rfl
theorem kw_430 : Cond.methodLink "BigDeskModel" 59 ⟨"BigDeskModel", "move", "(II)V"⟩ ∈ gw := gw_t (List.mem_of_getElem? (i := 430) (by decide +kernel)) (by decide +kernel)
theorem kw_432 : Cond.instanceMethod ⟨"BigDeskModel", "move", "(II)V"⟩ ∈ gw := gw_t (List.mem_of_getElem? (i := 432) (by decide +kernel)) (by decide +kernel)
set_option maxRecDepth 20000 in
theorem kw_433 : Cond.code ⟨"BigDeskModel", "move", "(II)V"⟩ prog_5_method_5_code 4 none ∈ gw := gw_t (List.mem_of_getElem? (i := 433) rfl) rfl
theorem kw_434 : Cond.methodLink "BigDeskLaw" 28 ⟨"BigDeskModel", "copy", "(II)I"⟩ ∈ gw := gw_t (List.mem_of_getElem? (i := 434) (by decide +kernel)) (by decide +kernel)
theorem kw_435 : Cond.instanceMethod ⟨"BigDeskModel", "copy", "(II)I"⟩ ∈ gw := gw_t (List.mem_of_getElem? (i := 435) (by decide +kernel)) (by decide +kernel)
theorem kw_436 : Cond.selects "BigDeskModel" ⟨"BigDeskModel", "copy", "(II)I"⟩ ⟨"BigDeskModel", "copy", "(II)I"⟩ ∈ gw := gw_t (List.mem_of_getElem? (i := 436) (by decide +kernel)) (by decide +kernel)
set_option maxRecDepth 20000 in
theorem kw_437 : Cond.code ⟨"BigDeskModel", "copy", "(II)I"⟩ prog_5_method_24_code 3 (some .int) ∈ gw := gw_t (List.mem_of_getElem? (i := 437) rfl) rfl
theorem kw_438 : Cond.methodLink "BigDeskLaw" 33 ⟨"BigDeskModel", "sum", "(III)I"⟩ ∈ gw := gw_t (List.mem_of_getElem? (i := 438) (by decide +kernel)) (by decide +kernel)
theorem kw_439 : Cond.instanceMethod ⟨"BigDeskModel", "sum", "(III)I"⟩ ∈ gw := gw_t (List.mem_of_getElem? (i := 439) (by decide +kernel)) (by decide +kernel)
theorem kw_440 : Cond.selects "BigDeskModel" ⟨"BigDeskModel", "sum", "(III)I"⟩ ⟨"BigDeskModel", "sum", "(III)I"⟩ ∈ gw := gw_t (List.mem_of_getElem? (i := 440) (by decide +kernel)) (by decide +kernel)
set_option maxRecDepth 20000 in
theorem kw_441 : Cond.code ⟨"BigDeskModel", "sum", "(III)I"⟩ prog_5_method_25_code 4 (some .int) ∈ gw := gw_t (List.mem_of_getElem? (i := 441) rfl) rfl
theorem kw_442 : Cond.methodLink "BigDeskModel" 83 ⟨"BigDeskModel", "are", "(III)Z"⟩ ∈ gw := gw_t (List.mem_of_getElem? (i := 442) (by decide +kernel)) (by decide +kernel)
theorem kw_443 : Cond.static ⟨"BigDeskModel", "are", "(III)Z"⟩ ∈ gw := gw_t (List.mem_of_getElem? (i := 443) (by decide +kernel)) (by decide +kernel)
set_option maxRecDepth 20000 in
theorem kw_444 : Cond.code ⟨"BigDeskModel", "are", "(III)Z"⟩ prog_5_method_19_code 3 (some .boolean) ∈ gw := gw_t (List.mem_of_getElem? (i := 444) rfl) rfl
theorem kw_445 : Cond.methodLink "BigDeskLaw" 37 ⟨"BigDeskModel", "less", "(III)I"⟩ ∈ gw := gw_t (List.mem_of_getElem? (i := 445) (by decide +kernel)) (by decide +kernel)
theorem kw_446 : Cond.instanceMethod ⟨"BigDeskModel", "less", "(III)I"⟩ ∈ gw := gw_t (List.mem_of_getElem? (i := 446) (by decide +kernel)) (by decide +kernel)
theorem kw_447 : Cond.selects "BigDeskModel" ⟨"BigDeskModel", "less", "(III)I"⟩ ⟨"BigDeskModel", "less", "(III)I"⟩ ∈ gw := gw_t (List.mem_of_getElem? (i := 447) (by decide +kernel)) (by decide +kernel)
set_option maxRecDepth 20000 in
theorem kw_448 : Cond.code ⟨"BigDeskModel", "less", "(III)I"⟩ prog_5_method_26_code 4 (some .int) ∈ gw := gw_t (List.mem_of_getElem? (i := 448) rfl) rfl
theorem kw_449 : Cond.methodLink "BigDeskLaw" 41 ⟨"BigDeskModel", "product", "(III)I"⟩ ∈ gw := gw_t (List.mem_of_getElem? (i := 449) (by decide +kernel)) (by decide +kernel)
theorem kw_450 : Cond.instanceMethod ⟨"BigDeskModel", "product", "(III)I"⟩ ∈ gw := gw_t (List.mem_of_getElem? (i := 450) (by decide +kernel)) (by decide +kernel)
theorem kw_451 : Cond.selects "BigDeskModel" ⟨"BigDeskModel", "product", "(III)I"⟩ ⟨"BigDeskModel", "product", "(III)I"⟩ ∈ gw := gw_t (List.mem_of_getElem? (i := 451) (by decide +kernel)) (by decide +kernel)
set_option maxRecDepth 20000 in
theorem kw_452 : Cond.code ⟨"BigDeskModel", "product", "(III)I"⟩ prog_5_method_27_code 4 (some .int) ∈ gw := gw_t (List.mem_of_getElem? (i := 452) rfl) rfl
theorem kw_453 : Cond.methodLink "BigDeskLaw" 45 ⟨"BigDeskModel", "over", "(III)I"⟩ ∈ gw := gw_t (List.mem_of_getElem? (i := 453) (by decide +kernel)) (by decide +kernel)
theorem kw_454 : Cond.instanceMethod ⟨"BigDeskModel", "over", "(III)I"⟩ ∈ gw := gw_t (List.mem_of_getElem? (i := 454) (by decide +kernel)) (by decide +kernel)
theorem kw_455 : Cond.selects "BigDeskModel" ⟨"BigDeskModel", "over", "(III)I"⟩ ⟨"BigDeskModel", "over", "(III)I"⟩ ∈ gw := gw_t (List.mem_of_getElem? (i := 455) (by decide +kernel)) (by decide +kernel)
set_option maxRecDepth 20000 in
theorem kw_456 : Cond.code ⟨"BigDeskModel", "over", "(III)I"⟩ prog_5_method_28_code 4 (some .int) ∈ gw := gw_t (List.mem_of_getElem? (i := 456) rfl) rfl
theorem kw_457 : Cond.methodLink "BigDeskModel" 87 ⟨"BigDeskModel", "divide", "(II)V"⟩ ∈ gw := gw_t (List.mem_of_getElem? (i := 457) (by decide +kernel)) (by decide +kernel)
theorem kw_459 : Cond.instanceMethod ⟨"BigDeskModel", "divide", "(II)V"⟩ ∈ gw := gw_t (List.mem_of_getElem? (i := 459) (by decide +kernel)) (by decide +kernel)
set_option maxRecDepth 20000 in
theorem kw_460 : Cond.code ⟨"BigDeskModel", "divide", "(II)V"⟩ prog_5_method_15_code 5 none ∈ gw := gw_t (List.mem_of_getElem? (i := 460) rfl) rfl
theorem kw_461 : Cond.methodLink "BigDeskModel" 53 ⟨"BigDeskModel", "bit", "(II)I"⟩ ∈ gw := gw_t (List.mem_of_getElem? (i := 461) (by decide +kernel)) (by decide +kernel)
theorem kw_463 : Cond.instanceMethod ⟨"BigDeskModel", "bit", "(II)I"⟩ ∈ gw := gw_t (List.mem_of_getElem? (i := 463) (by decide +kernel)) (by decide +kernel)
set_option maxRecDepth 20000 in
theorem kw_464 : Cond.code ⟨"BigDeskModel", "bit", "(II)I"⟩ prog_5_method_12_code 3 (some .int) ∈ gw := gw_t (List.mem_of_getElem? (i := 464) rfl) rfl
theorem kw_465 : Cond.methodLink "BigDeskModel" 56 ⟨"BigDeskModel", "twice", "(II)V"⟩ ∈ gw := gw_t (List.mem_of_getElem? (i := 465) (by decide +kernel)) (by decide +kernel)
theorem kw_467 : Cond.instanceMethod ⟨"BigDeskModel", "twice", "(II)V"⟩ ∈ gw := gw_t (List.mem_of_getElem? (i := 467) (by decide +kernel)) (by decide +kernel)
set_option maxRecDepth 20000 in
theorem kw_468 : Cond.code ⟨"BigDeskModel", "twice", "(II)V"⟩ prog_5_method_14_code 5 none ∈ gw := gw_t (List.mem_of_getElem? (i := 468) rfl) rfl
theorem kw_469 : Cond.methodLink "BigDeskLaw" 49 ⟨"BigDeskModel", "left", "(III)I"⟩ ∈ gw := gw_t (List.mem_of_getElem? (i := 469) (by decide +kernel)) (by decide +kernel)
theorem kw_470 : Cond.instanceMethod ⟨"BigDeskModel", "left", "(III)I"⟩ ∈ gw := gw_t (List.mem_of_getElem? (i := 470) (by decide +kernel)) (by decide +kernel)
theorem kw_471 : Cond.selects "BigDeskModel" ⟨"BigDeskModel", "left", "(III)I"⟩ ⟨"BigDeskModel", "left", "(III)I"⟩ ∈ gw := gw_t (List.mem_of_getElem? (i := 471) (by decide +kernel)) (by decide +kernel)
set_option maxRecDepth 20000 in
theorem kw_472 : Cond.code ⟨"BigDeskModel", "left", "(III)I"⟩ prog_5_method_29_code 4 (some .int) ∈ gw := gw_t (List.mem_of_getElem? (i := 472) rfl) rfl
theorem kw_473 : Cond.methodLink "BigDeskLaw" 53 ⟨"BigDeskModel", "divisor", "(III)I"⟩ ∈ gw := gw_t (List.mem_of_getElem? (i := 473) (by decide +kernel)) (by decide +kernel)
theorem kw_474 : Cond.instanceMethod ⟨"BigDeskModel", "divisor", "(III)I"⟩ ∈ gw := gw_t (List.mem_of_getElem? (i := 474) (by decide +kernel)) (by decide +kernel)
theorem kw_475 : Cond.selects "BigDeskModel" ⟨"BigDeskModel", "divisor", "(III)I"⟩ ⟨"BigDeskModel", "divisor", "(III)I"⟩ ∈ gw := gw_t (List.mem_of_getElem? (i := 475) (by decide +kernel)) (by decide +kernel)
set_option maxRecDepth 20000 in
theorem kw_476 : Cond.code ⟨"BigDeskModel", "divisor", "(III)I"⟩ prog_5_method_30_code 4 (some .int) ∈ gw := gw_t (List.mem_of_getElem? (i := 476) rfl) rfl
theorem kw_477 : Cond.methodLink "BigDeskModel" 90 ⟨"BigDeskModel", "common", "(II)V"⟩ ∈ gw := gw_t (List.mem_of_getElem? (i := 477) (by decide +kernel)) (by decide +kernel)
theorem kw_479 : Cond.instanceMethod ⟨"BigDeskModel", "common", "(II)V"⟩ ∈ gw := gw_t (List.mem_of_getElem? (i := 479) (by decide +kernel)) (by decide +kernel)
set_option maxRecDepth 20000 in
theorem kw_480 : Cond.code ⟨"BigDeskModel", "common", "(II)V"⟩ prog_5_method_17_code 5 none ∈ gw := gw_t (List.mem_of_getElem? (i := 480) rfl) rfl
theorem kw_481 : Cond.methodLink "BigDeskModel" 62 ⟨"BigDeskModel", "size", "(II)V"⟩ ∈ gw := gw_t (List.mem_of_getElem? (i := 481) (by decide +kernel)) (by decide +kernel)
theorem kw_483 : Cond.instanceMethod ⟨"BigDeskModel", "size", "(II)V"⟩ ∈ gw := gw_t (List.mem_of_getElem? (i := 483) (by decide +kernel)) (by decide +kernel)
set_option maxRecDepth 20000 in
theorem kw_484 : Cond.code ⟨"BigDeskModel", "size", "(II)V"⟩ prog_5_method_16_code 3 none ∈ gw := gw_t (List.mem_of_getElem? (i := 484) rfl) rfl
theorem kw_485 : Cond.methodLink "BigDeskModel" 65 ⟨"BigDeskModel", "half", "(I)V"⟩ ∈ gw := gw_t (List.mem_of_getElem? (i := 485) (by decide +kernel)) (by decide +kernel)
theorem kw_487 : Cond.instanceMethod ⟨"BigDeskModel", "half", "(I)V"⟩ ∈ gw := gw_t (List.mem_of_getElem? (i := 487) (by decide +kernel)) (by decide +kernel)
set_option maxRecDepth 20000 in
theorem kw_488 : Cond.code ⟨"BigDeskModel", "half", "(I)V"⟩ prog_5_method_13_code 4 none ∈ gw := gw_t (List.mem_of_getElem? (i := 488) rfl) rfl
theorem kw_489 : Cond.methodLink "BigDeskLaw" 57 ⟨"BigDeskModel", "root", "(II)I"⟩ ∈ gw := gw_t (List.mem_of_getElem? (i := 489) (by decide +kernel)) (by decide +kernel)
theorem kw_490 : Cond.instanceMethod ⟨"BigDeskModel", "root", "(II)I"⟩ ∈ gw := gw_t (List.mem_of_getElem? (i := 490) (by decide +kernel)) (by decide +kernel)
theorem kw_491 : Cond.selects "BigDeskModel" ⟨"BigDeskModel", "root", "(II)I"⟩ ⟨"BigDeskModel", "root", "(II)I"⟩ ∈ gw := gw_t (List.mem_of_getElem? (i := 491) (by decide +kernel)) (by decide +kernel)
set_option maxRecDepth 20000 in
theorem kw_492 : Cond.code ⟨"BigDeskModel", "root", "(II)I"⟩ prog_5_method_31_code 4 (some .int) ∈ gw := gw_t (List.mem_of_getElem? (i := 492) rfl) rfl
theorem kw_493 : Cond.methodLink "BigDeskLaw" 61 ⟨"BigDeskModel", "power", "(III)I"⟩ ∈ gw := gw_t (List.mem_of_getElem? (i := 493) (by decide +kernel)) (by decide +kernel)
theorem kw_494 : Cond.instanceMethod ⟨"BigDeskModel", "power", "(III)I"⟩ ∈ gw := gw_t (List.mem_of_getElem? (i := 494) (by decide +kernel)) (by decide +kernel)
theorem kw_495 : Cond.selects "BigDeskModel" ⟨"BigDeskModel", "power", "(III)I"⟩ ⟨"BigDeskModel", "power", "(III)I"⟩ ∈ gw := gw_t (List.mem_of_getElem? (i := 495) (by decide +kernel)) (by decide +kernel)
set_option maxRecDepth 20000 in
theorem kw_496 : Cond.code ⟨"BigDeskModel", "power", "(III)I"⟩ prog_5_method_32_code 5 (some .int) ∈ gw := gw_t (List.mem_of_getElem? (i := 496) rfl) rfl
theorem kw_497 : Cond.methodLink "BigDeskLaw" 65 ⟨"BigDeskModel", "lowest", "(II)I"⟩ ∈ gw := gw_t (List.mem_of_getElem? (i := 497) (by decide +kernel)) (by decide +kernel)
theorem kw_498 : Cond.instanceMethod ⟨"BigDeskModel", "lowest", "(II)I"⟩ ∈ gw := gw_t (List.mem_of_getElem? (i := 498) (by decide +kernel)) (by decide +kernel)
theorem kw_499 : Cond.selects "BigDeskModel" ⟨"BigDeskModel", "lowest", "(II)I"⟩ ⟨"BigDeskModel", "lowest", "(II)I"⟩ ∈ gw := gw_t (List.mem_of_getElem? (i := 499) (by decide +kernel)) (by decide +kernel)
set_option maxRecDepth 20000 in
theorem kw_500 : Cond.code ⟨"BigDeskModel", "lowest", "(II)I"⟩ prog_5_method_34_code 3 (some .int) ∈ gw := gw_t (List.mem_of_getElem? (i := 500) rfl) rfl
theorem kw_501 : Cond.methodLink "BigDeskModel" 93 ⟨"BigDeskModel", "keepFraction", "(II)I"⟩ ∈ gw := gw_t (List.mem_of_getElem? (i := 501) (by decide +kernel)) (by decide +kernel)
theorem kw_503 : Cond.instanceMethod ⟨"BigDeskModel", "keepFraction", "(II)I"⟩ ∈ gw := gw_t (List.mem_of_getElem? (i := 503) (by decide +kernel)) (by decide +kernel)
set_option maxRecDepth 20000 in
theorem kw_504 : Cond.code ⟨"BigDeskModel", "keepFraction", "(II)I"⟩ prog_5_method_33_code 4 (some .int) ∈ gw := gw_t (List.mem_of_getElem? (i := 504) rfl) rfl
theorem kw_505 : Cond.methodLink "BigDeskLaw" 70 ⟨"BigDeskModel", "fraction", "(IIII)I"⟩ ∈ gw := gw_t (List.mem_of_getElem? (i := 505) (by decide +kernel)) (by decide +kernel)
theorem kw_506 : Cond.instanceMethod ⟨"BigDeskModel", "fraction", "(IIII)I"⟩ ∈ gw := gw_t (List.mem_of_getElem? (i := 506) (by decide +kernel)) (by decide +kernel)
theorem kw_507 : Cond.selects "BigDeskModel" ⟨"BigDeskModel", "fraction", "(IIII)I"⟩ ⟨"BigDeskModel", "fraction", "(IIII)I"⟩ ∈ gw := gw_t (List.mem_of_getElem? (i := 507) (by decide +kernel)) (by decide +kernel)
set_option maxRecDepth 20000 in
theorem kw_508 : Cond.code ⟨"BigDeskModel", "fraction", "(IIII)I"⟩ prog_5_method_35_code 5 (some .int) ∈ gw := gw_t (List.mem_of_getElem? (i := 508) rfl) rfl
theorem kw_509 : Cond.methodLink "BigDeskLaw" 74 ⟨"BigDeskModel", "order", "(II)I"⟩ ∈ gw := gw_t (List.mem_of_getElem? (i := 509) (by decide +kernel)) (by decide +kernel)
theorem kw_510 : Cond.instanceMethod ⟨"BigDeskModel", "order", "(II)I"⟩ ∈ gw := gw_t (List.mem_of_getElem? (i := 510) (by decide +kernel)) (by decide +kernel)
theorem kw_511 : Cond.selects "BigDeskModel" ⟨"BigDeskModel", "order", "(II)I"⟩ ⟨"BigDeskModel", "order", "(II)I"⟩ ∈ gw := gw_t (List.mem_of_getElem? (i := 511) (by decide +kernel)) (by decide +kernel)
set_option maxRecDepth 20000 in
theorem kw_512 : Cond.code ⟨"BigDeskModel", "order", "(II)I"⟩ prog_5_method_36_code 3 (some .int) ∈ gw := gw_t (List.mem_of_getElem? (i := 512) rfl) rfl
theorem kw_513 : Cond.methodLink "BigDeskModel" 96 ⟨"BigDeskModel", "compare", "(II)I"⟩ ∈ gw := gw_t (List.mem_of_getElem? (i := 513) (by decide +kernel)) (by decide +kernel)
theorem kw_515 : Cond.instanceMethod ⟨"BigDeskModel", "compare", "(II)I"⟩ ∈ gw := gw_t (List.mem_of_getElem? (i := 515) (by decide +kernel)) (by decide +kernel)
set_option maxRecDepth 20000 in
theorem kw_516 : Cond.code ⟨"BigDeskModel", "compare", "(II)I"⟩ prog_5_method_7_code 3 (some .int) ∈ gw := gw_t (List.mem_of_getElem? (i := 516) rfl) rfl
theorem kw_517 : Cond.methodLink "BigDeskLaw" 78 ⟨"BigDeskModel", "ratio", "(IIII)I"⟩ ∈ gw := gw_t (List.mem_of_getElem? (i := 517) (by decide +kernel)) (by decide +kernel)
theorem kw_518 : Cond.instanceMethod ⟨"BigDeskModel", "ratio", "(IIII)I"⟩ ∈ gw := gw_t (List.mem_of_getElem? (i := 518) (by decide +kernel)) (by decide +kernel)
theorem kw_519 : Cond.selects "BigDeskModel" ⟨"BigDeskModel", "ratio", "(IIII)I"⟩ ⟨"BigDeskModel", "ratio", "(IIII)I"⟩ ∈ gw := gw_t (List.mem_of_getElem? (i := 519) (by decide +kernel)) (by decide +kernel)
set_option maxRecDepth 20000 in
theorem kw_520 : Cond.code ⟨"BigDeskModel", "ratio", "(IIII)I"⟩ prog_5_method_37_code 5 (some .int) ∈ gw := gw_t (List.mem_of_getElem? (i := 520) rfl) rfl
theorem kw_521 : Cond.methodLink "BigDeskLaw" 83 ⟨"BigDeskModel", "sign", "(I)I"⟩ ∈ gw := gw_t (List.mem_of_getElem? (i := 521) (by decide +kernel)) (by decide +kernel)
theorem kw_522 : Cond.instanceMethod ⟨"BigDeskModel", "sign", "(I)I"⟩ ∈ gw := gw_t (List.mem_of_getElem? (i := 522) (by decide +kernel)) (by decide +kernel)
theorem kw_523 : Cond.selects "BigDeskModel" ⟨"BigDeskModel", "sign", "(I)I"⟩ ⟨"BigDeskModel", "sign", "(I)I"⟩ ∈ gw := gw_t (List.mem_of_getElem? (i := 523) (by decide +kernel)) (by decide +kernel)
set_option maxRecDepth 20000 in
theorem kw_524 : Cond.code ⟨"BigDeskModel", "sign", "(I)I"⟩ prog_5_method_38_code 2 (some .int) ∈ gw := gw_t (List.mem_of_getElem? (i := 524) rfl) rfl
theorem kw_525 : Cond.methodLink "BigDeskLaw" 87 ⟨"BigDeskModel", "digits", "(I)I"⟩ ∈ gw := gw_t (List.mem_of_getElem? (i := 525) (by decide +kernel)) (by decide +kernel)
theorem kw_526 : Cond.instanceMethod ⟨"BigDeskModel", "digits", "(I)I"⟩ ∈ gw := gw_t (List.mem_of_getElem? (i := 526) (by decide +kernel)) (by decide +kernel)
theorem kw_527 : Cond.selects "BigDeskModel" ⟨"BigDeskModel", "digits", "(I)I"⟩ ⟨"BigDeskModel", "digits", "(I)I"⟩ ∈ gw := gw_t (List.mem_of_getElem? (i := 527) (by decide +kernel)) (by decide +kernel)
set_option maxRecDepth 20000 in
theorem kw_528 : Cond.code ⟨"BigDeskModel", "digits", "(I)I"⟩ prog_5_method_40_code 2 (some .int) ∈ gw := gw_t (List.mem_of_getElem? (i := 528) rfl) rfl
theorem kw_529 : Cond.methodLink "BigDeskModel" 99 ⟨"BigDeskModel", "spell", "(I)I"⟩ ∈ gw := gw_t (List.mem_of_getElem? (i := 529) (by decide +kernel)) (by decide +kernel)
theorem kw_531 : Cond.instanceMethod ⟨"BigDeskModel", "spell", "(I)I"⟩ ∈ gw := gw_t (List.mem_of_getElem? (i := 531) (by decide +kernel)) (by decide +kernel)
set_option maxRecDepth 20000 in
theorem kw_532 : Cond.code ⟨"BigDeskModel", "spell", "(I)I"⟩ prog_5_method_39_code 5 (some .int) ∈ gw := gw_t (List.mem_of_getElem? (i := 532) rfl) rfl
theorem kw_533 : Cond.methodLink "BigDeskLaw" 91 ⟨"BigDeskModel", "digitAt", "(II)I"⟩ ∈ gw := gw_t (List.mem_of_getElem? (i := 533) (by decide +kernel)) (by decide +kernel)
theorem kw_534 : Cond.instanceMethod ⟨"BigDeskModel", "digitAt", "(II)I"⟩ ∈ gw := gw_t (List.mem_of_getElem? (i := 534) (by decide +kernel)) (by decide +kernel)
theorem kw_535 : Cond.selects "BigDeskModel" ⟨"BigDeskModel", "digitAt", "(II)I"⟩ ⟨"BigDeskModel", "digitAt", "(II)I"⟩ ∈ gw := gw_t (List.mem_of_getElem? (i := 535) (by decide +kernel)) (by decide +kernel)
set_option maxRecDepth 20000 in
theorem kw_536 : Cond.code ⟨"BigDeskModel", "digitAt", "(II)I"⟩ prog_5_method_41_code 4 (some .int) ∈ gw := gw_t (List.mem_of_getElem? (i := 536) rfl) rfl
theorem kw_537 : Cond.methodLink "BigDeskLaw" 96 ⟨"BigDeskModel", "modulo", "(IJ)J"⟩ ∈ gw := gw_t (List.mem_of_getElem? (i := 537) (by decide +kernel)) (by decide +kernel)
theorem kw_538 : Cond.instanceMethod ⟨"BigDeskModel", "modulo", "(IJ)J"⟩ ∈ gw := gw_t (List.mem_of_getElem? (i := 538) (by decide +kernel)) (by decide +kernel)
theorem kw_539 : Cond.selects "BigDeskModel" ⟨"BigDeskModel", "modulo", "(IJ)J"⟩ ⟨"BigDeskModel", "modulo", "(IJ)J"⟩ ∈ gw := gw_t (List.mem_of_getElem? (i := 539) (by decide +kernel)) (by decide +kernel)
set_option maxRecDepth 20000 in
theorem kw_540 : Cond.code ⟨"BigDeskModel", "modulo", "(IJ)J"⟩ prog_5_method_42_code 7 (some .long) ∈ gw := gw_t (List.mem_of_getElem? (i := 540) rfl) rfl
theorem kw_541 : Cond.constantLong "BigDeskModel" 103 (1152921504606846976 : Int64) ∈ gw := gw_t (List.mem_of_getElem? (i := 541) (by decide +kernel)) (by decide +kernel)
theorem kw_542 : Cond.constantLong "BigDeskModel" 105 (-1 : Int64) ∈ gw := gw_t (List.mem_of_getElem? (i := 542) (by decide +kernel)) (by decide +kernel)
theorem kw_543 : Cond.constantLong "BigDeskModel" 107 (2 : Int64) ∈ gw := gw_t (List.mem_of_getElem? (i := 543) (by decide +kernel)) (by decide +kernel)
theorem kw_544 : Cond.methodLink "BigDeskLaw" 101 ⟨"BigDeskModel", "low", "(I)J"⟩ ∈ gw := gw_t (List.mem_of_getElem? (i := 544) (by decide +kernel)) (by decide +kernel)
theorem kw_545 : Cond.instanceMethod ⟨"BigDeskModel", "low", "(I)J"⟩ ∈ gw := gw_t (List.mem_of_getElem? (i := 545) (by decide +kernel)) (by decide +kernel)
theorem kw_546 : Cond.selects "BigDeskModel" ⟨"BigDeskModel", "low", "(I)J"⟩ ⟨"BigDeskModel", "low", "(I)J"⟩ ∈ gw := gw_t (List.mem_of_getElem? (i := 546) (by decide +kernel)) (by decide +kernel)
set_option maxRecDepth 20000 in
theorem kw_547 : Cond.code ⟨"BigDeskModel", "low", "(I)J"⟩ prog_5_method_43_code 5 (some .long) ∈ gw := gw_t (List.mem_of_getElem? (i := 547) rfl) rfl
theorem kw_548 : Cond.constantLong "BigDeskLaw" 13 (4294967295 : Int64) ∈ gw := gw_t (List.mem_of_getElem? (i := 548) (by decide +kernel)) (by decide +kernel)
theorem ks_0 : Cond.selects "BigDesk$Whole" ⟨"BigDesk$Whole", "addParts", "(LBigDesk$Whole;LBigDesk$Whole;)V"⟩ ⟨"BigDesk$Whole", "addParts", "(LBigDesk$Whole;LBigDesk$Whole;)V"⟩ ∈ gw := gw_s (List.mem_of_getElem? (i := 0) (by decide +kernel)) (by decide +kernel)
theorem ks_1 : Cond.selects "BigDesk$Whole" ⟨"BigDesk$Whole", "subtractParts", "(LBigDesk$Whole;LBigDesk$Whole;)V"⟩ ⟨"BigDesk$Whole", "subtractParts", "(LBigDesk$Whole;LBigDesk$Whole;)V"⟩ ∈ gw := gw_s (List.mem_of_getElem? (i := 1) (by decide +kernel)) (by decide +kernel)
theorem ks_2 : Cond.selects "BigDesk" ⟨"BigDesk", "keep", "(LBigDesk$Whole;I)I"⟩ ⟨"BigDesk", "keep", "(LBigDesk$Whole;I)I"⟩ ∈ gw := gw_s (List.mem_of_getElem? (i := 2) (by decide +kernel)) (by decide +kernel)
theorem ks_3 : Cond.selects "BigDesk" ⟨"BigDesk", "addOrTakeAway", "(IIIZ)I"⟩ ⟨"BigDesk", "addOrTakeAway", "(IIIZ)I"⟩ ∈ gw := gw_s (List.mem_of_getElem? (i := 3) (by decide +kernel)) (by decide +kernel)
theorem ks_4 : Cond.selects "BigDesk" ⟨"BigDesk", "divideSlots", "(II)Z"⟩ ⟨"BigDesk", "divideSlots", "(II)Z"⟩ ∈ gw := gw_s (List.mem_of_getElem? (i := 4) (by decide +kernel)) (by decide +kernel)
theorem ks_5 : Cond.selects "BigDesk$Whole" ⟨"BigDesk$Whole", "leadOfTwo", "()J"⟩ ⟨"BigDesk$Whole", "leadOfTwo", "()J"⟩ ∈ gw := gw_s (List.mem_of_getElem? (i := 5) (by decide +kernel)) (by decide +kernel)
theorem ks_6 : Cond.selects "BigDesk$Whole" ⟨"BigDesk$Whole", "takeAway", "(LBigDesk$Whole;JI)I"⟩ ⟨"BigDesk$Whole", "takeAway", "(LBigDesk$Whole;JI)I"⟩ ∈ gw := gw_s (List.mem_of_getElem? (i := 6) (by decide +kernel)) (by decide +kernel)
theorem ks_7 : Cond.selects "BigDesk$Whole" ⟨"BigDesk$Whole", "subtractTimes", "(LBigDesk$Whole;II)V"⟩ ⟨"BigDesk$Whole", "subtractTimes", "(LBigDesk$Whole;II)V"⟩ ∈ gw := gw_s (List.mem_of_getElem? (i := 7) (by decide +kernel)) (by decide +kernel)
theorem ks_8 : Cond.selects "BigDesk$Whole" ⟨"BigDesk$Whole", "addBack", "(LBigDesk$Whole;I)V"⟩ ⟨"BigDesk$Whole", "addBack", "(LBigDesk$Whole;I)V"⟩ ∈ gw := gw_s (List.mem_of_getElem? (i := 8) (by decide +kernel)) (by decide +kernel)
theorem ks_9 : Cond.selects "BigDesk$Pair" ⟨"BigDesk$Pair", "change", "()V"⟩ ⟨"BigDesk$Pair", "change", "()V"⟩ ∈ gw := gw_s (List.mem_of_getElem? (i := 9) (by decide +kernel)) (by decide +kernel)
theorem ks_10 : Cond.selects "BigDesk$Pair" ⟨"BigDesk$Pair", "foretellSteps", "()V"⟩ ⟨"BigDesk$Pair", "foretellSteps", "()V"⟩ ∈ gw := gw_s (List.mem_of_getElem? (i := 10) (by decide +kernel)) (by decide +kernel)
theorem ks_11 : Cond.selects "BigDesk$Pair" ⟨"BigDesk$Pair", "leadOfThree", "(LBigDesk$Whole;)J"⟩ ⟨"BigDesk$Pair", "leadOfThree", "(LBigDesk$Whole;)J"⟩ ∈ gw := gw_s (List.mem_of_getElem? (i := 11) (by decide +kernel)) (by decide +kernel)
theorem ks_12 : Cond.selects "BigDesk$Pair" ⟨"BigDesk$Pair", "takeForetoldSteps", "()V"⟩ ⟨"BigDesk$Pair", "takeForetoldSteps", "()V"⟩ ∈ gw := gw_s (List.mem_of_getElem? (i := 12) (by decide +kernel)) (by decide +kernel)
theorem ks_13 : Cond.selects "BigDesk" ⟨"BigDesk", "squareRoot", "(LBigDesk$Whole;)LBigDesk$Whole;"⟩ ⟨"BigDesk", "squareRoot", "(LBigDesk$Whole;)LBigDesk$Whole;"⟩ ∈ gw := gw_s (List.mem_of_getElem? (i := 13) (by decide +kernel)) (by decide +kernel)
theorem ks_14 : Cond.selects "BigDesk" ⟨"BigDesk", "keepLowest", "(II)I"⟩ ⟨"BigDesk", "keepLowest", "(II)I"⟩ ∈ gw := gw_s (List.mem_of_getElem? (i := 14) (by decide +kernel)) (by decide +kernel)
theorem ks_15 : Cond.selects "BigDesk" ⟨"BigDesk", "areFractions", "(IIII)Z"⟩ ⟨"BigDesk", "areFractions", "(IIII)Z"⟩ ∈ gw := gw_s (List.mem_of_getElem? (i := 15) (by decide +kernel)) (by decide +kernel)
theorem ks_16 : Cond.selects "BigDeskModel" ⟨"BigDeskModel", "put", "(IJ)V"⟩ ⟨"BigDeskModel", "put", "(IJ)V"⟩ ∈ gw := gw_s (List.mem_of_getElem? (i := 16) (by decide +kernel)) (by decide +kernel)
theorem ks_17 : Cond.selects "BigDeskModel" ⟨"BigDeskModel", "settle", "(II)V"⟩ ⟨"BigDeskModel", "settle", "(II)V"⟩ ∈ gw := gw_s (List.mem_of_getElem? (i := 17) (by decide +kernel)) (by decide +kernel)
theorem ks_18 : Cond.selects "BigDeskModel" ⟨"BigDeskModel", "at", "(II)I"⟩ ⟨"BigDeskModel", "at", "(II)I"⟩ ∈ gw := gw_s (List.mem_of_getElem? (i := 18) (by decide +kernel)) (by decide +kernel)
theorem ks_19 : Cond.selects "BigDeskModel" ⟨"BigDeskModel", "multiply", "(III)V"⟩ ⟨"BigDeskModel", "multiply", "(III)V"⟩ ∈ gw := gw_s (List.mem_of_getElem? (i := 19) (by decide +kernel)) (by decide +kernel)
theorem ks_20 : Cond.selects "BigDeskModel" ⟨"BigDeskModel", "combine", "(IIII)V"⟩ ⟨"BigDeskModel", "combine", "(IIII)V"⟩ ∈ gw := gw_s (List.mem_of_getElem? (i := 20) (by decide +kernel)) (by decide +kernel)
theorem ks_21 : Cond.selects "BigDeskModel" ⟨"BigDeskModel", "addSizes", "(III)V"⟩ ⟨"BigDeskModel", "addSizes", "(III)V"⟩ ∈ gw := gw_s (List.mem_of_getElem? (i := 21) (by decide +kernel)) (by decide +kernel)
theorem ks_22 : Cond.selects "BigDeskModel" ⟨"BigDeskModel", "sizes", "(II)I"⟩ ⟨"BigDeskModel", "sizes", "(II)I"⟩ ∈ gw := gw_s (List.mem_of_getElem? (i := 22) (by decide +kernel)) (by decide +kernel)
theorem ks_23 : Cond.selects "BigDeskModel" ⟨"BigDeskModel", "takeSizes", "(III)V"⟩ ⟨"BigDeskModel", "takeSizes", "(III)V"⟩ ∈ gw := gw_s (List.mem_of_getElem? (i := 23) (by decide +kernel)) (by decide +kernel)
theorem ks_24 : Cond.selects "BigDeskModel" ⟨"BigDeskModel", "keep", "(II)I"⟩ ⟨"BigDeskModel", "keep", "(II)I"⟩ ∈ gw := gw_s (List.mem_of_getElem? (i := 24) (by decide +kernel)) (by decide +kernel)
theorem ks_25 : Cond.selects "BigDeskModel" ⟨"BigDeskModel", "isLong", "(I)Z"⟩ ⟨"BigDeskModel", "isLong", "(I)Z"⟩ ∈ gw := gw_s (List.mem_of_getElem? (i := 25) (by decide +kernel)) (by decide +kernel)
theorem ks_26 : Cond.selects "BigDeskModel" ⟨"BigDeskModel", "move", "(II)V"⟩ ⟨"BigDeskModel", "move", "(II)V"⟩ ∈ gw := gw_s (List.mem_of_getElem? (i := 26) (by decide +kernel)) (by decide +kernel)
theorem ks_27 : Cond.selects "BigDeskModel" ⟨"BigDeskModel", "divide", "(II)V"⟩ ⟨"BigDeskModel", "divide", "(II)V"⟩ ∈ gw := gw_s (List.mem_of_getElem? (i := 27) (by decide +kernel)) (by decide +kernel)
theorem ks_28 : Cond.selects "BigDeskModel" ⟨"BigDeskModel", "bit", "(II)I"⟩ ⟨"BigDeskModel", "bit", "(II)I"⟩ ∈ gw := gw_s (List.mem_of_getElem? (i := 28) (by decide +kernel)) (by decide +kernel)
theorem ks_29 : Cond.selects "BigDeskModel" ⟨"BigDeskModel", "twice", "(II)V"⟩ ⟨"BigDeskModel", "twice", "(II)V"⟩ ∈ gw := gw_s (List.mem_of_getElem? (i := 29) (by decide +kernel)) (by decide +kernel)
theorem ks_30 : Cond.selects "BigDeskModel" ⟨"BigDeskModel", "common", "(II)V"⟩ ⟨"BigDeskModel", "common", "(II)V"⟩ ∈ gw := gw_s (List.mem_of_getElem? (i := 30) (by decide +kernel)) (by decide +kernel)
theorem ks_31 : Cond.selects "BigDeskModel" ⟨"BigDeskModel", "size", "(II)V"⟩ ⟨"BigDeskModel", "size", "(II)V"⟩ ∈ gw := gw_s (List.mem_of_getElem? (i := 31) (by decide +kernel)) (by decide +kernel)
theorem ks_32 : Cond.selects "BigDeskModel" ⟨"BigDeskModel", "half", "(I)V"⟩ ⟨"BigDeskModel", "half", "(I)V"⟩ ∈ gw := gw_s (List.mem_of_getElem? (i := 32) (by decide +kernel)) (by decide +kernel)
theorem ks_33 : Cond.selects "BigDeskModel" ⟨"BigDeskModel", "keepFraction", "(II)I"⟩ ⟨"BigDeskModel", "keepFraction", "(II)I"⟩ ∈ gw := gw_s (List.mem_of_getElem? (i := 33) (by decide +kernel)) (by decide +kernel)
theorem ks_34 : Cond.selects "BigDeskModel" ⟨"BigDeskModel", "compare", "(II)I"⟩ ⟨"BigDeskModel", "compare", "(II)I"⟩ ∈ gw := gw_s (List.mem_of_getElem? (i := 34) (by decide +kernel)) (by decide +kernel)
theorem ks_35 : Cond.selects "BigDeskModel" ⟨"BigDeskModel", "spell", "(I)I"⟩ ⟨"BigDeskModel", "spell", "(I)I"⟩ ∈ gw := gw_s (List.mem_of_getElem? (i := 35) (by decide +kernel)) (by decide +kernel)
theorem uin_X0 : ∀ w ∈ u_ws RX0 TX0 7, w ∈ gw := by decide +kernel
theorem uin_X1 : ∀ w ∈ u_ws RX1 TX1 3, w ∈ gw := by decide +kernel
theorem uin_X2 : ∀ w ∈ u_ws RX2 TX2 7, w ∈ gw := by decide +kernel
theorem uin_X3 : ∀ w ∈ u_ws RX3 TX3 4, w ∈ gw := by decide +kernel
