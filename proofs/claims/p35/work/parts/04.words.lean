theorem w_0 : (Jvm.Cond.initialized "PenStrikeLaw") ∈ lw_all := in_all (List.mem_of_getElem? (i := 8) (by decide +kernel)) rfl
theorem w_1 : (Jvm.Cond.initialized "PenStrike") ∈ lw_all := in_all (List.mem_of_getElem? (i := 9) (by decide +kernel)) rfl
theorem w_2 : (Jvm.Cond.initialized "PenStrike$Plotter") ∈ lw_all := in_all (List.mem_of_getElem? (i := 10) (by decide +kernel)) rfl
theorem w_3 : (Jvm.Cond.initialized "PenStrike$Pens") ∈ lw_all := in_all (List.mem_of_getElem? (i := 11) (by decide +kernel)) rfl
theorem w_4 : (Jvm.Cond.initialized "PenStrike$Lines") ∈ lw_all := in_all (List.mem_of_getElem? (i := 12) (by decide +kernel)) rfl
theorem w_5 : (Jvm.Cond.initialized "PenStrike$History") ∈ lw_all := in_all (List.mem_of_getElem? (i := 13) (by decide +kernel)) rfl
theorem w_6 : (Jvm.Cond.initialized "PenStrike$Orders") ∈ lw_all := in_all (List.mem_of_getElem? (i := 14) (by decide +kernel)) rfl
theorem w_7 : (Jvm.Cond.initialized "PenStrike$FairPlan") ∈ lw_all := in_all (List.mem_of_getElem? (i := 15) (by decide +kernel)) rfl
theorem w_8 : (Jvm.Cond.initialized "PenStrike$Route") ∈ lw_all := in_all (List.mem_of_getElem? (i := 16) (by decide +kernel)) rfl
theorem w_9 : (Jvm.Cond.initialized "java/lang/Math") ∈ lw_all := in_all (List.mem_of_getElem? (i := 17) (by decide +kernel)) rfl
theorem w_10 : (Jvm.Cond.initialized "java/lang/System") ∈ lw_all := in_all (List.mem_of_getElem? (i := 18) (by decide +kernel)) rfl
theorem w_11 : (Jvm.Cond.classLink "PenStrikeLaw" (11 : Nat) "PenStrike") ∈ lw_all := in_all (List.mem_of_getElem? (i := 19) (by decide +kernel)) rfl
theorem w_12 : (Jvm.Cond.instantiable "PenStrike" (6 : Nat)) ∈ lw_all := in_all (List.mem_of_getElem? (i := 20) (by decide +kernel)) rfl
theorem w_13 : (Jvm.Cond.methodLink "PenStrikeLaw" (78 : Nat) yX7_init) ∈ lw_all := in_all (List.mem_of_getElem? (i := 21) (by decide +kernel)) rfl
theorem w_14 : (Jvm.Cond.instanceMethod yX7_init) ∈ lw_all := in_all (List.mem_of_getElem? (i := 22) (by decide +kernel)) rfl
theorem w_15 : (Jvm.Cond.code yX7_init prog_1_method_1_code (1 : Nat) (Option.none : Option Jvm.ClassFile.FieldType)) ∈ lw_all := in_all (List.mem_of_getElem? (i := 23) (by decide +kernel)) rfl
theorem w_16 : (Jvm.Cond.methodLink "PenStrike" (1 : Nat) ⟨"java/lang/Object", "<init>", "()V"⟩) ∈ lw_all := in_all (List.mem_of_getElem? (i := 24) (by decide +kernel)) rfl
theorem w_17 : (Jvm.Cond.instanceMethod ⟨"java/lang/Object", "<init>", "()V"⟩) ∈ lw_all := in_all (List.mem_of_getElem? (i := 25) (by decide +kernel)) rfl
theorem w_18 : (Jvm.Cond.code ⟨"java/lang/Object", "<init>", "()V"⟩ object_method_1_code (1 : Nat) (Option.none : Option Jvm.ClassFile.FieldType)) ∈ lw_all := in_all (List.mem_of_getElem? (i := 26) (by decide +kernel)) rfl
theorem w_19 : (Jvm.Cond.classLink "PenStrike" (7 : Nat) "PenStrike$Plotter") ∈ lw_all := in_all (List.mem_of_getElem? (i := 27) (by decide +kernel)) rfl
theorem w_20 : (Jvm.Cond.instantiable "PenStrike$Plotter" (9 : Nat)) ∈ lw_all := in_all (List.mem_of_getElem? (i := 28) (by decide +kernel)) rfl
theorem w_21 : (Jvm.Cond.methodLinkNest "PenStrike" (9 : Nat) yX5_init "PenStrike") ∈ nwl := in_nwl (List.mem_of_getElem? (i := 29) (by decide +kernel)) rfl
theorem w_22 : (Jvm.Cond.instanceMethod yX5_init) ∈ lw_all := in_all (List.mem_of_getElem? (i := 30) (by decide +kernel)) rfl
theorem w_23 : (Jvm.Cond.code yX5_init prog_7_method_1_code (1 : Nat) (Option.none : Option Jvm.ClassFile.FieldType)) ∈ lw_all := in_all (List.mem_of_getElem? (i := 31) (by decide +kernel)) rfl
theorem w_24 : (Jvm.Cond.methodLink "PenStrike$Plotter" (3 : Nat) ⟨"java/lang/Object", "<init>", "()V"⟩) ∈ lw_all := in_all (List.mem_of_getElem? (i := 32) (by decide +kernel)) rfl
theorem w_25 : (Jvm.Cond.fieldLinkNest "PenStrike$Plotter" (9 : Nat) "PenStrike" "FIRST_VALUES" "[I" "PenStrike") ∈ nwl := in_nwl (List.mem_of_getElem? (i := 33) (by decide +kernel)) rfl
theorem w_27 : (Jvm.Cond.methodLink "PenStrike$Plotter" (13 : Nat) ⟨"[I", "clone", "()Ljava/lang/Object;"⟩) ∈ lw_all := in_all (List.mem_of_getElem? (i := 35) (by decide +kernel)) rfl
theorem w_28 : (Jvm.Cond.sameMethod "[I" "java/lang/Object" "clone" "()Ljava/lang/Object;") ∈ lw_all := in_all (List.mem_of_getElem? (i := 36) (by decide +kernel)) rfl
theorem w_29 : (Jvm.Cond.native ⟨"java/lang/Object", "clone", "()Ljava/lang/Object;"⟩) ∈ lw_all := in_all (List.mem_of_getElem? (i := 37) (by decide +kernel)) rfl
theorem w_30 : (Jvm.Cond.instanceMethod ⟨"java/lang/Object", "clone", "()Ljava/lang/Object;"⟩) ∈ lw_all := in_all (List.mem_of_getElem? (i := 38) (by decide +kernel)) rfl
theorem w_31 : (Jvm.Cond.selects "[I" ⟨"[I", "clone", "()Ljava/lang/Object;"⟩ ⟨"java/lang/Object", "clone", "()Ljava/lang/Object;"⟩) ∈ lw_all := in_all (List.mem_of_getElem? (i := 39) (by decide +kernel)) rfl
theorem w_32 : (Jvm.Cond.castable "[I" "java/lang/Cloneable") ∈ nwl := in_nwl (List.mem_of_getElem? (i := 40) (by decide +kernel)) rfl
theorem w_33 : (Jvm.Cond.classLink "PenStrike$Plotter" (14 : Nat) "[I") ∈ lw_all := in_all (List.mem_of_getElem? (i := 41) (by decide +kernel)) rfl
theorem w_34 : (Jvm.Cond.classLink "PenStrike$Plotter" (23 : Nat) "PenStrike$Pens") ∈ lw_all := in_all (List.mem_of_getElem? (i := 42) (by decide +kernel)) rfl
theorem w_35 : (Jvm.Cond.instantiable "PenStrike$Pens" (8 : Nat)) ∈ lw_all := in_all (List.mem_of_getElem? (i := 43) (by decide +kernel)) rfl
theorem w_36 : (Jvm.Cond.methodLinkNest "PenStrike$Plotter" (25 : Nat) yX4_init "PenStrike") ∈ nwl := in_nwl (List.mem_of_getElem? (i := 44) (by decide +kernel)) rfl
theorem w_37 : (Jvm.Cond.instanceMethod yX4_init) ∈ lw_all := in_all (List.mem_of_getElem? (i := 45) (by decide +kernel)) rfl
theorem w_38 : (Jvm.Cond.code yX4_init prog_6_method_1_code (1 : Nat) (Option.none : Option Jvm.ClassFile.FieldType)) ∈ lw_all := in_all (List.mem_of_getElem? (i := 46) (by decide +kernel)) rfl
theorem w_39 : (Jvm.Cond.methodLink "PenStrike$Pens" (3 : Nat) ⟨"java/lang/Object", "<init>", "()V"⟩) ∈ lw_all := in_all (List.mem_of_getElem? (i := 47) (by decide +kernel)) rfl
theorem w_40 : (Jvm.Cond.fieldLink "PenStrike$Pens" (9 : Nat) "PenStrike$Pens" "many" "I") ∈ lw_all := in_all (List.mem_of_getElem? (i := 48) (by decide +kernel)) rfl
theorem w_41 : (Jvm.Cond.fieldLink "PenStrike" (81 : Nat) "PenStrike$Pens" "many" "I") ∈ lw_all := in_all (List.mem_of_getElem? (i := 49) (by decide +kernel)) rfl
theorem w_42 : (Jvm.Cond.fieldLink "PenStrike$Pens" (15 : Nat) "PenStrike$Pens" "kind" "[I") ∈ lw_all := in_all (List.mem_of_getElem? (i := 50) (by decide +kernel)) rfl
theorem w_43 : (Jvm.Cond.fieldLink "PenStrike" (122 : Nat) "PenStrike$Pens" "kind" "[I") ∈ lw_all := in_all (List.mem_of_getElem? (i := 51) (by decide +kernel)) rfl
theorem w_44 : (Jvm.Cond.fieldLink "PenStrike$Plotter" (109 : Nat) "PenStrike$Pens" "kind" "[I") ∈ lw_all := in_all (List.mem_of_getElem? (i := 52) (by decide +kernel)) rfl
theorem w_45 : (Jvm.Cond.fieldLink "PenStrike$Pens" (19 : Nat) "PenStrike$Pens" "capacity" "[I") ∈ lw_all := in_all (List.mem_of_getElem? (i := 53) (by decide +kernel)) rfl
theorem w_46 : (Jvm.Cond.fieldLink "PenStrike" (116 : Nat) "PenStrike$Pens" "capacity" "[I") ∈ lw_all := in_all (List.mem_of_getElem? (i := 54) (by decide +kernel)) rfl
theorem w_47 : (Jvm.Cond.fieldLink "PenStrike$Plotter" (103 : Nat) "PenStrike$Pens" "capacity" "[I") ∈ lw_all := in_all (List.mem_of_getElem? (i := 55) (by decide +kernel)) rfl
theorem w_48 : (Jvm.Cond.fieldLink "PenStrike$Pens" (22 : Nat) "PenStrike$Pens" "place" "[I") ∈ lw_all := in_all (List.mem_of_getElem? (i := 56) (by decide +kernel)) rfl
theorem w_49 : (Jvm.Cond.fieldLink "PenStrike" (131 : Nat) "PenStrike$Pens" "place" "[I") ∈ lw_all := in_all (List.mem_of_getElem? (i := 57) (by decide +kernel)) rfl
theorem w_50 : (Jvm.Cond.fieldLink "PenStrike$Pens" (25 : Nat) "PenStrike$Pens" "ink" "[I") ∈ lw_all := in_all (List.mem_of_getElem? (i := 58) (by decide +kernel)) rfl
theorem w_51 : (Jvm.Cond.fieldLink "PenStrike" (119 : Nat) "PenStrike$Pens" "ink" "[I") ∈ lw_all := in_all (List.mem_of_getElem? (i := 59) (by decide +kernel)) rfl
theorem w_52 : (Jvm.Cond.fieldLink "PenStrike$Plotter" (138 : Nat) "PenStrike$Pens" "ink" "[I") ∈ lw_all := in_all (List.mem_of_getElem? (i := 60) (by decide +kernel)) rfl
theorem w_53 : (Jvm.Cond.fieldLink "PenStrike$Pens" (28 : Nat) "PenStrike$Pens" "drawn" "[I") ∈ lw_all := in_all (List.mem_of_getElem? (i := 61) (by decide +kernel)) rfl
theorem w_54 : (Jvm.Cond.fieldLink "PenStrike$Plotter" (71 : Nat) "PenStrike$Pens" "drawn" "[I") ∈ lw_all := in_all (List.mem_of_getElem? (i := 62) (by decide +kernel)) rfl
theorem w_55 : (Jvm.Cond.fieldLink "PenStrike" (125 : Nat) "PenStrike$Pens" "drawn" "[I") ∈ lw_all := in_all (List.mem_of_getElem? (i := 63) (by decide +kernel)) rfl
theorem w_56 : (Jvm.Cond.fieldLink "PenStrike$Pens" (31 : Nat) "PenStrike$Pens" "idle" "[I") ∈ lw_all := in_all (List.mem_of_getElem? (i := 64) (by decide +kernel)) rfl
theorem w_57 : (Jvm.Cond.fieldLink "PenStrike$Plotter" (78 : Nat) "PenStrike$Pens" "idle" "[I") ∈ lw_all := in_all (List.mem_of_getElem? (i := 65) (by decide +kernel)) rfl
theorem w_58 : (Jvm.Cond.fieldLink "PenStrike" (128 : Nat) "PenStrike$Pens" "idle" "[I") ∈ lw_all := in_all (List.mem_of_getElem? (i := 66) (by decide +kernel)) rfl
theorem w_59 : (Jvm.Cond.fieldLink "PenStrike$Pens" (34 : Nat) "PenStrike$Pens" "away" "[I") ∈ lw_all := in_all (List.mem_of_getElem? (i := 67) (by decide +kernel)) rfl
theorem w_60 : (Jvm.Cond.fieldLink "PenStrike" (106 : Nat) "PenStrike$Pens" "away" "[I") ∈ lw_all := in_all (List.mem_of_getElem? (i := 68) (by decide +kernel)) rfl
theorem w_78 : (Jvm.Cond.arrayClass Jvm.ClassFile.FieldType.int) ∈ lw_all := in_all (List.mem_of_getElem? (i := 86) (by decide +kernel)) rfl
theorem w_79 : (Jvm.Cond.classLink "PenStrike$Plotter" (30 : Nat) "PenStrike$Lines") ∈ lw_all := in_all (List.mem_of_getElem? (i := 87) (by decide +kernel)) rfl
theorem w_80 : (Jvm.Cond.instantiable "PenStrike$Lines" (11 : Nat)) ∈ lw_all := in_all (List.mem_of_getElem? (i := 88) (by decide +kernel)) rfl
theorem w_81 : (Jvm.Cond.methodLinkNest "PenStrike$Plotter" (32 : Nat) yX2_init "PenStrike") ∈ nwl := in_nwl (List.mem_of_getElem? (i := 89) (by decide +kernel)) rfl
theorem w_82 : (Jvm.Cond.instanceMethod yX2_init) ∈ lw_all := in_all (List.mem_of_getElem? (i := 90) (by decide +kernel)) rfl
theorem w_83 : (Jvm.Cond.code yX2_init prog_4_method_1_code (1 : Nat) (Option.none : Option Jvm.ClassFile.FieldType)) ∈ lw_all := in_all (List.mem_of_getElem? (i := 91) (by decide +kernel)) rfl
theorem w_84 : (Jvm.Cond.methodLink "PenStrike$Lines" (3 : Nat) ⟨"java/lang/Object", "<init>", "()V"⟩) ∈ lw_all := in_all (List.mem_of_getElem? (i := 92) (by decide +kernel)) rfl
theorem w_85 : (Jvm.Cond.fieldLink "PenStrike$Lines" (9 : Nat) "PenStrike$Lines" "many" "I") ∈ lw_all := in_all (List.mem_of_getElem? (i := 93) (by decide +kernel)) rfl
theorem w_86 : (Jvm.Cond.fieldLink "PenStrike" (97 : Nat) "PenStrike$Lines" "many" "I") ∈ lw_all := in_all (List.mem_of_getElem? (i := 94) (by decide +kernel)) rfl
theorem w_87 : (Jvm.Cond.fieldLink "PenStrike$Plotter" (87 : Nat) "PenStrike$Lines" "many" "I") ∈ lw_all := in_all (List.mem_of_getElem? (i := 95) (by decide +kernel)) rfl
theorem w_88 : (Jvm.Cond.fieldLink "PenStrike$Lines" (15 : Nat) "PenStrike$Lines" "x" "[I") ∈ lw_all := in_all (List.mem_of_getElem? (i := 96) (by decide +kernel)) rfl
theorem w_89 : (Jvm.Cond.fieldLink "PenStrike" (153 : Nat) "PenStrike$Lines" "x" "[I") ∈ lw_all := in_all (List.mem_of_getElem? (i := 97) (by decide +kernel)) rfl
theorem w_90 : (Jvm.Cond.fieldLink "PenStrike$Lines" (19 : Nat) "PenStrike$Lines" "y" "[I") ∈ lw_all := in_all (List.mem_of_getElem? (i := 98) (by decide +kernel)) rfl
theorem w_91 : (Jvm.Cond.fieldLink "PenStrike" (156 : Nat) "PenStrike$Lines" "y" "[I") ∈ lw_all := in_all (List.mem_of_getElem? (i := 99) (by decide +kernel)) rfl
theorem w_92 : (Jvm.Cond.fieldLink "PenStrike$Lines" (22 : Nat) "PenStrike$Lines" "x2" "[I") ∈ lw_all := in_all (List.mem_of_getElem? (i := 100) (by decide +kernel)) rfl
theorem w_93 : (Jvm.Cond.fieldLink "PenStrike" (159 : Nat) "PenStrike$Lines" "x2" "[I") ∈ lw_all := in_all (List.mem_of_getElem? (i := 101) (by decide +kernel)) rfl
theorem w_94 : (Jvm.Cond.fieldLink "PenStrike$Lines" (25 : Nat) "PenStrike$Lines" "y2" "[I") ∈ lw_all := in_all (List.mem_of_getElem? (i := 102) (by decide +kernel)) rfl
theorem w_95 : (Jvm.Cond.fieldLink "PenStrike" (162 : Nat) "PenStrike$Lines" "y2" "[I") ∈ lw_all := in_all (List.mem_of_getElem? (i := 103) (by decide +kernel)) rfl
theorem w_96 : (Jvm.Cond.fieldLink "PenStrike$Lines" (28 : Nat) "PenStrike$Lines" "length" "[I") ∈ lw_all := in_all (List.mem_of_getElem? (i := 104) (by decide +kernel)) rfl
theorem w_97 : (Jvm.Cond.fieldLink "PenStrike$Plotter" (112 : Nat) "PenStrike$Lines" "length" "[I") ∈ lw_all := in_all (List.mem_of_getElem? (i := 105) (by decide +kernel)) rfl
theorem w_98 : (Jvm.Cond.fieldLink "PenStrike" (165 : Nat) "PenStrike$Lines" "length" "[I") ∈ lw_all := in_all (List.mem_of_getElem? (i := 106) (by decide +kernel)) rfl
theorem w_99 : (Jvm.Cond.fieldLink "PenStrike$Lines" (31 : Nat) "PenStrike$Lines" "touchingSet" "[I") ∈ lw_all := in_all (List.mem_of_getElem? (i := 107) (by decide +kernel)) rfl
theorem w_100 : (Jvm.Cond.fieldLink "PenStrike" (242 : Nat) "PenStrike$Lines" "touchingSet" "[I") ∈ lw_all := in_all (List.mem_of_getElem? (i := 108) (by decide +kernel)) rfl
theorem w_101 : (Jvm.Cond.fieldLink "PenStrike$Lines" (34 : Nat) "PenStrike$Lines" "drawnBy" "[I") ∈ lw_all := in_all (List.mem_of_getElem? (i := 109) (by decide +kernel)) rfl
theorem w_102 : (Jvm.Cond.fieldLink "PenStrike$Plotter" (97 : Nat) "PenStrike$Lines" "drawnBy" "[I") ∈ lw_all := in_all (List.mem_of_getElem? (i := 110) (by decide +kernel)) rfl
theorem w_103 : (Jvm.Cond.fieldLink "PenStrike" (168 : Nat) "PenStrike$Lines" "drawnBy" "[I") ∈ lw_all := in_all (List.mem_of_getElem? (i := 111) (by decide +kernel)) rfl
theorem w_104 : (Jvm.Cond.fieldLink "PenStrike$Lines" (37 : Nat) "PenStrike$Lines" "doneAt" "[I") ∈ lw_all := in_all (List.mem_of_getElem? (i := 112) (by decide +kernel)) rfl
theorem w_105 : (Jvm.Cond.fieldLink "PenStrike" (171 : Nat) "PenStrike$Lines" "doneAt" "[I") ∈ lw_all := in_all (List.mem_of_getElem? (i := 113) (by decide +kernel)) rfl
theorem w_106 : (Jvm.Cond.fieldLink "PenStrike$Plotter" (151 : Nat) "PenStrike$Lines" "doneAt" "[I") ∈ lw_all := in_all (List.mem_of_getElem? (i := 114) (by decide +kernel)) rfl
theorem w_107 : (Jvm.Cond.fieldLink "PenStrike$Lines" (40 : Nat) "PenStrike$Lines" "dryAt" "[I") ∈ lw_all := in_all (List.mem_of_getElem? (i := 115) (by decide +kernel)) rfl
theorem w_108 : (Jvm.Cond.fieldLink "PenStrike$Plotter" (84 : Nat) "PenStrike$Lines" "dryAt" "[I") ∈ lw_all := in_all (List.mem_of_getElem? (i := 116) (by decide +kernel)) rfl
theorem w_109 : (Jvm.Cond.fieldLink "PenStrike$Lines" (43 : Nat) "PenStrike$Lines" "inkAtBegin" "[I") ∈ lw_all := in_all (List.mem_of_getElem? (i := 117) (by decide +kernel)) rfl
theorem w_110 : (Jvm.Cond.fieldLink "PenStrike$Plotter" (106 : Nat) "PenStrike$Lines" "inkAtBegin" "[I") ∈ lw_all := in_all (List.mem_of_getElem? (i := 118) (by decide +kernel)) rfl
theorem w_134 : (Jvm.Cond.fieldLink "PenStrike$Plotter" (18 : Nat) "PenStrike$Plotter" "settings" "[I") ∈ lw_all := in_all (List.mem_of_getElem? (i := 142) (by decide +kernel)) rfl
theorem w_135 : (Jvm.Cond.fieldLink "PenStrike" (63 : Nat) "PenStrike$Plotter" "settings" "[I") ∈ lw_all := in_all (List.mem_of_getElem? (i := 143) (by decide +kernel)) rfl
theorem w_136 : (Jvm.Cond.fieldLink "PenStrike$Plotter" (26 : Nat) "PenStrike$Plotter" "pens" "LPenStrike$Pens;") ∈ lw_all := in_all (List.mem_of_getElem? (i := 144) (by decide +kernel)) rfl
theorem w_137 : (Jvm.Cond.fieldLink "PenStrike" (70 : Nat) "PenStrike$Plotter" "pens" "LPenStrike$Pens;") ∈ lw_all := in_all (List.mem_of_getElem? (i := 145) (by decide +kernel)) rfl
theorem w_138 : (Jvm.Cond.fieldLink "PenStrike$Plotter" (33 : Nat) "PenStrike$Plotter" "lines" "LPenStrike$Lines;") ∈ lw_all := in_all (List.mem_of_getElem? (i := 146) (by decide +kernel)) rfl
theorem w_139 : (Jvm.Cond.fieldLink "PenStrike" (93 : Nat) "PenStrike$Plotter" "lines" "LPenStrike$Lines;") ∈ lw_all := in_all (List.mem_of_getElem? (i := 147) (by decide +kernel)) rfl
theorem w_140 : (Jvm.Cond.fieldLink "PenStrike$Plotter" (37 : Nat) "PenStrike$Plotter" "time" "I") ∈ lw_all := in_all (List.mem_of_getElem? (i := 148) (by decide +kernel)) rfl
theorem w_141 : (Jvm.Cond.fieldLink "PenStrike" (201 : Nat) "PenStrike$Plotter" "time" "I") ∈ lw_all := in_all (List.mem_of_getElem? (i := 149) (by decide +kernel)) rfl
theorem w_142 : (Jvm.Cond.fieldLink "PenStrike$Plotter" (41 : Nat) "PenStrike$Plotter" "hand" "I") ∈ lw_all := in_all (List.mem_of_getElem? (i := 150) (by decide +kernel)) rfl
theorem w_143 : (Jvm.Cond.fieldLink "PenStrike" (109 : Nat) "PenStrike$Plotter" "hand" "I") ∈ lw_all := in_all (List.mem_of_getElem? (i := 151) (by decide +kernel)) rfl
theorem w_144 : (Jvm.Cond.fieldLink "PenStrike$Plotter" (44 : Nat) "PenStrike$Plotter" "x" "I") ∈ lw_all := in_all (List.mem_of_getElem? (i := 152) (by decide +kernel)) rfl
theorem w_145 : (Jvm.Cond.fieldLink "PenStrike" (280 : Nat) "PenStrike$Plotter" "x" "I") ∈ lw_all := in_all (List.mem_of_getElem? (i := 153) (by decide +kernel)) rfl
theorem w_146 : (Jvm.Cond.fieldLink "PenStrike$Plotter" (47 : Nat) "PenStrike$Plotter" "y" "I") ∈ lw_all := in_all (List.mem_of_getElem? (i := 154) (by decide +kernel)) rfl
theorem w_147 : (Jvm.Cond.fieldLink "PenStrike" (282 : Nat) "PenStrike$Plotter" "y" "I") ∈ lw_all := in_all (List.mem_of_getElem? (i := 155) (by decide +kernel)) rfl
theorem w_148 : (Jvm.Cond.fieldLink "PenStrike$Plotter" (50 : Nat) "PenStrike$Plotter" "swaps" "I") ∈ lw_all := in_all (List.mem_of_getElem? (i := 156) (by decide +kernel)) rfl
theorem w_149 : (Jvm.Cond.fieldLink "PenStrike" (287 : Nat) "PenStrike$Plotter" "swaps" "I") ∈ lw_all := in_all (List.mem_of_getElem? (i := 157) (by decide +kernel)) rfl
theorem w_150 : (Jvm.Cond.fieldLink "PenStrike$Plotter" (53 : Nat) "PenStrike$Plotter" "travelled" "I") ∈ lw_all := in_all (List.mem_of_getElem? (i := 158) (by decide +kernel)) rfl
theorem w_151 : (Jvm.Cond.fieldLink "PenStrike" (290 : Nat) "PenStrike$Plotter" "travelled" "I") ∈ lw_all := in_all (List.mem_of_getElem? (i := 159) (by decide +kernel)) rfl
theorem w_171 : (Jvm.Cond.classLink "PenStrike" (19 : Nat) "PenStrike$History") ∈ lw_all := in_all (List.mem_of_getElem? (i := 179) (by decide +kernel)) rfl
theorem w_172 : (Jvm.Cond.instantiable "PenStrike$History" (3 : Nat)) ∈ lw_all := in_all (List.mem_of_getElem? (i := 180) (by decide +kernel)) rfl
theorem w_173 : (Jvm.Cond.methodLinkNest "PenStrike" (21 : Nat) yX1_init "PenStrike") ∈ nwl := in_nwl (List.mem_of_getElem? (i := 181) (by decide +kernel)) rfl
theorem w_174 : (Jvm.Cond.instanceMethod yX1_init) ∈ lw_all := in_all (List.mem_of_getElem? (i := 182) (by decide +kernel)) rfl
theorem w_175 : (Jvm.Cond.code yX1_init prog_3_method_1_code (1 : Nat) (Option.none : Option Jvm.ClassFile.FieldType)) ∈ lw_all := in_all (List.mem_of_getElem? (i := 183) (by decide +kernel)) rfl
theorem w_176 : (Jvm.Cond.methodLink "PenStrike$History" (3 : Nat) ⟨"java/lang/Object", "<init>", "()V"⟩) ∈ lw_all := in_all (List.mem_of_getElem? (i := 184) (by decide +kernel)) rfl
theorem w_177 : (Jvm.Cond.classLink "PenStrike$History" (9 : Nat) "PenStrike$Plotter") ∈ lw_all := in_all (List.mem_of_getElem? (i := 185) (by decide +kernel)) rfl
theorem w_178 : (Jvm.Cond.arrayOver (Jvm.ClassFile.FieldType.object "PenStrike$Plotter")) ∈ nwl := in_nwl (List.mem_of_getElem? (i := 186) (by decide +kernel)) rfl
theorem w_179 : (Jvm.Cond.fieldLink "PenStrike$History" (11 : Nat) "PenStrike$History" "states" "[LPenStrike$Plotter;") ∈ lw_all := in_all (List.mem_of_getElem? (i := 187) (by decide +kernel)) rfl
theorem w_180 : (Jvm.Cond.fieldLink "PenStrike$History" (17 : Nat) "PenStrike$History" "next" "I") ∈ lw_all := in_all (List.mem_of_getElem? (i := 188) (by decide +kernel)) rfl
theorem w_181 : (Jvm.Cond.fieldLink "PenStrike$History" (21 : Nat) "PenStrike$History" "many" "I") ∈ lw_all := in_all (List.mem_of_getElem? (i := 189) (by decide +kernel)) rfl
theorem w_182 : (Jvm.Cond.fieldLink "PenStrike" (293 : Nat) "PenStrike$History" "many" "I") ∈ lw_all := in_all (List.mem_of_getElem? (i := 190) (by decide +kernel)) rfl
theorem w_190 : (Jvm.Cond.classLink "PenStrike" (26 : Nat) "PenStrike$Orders") ∈ lw_all := in_all (List.mem_of_getElem? (i := 198) (by decide +kernel)) rfl
theorem w_191 : (Jvm.Cond.instantiable "PenStrike$Orders" (5 : Nat)) ∈ lw_all := in_all (List.mem_of_getElem? (i := 199) (by decide +kernel)) rfl
theorem w_192 : (Jvm.Cond.methodLinkNest "PenStrike" (28 : Nat) yX3_init "PenStrike") ∈ nwl := in_nwl (List.mem_of_getElem? (i := 200) (by decide +kernel)) rfl
theorem w_193 : (Jvm.Cond.instanceMethod yX3_init) ∈ lw_all := in_all (List.mem_of_getElem? (i := 201) (by decide +kernel)) rfl
theorem w_194 : (Jvm.Cond.code yX3_init prog_5_method_1_code (1 : Nat) (Option.none : Option Jvm.ClassFile.FieldType)) ∈ lw_all := in_all (List.mem_of_getElem? (i := 202) (by decide +kernel)) rfl
theorem w_195 : (Jvm.Cond.methodLink "PenStrike$Orders" (3 : Nat) ⟨"java/lang/Object", "<init>", "()V"⟩) ∈ lw_all := in_all (List.mem_of_getElem? (i := 203) (by decide +kernel)) rfl
theorem w_196 : (Jvm.Cond.constant "PenStrike$Orders" (25 : Nat) (-1000004 : Int32)) ∈ lw_all := in_all (List.mem_of_getElem? (i := 204) (by decide +kernel)) rfl
theorem w_197 : (Jvm.Cond.fieldLink "PenStrike$Orders" (9 : Nat) "PenStrike$Orders" "length" "I") ∈ lw_all := in_all (List.mem_of_getElem? (i := 205) (by decide +kernel)) rfl
theorem w_198 : (Jvm.Cond.fieldLink "PenStrike" (294 : Nat) "PenStrike$Orders" "length" "I") ∈ lw_all := in_all (List.mem_of_getElem? (i := 206) (by decide +kernel)) rfl
theorem w_199 : (Jvm.Cond.fieldLink "PenStrike$Orders" (15 : Nat) "PenStrike$Orders" "signs" "[I") ∈ lw_all := in_all (List.mem_of_getElem? (i := 207) (by decide +kernel)) rfl
theorem w_200 : (Jvm.Cond.fieldLink "PenStrike$Orders" (19 : Nat) "PenStrike$Orders" "position" "I") ∈ lw_all := in_all (List.mem_of_getElem? (i := 208) (by decide +kernel)) rfl
theorem w_201 : (Jvm.Cond.fieldLink "PenStrike$Orders" (22 : Nat) "PenStrike$Orders" "reason" "I") ∈ lw_all := in_all (List.mem_of_getElem? (i := 209) (by decide +kernel)) rfl
theorem w_202 : (Jvm.Cond.fieldLink "PenStrike$Orders" (26 : Nat) "PenStrike$Orders" "cause" "I") ∈ lw_all := in_all (List.mem_of_getElem? (i := 210) (by decide +kernel)) rfl
theorem w_214 : (Jvm.Cond.classLink "PenStrike" (33 : Nat) "PenStrike$FairPlan") ∈ lw_all := in_all (List.mem_of_getElem? (i := 222) (by decide +kernel)) rfl
theorem w_215 : (Jvm.Cond.instantiable "PenStrike$FairPlan" (2 : Nat)) ∈ lw_all := in_all (List.mem_of_getElem? (i := 223) (by decide +kernel)) rfl
theorem w_216 : (Jvm.Cond.methodLinkNest "PenStrike" (35 : Nat) yX0_init "PenStrike") ∈ nwl := in_nwl (List.mem_of_getElem? (i := 224) (by decide +kernel)) rfl
theorem w_217 : (Jvm.Cond.instanceMethod yX0_init) ∈ lw_all := in_all (List.mem_of_getElem? (i := 225) (by decide +kernel)) rfl
theorem w_218 : (Jvm.Cond.code yX0_init prog_2_method_1_code (1 : Nat) (Option.none : Option Jvm.ClassFile.FieldType)) ∈ lw_all := in_all (List.mem_of_getElem? (i := 226) (by decide +kernel)) rfl
theorem w_219 : (Jvm.Cond.methodLink "PenStrike$FairPlan" (3 : Nat) ⟨"java/lang/Object", "<init>", "()V"⟩) ∈ lw_all := in_all (List.mem_of_getElem? (i := 227) (by decide +kernel)) rfl
theorem w_220 : (Jvm.Cond.fieldLink "PenStrike$FairPlan" (9 : Nat) "PenStrike$FairPlan" "penFor" "[I") ∈ lw_all := in_all (List.mem_of_getElem? (i := 228) (by decide +kernel)) rfl
theorem w_221 : (Jvm.Cond.fieldLink "PenStrike$FairPlan" (15 : Nat) "PenStrike$FairPlan" "load" "[I") ∈ lw_all := in_all (List.mem_of_getElem? (i := 229) (by decide +kernel)) rfl
theorem w_227 : (Jvm.Cond.classLink "PenStrike" (40 : Nat) "PenStrike$Route") ∈ lw_all := in_all (List.mem_of_getElem? (i := 235) (by decide +kernel)) rfl
theorem w_228 : (Jvm.Cond.instantiable "PenStrike$Route" (7 : Nat)) ∈ lw_all := in_all (List.mem_of_getElem? (i := 236) (by decide +kernel)) rfl
theorem w_229 : (Jvm.Cond.methodLinkNest "PenStrike" (42 : Nat) yX6_init "PenStrike") ∈ nwl := in_nwl (List.mem_of_getElem? (i := 237) (by decide +kernel)) rfl
theorem w_230 : (Jvm.Cond.instanceMethod yX6_init) ∈ lw_all := in_all (List.mem_of_getElem? (i := 238) (by decide +kernel)) rfl
theorem w_231 : (Jvm.Cond.code yX6_init prog_8_method_1_code (1 : Nat) (Option.none : Option Jvm.ClassFile.FieldType)) ∈ lw_all := in_all (List.mem_of_getElem? (i := 239) (by decide +kernel)) rfl
theorem w_232 : (Jvm.Cond.methodLink "PenStrike$Route" (3 : Nat) ⟨"java/lang/Object", "<init>", "()V"⟩) ∈ lw_all := in_all (List.mem_of_getElem? (i := 240) (by decide +kernel)) rfl
theorem w_233 : (Jvm.Cond.fieldLink "PenStrike$Route" (9 : Nat) "PenStrike$Route" "many" "I") ∈ lw_all := in_all (List.mem_of_getElem? (i := 241) (by decide +kernel)) rfl
theorem w_234 : (Jvm.Cond.fieldLink "PenStrike$Route" (15 : Nat) "PenStrike$Route" "line" "[I") ∈ lw_all := in_all (List.mem_of_getElem? (i := 242) (by decide +kernel)) rfl
theorem w_235 : (Jvm.Cond.fieldLink "PenStrike$Route" (19 : Nat) "PenStrike$Route" "way" "[I") ∈ lw_all := in_all (List.mem_of_getElem? (i := 243) (by decide +kernel)) rfl
theorem w_236 : (Jvm.Cond.fieldLink "PenStrike$Route" (22 : Nat) "PenStrike$Route" "ticks" "[I") ∈ lw_all := in_all (List.mem_of_getElem? (i := 244) (by decide +kernel)) rfl
theorem w_237 : (Jvm.Cond.fieldLink "PenStrike$Route" (25 : Nat) "PenStrike$Route" "isOnIt" "[Z") ∈ lw_all := in_all (List.mem_of_getElem? (i := 245) (by decide +kernel)) rfl
theorem w_238 : (Jvm.Cond.fieldLink "PenStrike$Route" (29 : Nat) "PenStrike$Route" "x" "I") ∈ lw_all := in_all (List.mem_of_getElem? (i := 246) (by decide +kernel)) rfl
theorem w_239 : (Jvm.Cond.fieldLink "PenStrike$Route" (32 : Nat) "PenStrike$Route" "y" "I") ∈ lw_all := in_all (List.mem_of_getElem? (i := 247) (by decide +kernel)) rfl
theorem w_255 : (Jvm.Cond.arrayClass Jvm.ClassFile.FieldType.boolean) ∈ lw_all := in_all (List.mem_of_getElem? (i := 263) (by decide +kernel)) rfl
theorem w_256 : (Jvm.Cond.fieldLink "PenStrike" (10 : Nat) "PenStrike" "now" "LPenStrike$Plotter;") ∈ lw_all := in_all (List.mem_of_getElem? (i := 264) (by decide +kernel)) rfl
theorem w_257 : (Jvm.Cond.fieldLink "PenStrike" (16 : Nat) "PenStrike" "trial" "LPenStrike$Plotter;") ∈ lw_all := in_all (List.mem_of_getElem? (i := 265) (by decide +kernel)) rfl
theorem w_258 : (Jvm.Cond.fieldLink "PenStrike" (22 : Nat) "PenStrike" "history" "LPenStrike$History;") ∈ lw_all := in_all (List.mem_of_getElem? (i := 266) (by decide +kernel)) rfl
theorem w_259 : (Jvm.Cond.fieldLink "PenStrike" (29 : Nat) "PenStrike" "orders" "LPenStrike$Orders;") ∈ lw_all := in_all (List.mem_of_getElem? (i := 267) (by decide +kernel)) rfl
theorem w_260 : (Jvm.Cond.fieldLink "PenStrike" (36 : Nat) "PenStrike" "plan" "LPenStrike$FairPlan;") ∈ lw_all := in_all (List.mem_of_getElem? (i := 268) (by decide +kernel)) rfl
theorem w_261 : (Jvm.Cond.fieldLink "PenStrike" (43 : Nat) "PenStrike" "route" "LPenStrike$Route;") ∈ lw_all := in_all (List.mem_of_getElem? (i := 269) (by decide +kernel)) rfl
theorem w_275 : (Jvm.Cond.methodLink "PenStrikeLaw" (99 : Nat) yX7_set) ∈ lw_all := in_all (List.mem_of_getElem? (i := 283) (by decide +kernel)) rfl
theorem w_276 : (Jvm.Cond.instanceMethod yX7_set) ∈ lw_all := in_all (List.mem_of_getElem? (i := 284) (by decide +kernel)) rfl
theorem w_277 : (Jvm.Cond.selects "PenStrike" yX7_set yX7_set) ∈ lw_all := in_all (List.mem_of_getElem? (i := 285) (by decide +kernel)) rfl
theorem w_278 : (Jvm.Cond.code yX7_set prog_1_method_2_code (4 : Nat) (Option.some Jvm.ClassFile.FieldType.int)) ∈ lw_all := in_all (List.mem_of_getElem? (i := 286) (by decide +kernel)) rfl
theorem w_279 : (Jvm.Cond.methodLink "PenStrike" (47 : Nat) yX7_isIn) ∈ lw_all := in_all (List.mem_of_getElem? (i := 287) (by decide +kernel)) rfl
theorem w_280 : (Jvm.Cond.static yX7_isIn) ∈ lw_all := in_all (List.mem_of_getElem? (i := 288) (by decide +kernel)) rfl
theorem w_281 : (Jvm.Cond.code yX7_isIn prog_1_method_34_code (3 : Nat) (Option.some Jvm.ClassFile.FieldType.boolean)) ∈ lw_all := in_all (List.mem_of_getElem? (i := 289) (by decide +kernel)) rfl
theorem w_282 : (Jvm.Cond.fieldLink "PenStrike" (51 : Nat) "PenStrike" "LEAST_VALUES" "[I") ∈ lw_all := in_all (List.mem_of_getElem? (i := 290) (by decide +kernel)) rfl
theorem w_284 : (Jvm.Cond.fieldLink "PenStrike" (55 : Nat) "PenStrike" "GREATEST_VALUES" "[I") ∈ lw_all := in_all (List.mem_of_getElem? (i := 292) (by decide +kernel)) rfl
theorem w_286 : (Jvm.Cond.constant "PenStrike" (58 : Nat) (-1000001 : Int32)) ∈ lw_all := in_all (List.mem_of_getElem? (i := 294) (by decide +kernel)) rfl
theorem w_287 : (Jvm.Cond.methodLink "PenStrike" (59 : Nat) yX1_record) ∈ lw_all := in_all (List.mem_of_getElem? (i := 295) (by decide +kernel)) rfl
theorem w_288 : (Jvm.Cond.instanceMethod yX1_record) ∈ lw_all := in_all (List.mem_of_getElem? (i := 296) (by decide +kernel)) rfl
theorem w_289 : (Jvm.Cond.selects "PenStrike$History" yX1_record yX1_record) ∈ lw_all := in_all (List.mem_of_getElem? (i := 297) (by decide +kernel)) rfl
theorem w_290 : (Jvm.Cond.code yX1_record prog_3_method_2_code (3 : Nat) (Option.none : Option Jvm.ClassFile.FieldType)) ∈ lw_all := in_all (List.mem_of_getElem? (i := 298) (by decide +kernel)) rfl
theorem w_291 : (Jvm.Cond.methodLinkNest "PenStrike$History" (24 : Nat) yX5_init "PenStrike") ∈ nwl := in_nwl (List.mem_of_getElem? (i := 299) (by decide +kernel)) rfl
theorem w_292 : (Jvm.Cond.methodLink "PenStrike$History" (25 : Nat) yX5_copyFrom) ∈ lw_all := in_all (List.mem_of_getElem? (i := 300) (by decide +kernel)) rfl
theorem w_293 : (Jvm.Cond.instanceMethod yX5_copyFrom) ∈ lw_all := in_all (List.mem_of_getElem? (i := 301) (by decide +kernel)) rfl
theorem w_294 : (Jvm.Cond.selects "PenStrike$Plotter" yX5_copyFrom yX5_copyFrom) ∈ lw_all := in_all (List.mem_of_getElem? (i := 302) (by decide +kernel)) rfl
theorem w_295 : (Jvm.Cond.code yX5_copyFrom prog_7_method_2_code (2 : Nat) (Option.none : Option Jvm.ClassFile.FieldType)) ∈ lw_all := in_all (List.mem_of_getElem? (i := 303) (by decide +kernel)) rfl
theorem w_296 : (Jvm.Cond.methodLinkNest "PenStrike$Plotter" (56 : Nat) yX7_copy "PenStrike") ∈ nwl := in_nwl (List.mem_of_getElem? (i := 304) (by decide +kernel)) rfl
theorem w_297 : (Jvm.Cond.static yX7_copy) ∈ lw_all := in_all (List.mem_of_getElem? (i := 305) (by decide +kernel)) rfl
theorem w_298 : (Jvm.Cond.code yX7_copy prog_1_method_39_code (2 : Nat) (Option.none : Option Jvm.ClassFile.FieldType)) ∈ lw_all := in_all (List.mem_of_getElem? (i := 306) (by decide +kernel)) rfl
theorem w_299 : (Jvm.Cond.methodLink "PenStrike" (321 : Nat) yJ9_min_7cf53) ∈ lw_all := in_all (List.mem_of_getElem? (i := 307) (by decide +kernel)) rfl
theorem w_300 : (Jvm.Cond.static yJ9_min_7cf53) ∈ lw_all := in_all (List.mem_of_getElem? (i := 308) (by decide +kernel)) rfl
theorem w_301 : (Jvm.Cond.code yJ9_min_7cf53 prog_12_method_69_code (2 : Nat) (Option.some Jvm.ClassFile.FieldType.int)) ∈ lw_all := in_all (List.mem_of_getElem? (i := 309) (by decide +kernel)) rfl
theorem w_302 : (Jvm.Cond.methodLink "PenStrike" (324 : Nat) ⟨RJ10, "arraycopy", "(Ljava/lang/Object;ILjava/lang/Object;II)V"⟩) ∈ lw_all := in_all (List.mem_of_getElem? (i := 310) (by decide +kernel)) rfl
theorem w_303 : (Jvm.Cond.static ⟨RJ10, "arraycopy", "(Ljava/lang/Object;ILjava/lang/Object;II)V"⟩) ∈ lw_all := in_all (List.mem_of_getElem? (i := 311) (by decide +kernel)) rfl
theorem w_304 : (Jvm.Cond.native ⟨RJ10, "arraycopy", "(Ljava/lang/Object;ILjava/lang/Object;II)V"⟩) ∈ lw_all := in_all (List.mem_of_getElem? (i := 312) (by decide +kernel)) rfl
theorem w_305 : (Jvm.Cond.methodLink "PenStrike$Plotter" (60 : Nat) yX4_copyFrom) ∈ lw_all := in_all (List.mem_of_getElem? (i := 313) (by decide +kernel)) rfl
theorem w_306 : (Jvm.Cond.instanceMethod yX4_copyFrom) ∈ lw_all := in_all (List.mem_of_getElem? (i := 314) (by decide +kernel)) rfl
theorem w_307 : (Jvm.Cond.selects "PenStrike$Pens" yX4_copyFrom yX4_copyFrom) ∈ lw_all := in_all (List.mem_of_getElem? (i := 315) (by decide +kernel)) rfl
theorem w_308 : (Jvm.Cond.code yX4_copyFrom prog_6_method_2_code (2 : Nat) (Option.none : Option Jvm.ClassFile.FieldType)) ∈ lw_all := in_all (List.mem_of_getElem? (i := 316) (by decide +kernel)) rfl
theorem w_309 : (Jvm.Cond.methodLinkNest "PenStrike$Pens" (37 : Nat) yX7_copy "PenStrike") ∈ nwl := in_nwl (List.mem_of_getElem? (i := 317) (by decide +kernel)) rfl
theorem w_310 : (Jvm.Cond.methodLink "PenStrike$Plotter" (64 : Nat) yX2_copyFrom) ∈ lw_all := in_all (List.mem_of_getElem? (i := 318) (by decide +kernel)) rfl
theorem w_311 : (Jvm.Cond.instanceMethod yX2_copyFrom) ∈ lw_all := in_all (List.mem_of_getElem? (i := 319) (by decide +kernel)) rfl
theorem w_312 : (Jvm.Cond.selects "PenStrike$Lines" yX2_copyFrom yX2_copyFrom) ∈ lw_all := in_all (List.mem_of_getElem? (i := 320) (by decide +kernel)) rfl
theorem w_313 : (Jvm.Cond.code yX2_copyFrom prog_4_method_2_code (2 : Nat) (Option.none : Option Jvm.ClassFile.FieldType)) ∈ lw_all := in_all (List.mem_of_getElem? (i := 321) (by decide +kernel)) rfl
theorem w_314 : (Jvm.Cond.methodLinkNest "PenStrike$Lines" (46 : Nat) yX7_copy "PenStrike") ∈ nwl := in_nwl (List.mem_of_getElem? (i := 322) (by decide +kernel)) rfl
theorem w_315 : (Jvm.Cond.methodLink "PenStrike$History" (29 : Nat) yJ9_min_7cf53) ∈ lw_all := in_all (List.mem_of_getElem? (i := 323) (by decide +kernel)) rfl
theorem w_316 : (Jvm.Cond.methodLink "PenStrikeLaw" (90 : Nat) yX7_pen) ∈ lw_all := in_all (List.mem_of_getElem? (i := 324) (by decide +kernel)) rfl
theorem w_317 : (Jvm.Cond.instanceMethod yX7_pen) ∈ lw_all := in_all (List.mem_of_getElem? (i := 325) (by decide +kernel)) rfl
theorem w_318 : (Jvm.Cond.selects "PenStrike" yX7_pen yX7_pen) ∈ lw_all := in_all (List.mem_of_getElem? (i := 326) (by decide +kernel)) rfl
theorem w_319 : (Jvm.Cond.code yX7_pen prog_1_method_3_code (6 : Nat) (Option.some Jvm.ClassFile.FieldType.int)) ∈ lw_all := in_all (List.mem_of_getElem? (i := 327) (by decide +kernel)) rfl
theorem w_320 : (Jvm.Cond.methodLink "PenStrike" (66 : Nat) yX7_holderTakes) ∈ lw_all := in_all (List.mem_of_getElem? (i := 328) (by decide +kernel)) rfl
theorem w_321 : (Jvm.Cond.static yX7_holderTakes) ∈ lw_all := in_all (List.mem_of_getElem? (i := 329) (by decide +kernel)) rfl
theorem w_322 : (Jvm.Cond.code yX7_holderTakes prog_1_method_37_code (2 : Nat) (Option.some Jvm.ClassFile.FieldType.boolean)) ∈ lw_all := in_all (List.mem_of_getElem? (i := 330) (by decide +kernel)) rfl
theorem w_323 : (Jvm.Cond.methodLink "PenStrike" (74 : Nat) yX4_isPlaceOfAny) ∈ lw_all := in_all (List.mem_of_getElem? (i := 331) (by decide +kernel)) rfl
theorem w_324 : (Jvm.Cond.instanceMethod yX4_isPlaceOfAny) ∈ lw_all := in_all (List.mem_of_getElem? (i := 332) (by decide +kernel)) rfl
theorem w_325 : (Jvm.Cond.selects "PenStrike$Pens" yX4_isPlaceOfAny yX4_isPlaceOfAny) ∈ lw_all := in_all (List.mem_of_getElem? (i := 333) (by decide +kernel)) rfl
theorem w_326 : (Jvm.Cond.code yX4_isPlaceOfAny prog_6_method_5_code (3 : Nat) (Option.some Jvm.ClassFile.FieldType.boolean)) ∈ lw_all := in_all (List.mem_of_getElem? (i := 334) (by decide +kernel)) rfl
theorem w_327 : (Jvm.Cond.constant "PenStrike" (80 : Nat) (-1000002 : Int32)) ∈ lw_all := in_all (List.mem_of_getElem? (i := 335) (by decide +kernel)) rfl
theorem w_328 : (Jvm.Cond.constant "PenStrike" (85 : Nat) (-1000003 : Int32)) ∈ lw_all := in_all (List.mem_of_getElem? (i := 336) (by decide +kernel)) rfl
theorem w_329 : (Jvm.Cond.methodLink "PenStrike" (86 : Nat) yX4_add) ∈ lw_all := in_all (List.mem_of_getElem? (i := 337) (by decide +kernel)) rfl
theorem w_330 : (Jvm.Cond.instanceMethod yX4_add) ∈ lw_all := in_all (List.mem_of_getElem? (i := 338) (by decide +kernel)) rfl
theorem w_331 : (Jvm.Cond.selects "PenStrike$Pens" yX4_add yX4_add) ∈ lw_all := in_all (List.mem_of_getElem? (i := 339) (by decide +kernel)) rfl
theorem w_332 : (Jvm.Cond.code yX4_add prog_6_method_6_code (5 : Nat) (Option.some Jvm.ClassFile.FieldType.int)) ∈ lw_all := in_all (List.mem_of_getElem? (i := 340) (by decide +kernel)) rfl
theorem w_333 : (Jvm.Cond.methodLink "PenStrikeLaw" (96 : Nat) yX7_line) ∈ lw_all := in_all (List.mem_of_getElem? (i := 341) (by decide +kernel)) rfl
theorem w_334 : (Jvm.Cond.instanceMethod yX7_line) ∈ lw_all := in_all (List.mem_of_getElem? (i := 342) (by decide +kernel)) rfl
theorem w_335 : (Jvm.Cond.selects "PenStrike" yX7_line yX7_line) ∈ lw_all := in_all (List.mem_of_getElem? (i := 343) (by decide +kernel)) rfl
theorem w_336 : (Jvm.Cond.code yX7_line prog_1_method_4_code (5 : Nat) (Option.some Jvm.ClassFile.FieldType.int)) ∈ lw_all := in_all (List.mem_of_getElem? (i := 344) (by decide +kernel)) rfl
theorem w_337 : (Jvm.Cond.methodLink "PenStrike" (90 : Nat) yX7_isPoint) ∈ lw_all := in_all (List.mem_of_getElem? (i := 345) (by decide +kernel)) rfl
theorem w_338 : (Jvm.Cond.static yX7_isPoint) ∈ lw_all := in_all (List.mem_of_getElem? (i := 346) (by decide +kernel)) rfl
theorem w_339 : (Jvm.Cond.code yX7_isPoint prog_1_method_35_code (2 : Nat) (Option.some Jvm.ClassFile.FieldType.boolean)) ∈ lw_all := in_all (List.mem_of_getElem? (i := 347) (by decide +kernel)) rfl
theorem w_340 : (Jvm.Cond.methodLink "PenStrike" (100 : Nat) yX2_add) ∈ lw_all := in_all (List.mem_of_getElem? (i := 348) (by decide +kernel)) rfl
theorem w_341 : (Jvm.Cond.instanceMethod yX2_add) ∈ lw_all := in_all (List.mem_of_getElem? (i := 349) (by decide +kernel)) rfl
theorem w_342 : (Jvm.Cond.selects "PenStrike$Lines" yX2_add yX2_add) ∈ lw_all := in_all (List.mem_of_getElem? (i := 350) (by decide +kernel)) rfl
theorem w_343 : (Jvm.Cond.code yX2_add prog_4_method_5_code (6 : Nat) (Option.some Jvm.ClassFile.FieldType.int)) ∈ lw_all := in_all (List.mem_of_getElem? (i := 351) (by decide +kernel)) rfl
theorem w_344 : (Jvm.Cond.methodLinkNest "PenStrike$Lines" (54 : Nat) yX7_distance "PenStrike") ∈ nwl := in_nwl (List.mem_of_getElem? (i := 352) (by decide +kernel)) rfl
theorem w_345 : (Jvm.Cond.static yX7_distance) ∈ lw_all := in_all (List.mem_of_getElem? (i := 353) (by decide +kernel)) rfl
theorem w_346 : (Jvm.Cond.code yX7_distance prog_1_method_38_code (4 : Nat) (Option.some Jvm.ClassFile.FieldType.int)) ∈ lw_all := in_all (List.mem_of_getElem? (i := 354) (by decide +kernel)) rfl
theorem w_347 : (Jvm.Cond.methodLink "PenStrike" (318 : Nat) yJ9_abs_0f7a4) ∈ lw_all := in_all (List.mem_of_getElem? (i := 355) (by decide +kernel)) rfl
theorem w_348 : (Jvm.Cond.static yJ9_abs_0f7a4) ∈ lw_all := in_all (List.mem_of_getElem? (i := 356) (by decide +kernel)) rfl
theorem w_349 : (Jvm.Cond.code yJ9_abs_0f7a4 prog_12_method_59_code (1 : Nat) (Option.some Jvm.ClassFile.FieldType.int)) ∈ lw_all := in_all (List.mem_of_getElem? (i := 357) (by decide +kernel)) rfl
theorem w_350 : (Jvm.Cond.methodLink "PenStrike" (224 : Nat) yJ9_max_7cf53) ∈ lw_all := in_all (List.mem_of_getElem? (i := 358) (by decide +kernel)) rfl
theorem w_351 : (Jvm.Cond.static yJ9_max_7cf53) ∈ lw_all := in_all (List.mem_of_getElem? (i := 359) (by decide +kernel)) rfl
theorem w_352 : (Jvm.Cond.code yJ9_max_7cf53 prog_12_method_65_code (2 : Nat) (Option.some Jvm.ClassFile.FieldType.int)) ∈ lw_all := in_all (List.mem_of_getElem? (i := 360) (by decide +kernel)) rfl
theorem w_353 : (Jvm.Cond.methodLink "PenStrike$Lines" (58 : Nat) yX2_noteTouching) ∈ lw_all := in_all (List.mem_of_getElem? (i := 361) (by decide +kernel)) rfl
theorem w_355 : (Jvm.Cond.instanceMethod yX2_noteTouching) ∈ lw_all := in_all (List.mem_of_getElem? (i := 363) (by decide +kernel)) rfl
theorem w_356 : (Jvm.Cond.code yX2_noteTouching prog_4_method_6_code (3 : Nat) (Option.none : Option Jvm.ClassFile.FieldType)) ∈ lw_all := in_all (List.mem_of_getElem? (i := 364) (by decide +kernel)) rfl
theorem w_357 : (Jvm.Cond.methodLink "PenStrike$Lines" (62 : Nat) yX2_meet) ∈ lw_all := in_all (List.mem_of_getElem? (i := 365) (by decide +kernel)) rfl
theorem w_359 : (Jvm.Cond.instanceMethod yX2_meet) ∈ lw_all := in_all (List.mem_of_getElem? (i := 367) (by decide +kernel)) rfl
theorem w_360 : (Jvm.Cond.code yX2_meet prog_4_method_13_code (3 : Nat) (Option.some Jvm.ClassFile.FieldType.boolean)) ∈ lw_all := in_all (List.mem_of_getElem? (i := 368) (by decide +kernel)) rfl
theorem w_361 : (Jvm.Cond.methodLink "PenStrike$Lines" (74 : Nat) yX2_spansMeet) ∈ lw_all := in_all (List.mem_of_getElem? (i := 369) (by decide +kernel)) rfl
theorem w_362 : (Jvm.Cond.static yX2_spansMeet) ∈ lw_all := in_all (List.mem_of_getElem? (i := 370) (by decide +kernel)) rfl
theorem w_363 : (Jvm.Cond.code yX2_spansMeet prog_4_method_14_code (4 : Nat) (Option.some Jvm.ClassFile.FieldType.boolean)) ∈ lw_all := in_all (List.mem_of_getElem? (i := 371) (by decide +kernel)) rfl
theorem w_364 : (Jvm.Cond.methodLink "PenStrike$Lines" (81 : Nat) yJ9_min_7cf53) ∈ lw_all := in_all (List.mem_of_getElem? (i := 372) (by decide +kernel)) rfl
theorem w_365 : (Jvm.Cond.methodLink "PenStrike$Lines" (87 : Nat) yJ9_max_7cf53) ∈ lw_all := in_all (List.mem_of_getElem? (i := 373) (by decide +kernel)) rfl
theorem w_366 : (Jvm.Cond.methodLink "PenStrike$Lines" (78 : Nat) yX2_reachesAcross) ∈ lw_all := in_all (List.mem_of_getElem? (i := 374) (by decide +kernel)) rfl
theorem w_368 : (Jvm.Cond.instanceMethod yX2_reachesAcross) ∈ lw_all := in_all (List.mem_of_getElem? (i := 376) (by decide +kernel)) rfl
theorem w_369 : (Jvm.Cond.code yX2_reachesAcross prog_4_method_15_code (7 : Nat) (Option.some Jvm.ClassFile.FieldType.boolean)) ∈ lw_all := in_all (List.mem_of_getElem? (i := 377) (by decide +kernel)) rfl
theorem w_370 : (Jvm.Cond.methodLink "PenStrikeLaw" (54 : Nat) yX7_take) ∈ lw_all := in_all (List.mem_of_getElem? (i := 378) (by decide +kernel)) rfl
theorem w_371 : (Jvm.Cond.instanceMethod yX7_take) ∈ lw_all := in_all (List.mem_of_getElem? (i := 379) (by decide +kernel)) rfl
theorem w_372 : (Jvm.Cond.selects "PenStrike" yX7_take yX7_take) ∈ lw_all := in_all (List.mem_of_getElem? (i := 380) (by decide +kernel)) rfl
theorem w_373 : (Jvm.Cond.code yX7_take prog_1_method_9_code (3 : Nat) (Option.some Jvm.ClassFile.FieldType.int)) ∈ lw_all := in_all (List.mem_of_getElem? (i := 381) (by decide +kernel)) rfl
theorem w_374 : (Jvm.Cond.methodLink "PenStrike" (103 : Nat) yX4_has) ∈ lw_all := in_all (List.mem_of_getElem? (i := 382) (by decide +kernel)) rfl
theorem w_375 : (Jvm.Cond.instanceMethod yX4_has) ∈ lw_all := in_all (List.mem_of_getElem? (i := 383) (by decide +kernel)) rfl
theorem w_376 : (Jvm.Cond.selects "PenStrike$Pens" yX4_has yX4_has) ∈ lw_all := in_all (List.mem_of_getElem? (i := 384) (by decide +kernel)) rfl
theorem w_377 : (Jvm.Cond.code yX4_has prog_6_method_3_code (2 : Nat) (Option.some Jvm.ClassFile.FieldType.boolean)) ∈ lw_all := in_all (List.mem_of_getElem? (i := 385) (by decide +kernel)) rfl
theorem w_378 : (Jvm.Cond.methodLinkNest "PenStrike$Pens" (41 : Nat) yX7_isIn "PenStrike") ∈ nwl := in_nwl (List.mem_of_getElem? (i := 386) (by decide +kernel)) rfl
theorem w_379 : (Jvm.Cond.methodLink "PenStrike" (185 : Nat) yX5_errorOfTaking) ∈ lw_all := in_all (List.mem_of_getElem? (i := 387) (by decide +kernel)) rfl
theorem w_380 : (Jvm.Cond.instanceMethod yX5_errorOfTaking) ∈ lw_all := in_all (List.mem_of_getElem? (i := 388) (by decide +kernel)) rfl
theorem w_381 : (Jvm.Cond.selects "PenStrike$Plotter" yX5_errorOfTaking yX5_errorOfTaking) ∈ lw_all := in_all (List.mem_of_getElem? (i := 389) (by decide +kernel)) rfl
theorem w_382 : (Jvm.Cond.code yX5_errorOfTaking prog_7_method_15_code (2 : Nat) (Option.some Jvm.ClassFile.FieldType.int)) ∈ lw_all := in_all (List.mem_of_getElem? (i := 390) (by decide +kernel)) rfl
theorem w_383 : (Jvm.Cond.methodLink "PenStrike$Plotter" (67 : Nat) yX4_isAway) ∈ lw_all := in_all (List.mem_of_getElem? (i := 391) (by decide +kernel)) rfl
theorem w_384 : (Jvm.Cond.instanceMethod yX4_isAway) ∈ lw_all := in_all (List.mem_of_getElem? (i := 392) (by decide +kernel)) rfl
theorem w_385 : (Jvm.Cond.selects "PenStrike$Pens" yX4_isAway yX4_isAway) ∈ lw_all := in_all (List.mem_of_getElem? (i := 393) (by decide +kernel)) rfl
theorem w_386 : (Jvm.Cond.code yX4_isAway prog_6_method_4_code (2 : Nat) (Option.some Jvm.ClassFile.FieldType.boolean)) ∈ lw_all := in_all (List.mem_of_getElem? (i := 394) (by decide +kernel)) rfl
theorem w_387 : (Jvm.Cond.constant "PenStrike$Plotter" (155 : Nat) (-1000002 : Int32)) ∈ lw_all := in_all (List.mem_of_getElem? (i := 395) (by decide +kernel)) rfl
theorem w_388 : (Jvm.Cond.methodLink "PenStrike$Plotter" (156 : Nat) yX5_errorOfPassing) ∈ lw_all := in_all (List.mem_of_getElem? (i := 396) (by decide +kernel)) rfl
theorem w_390 : (Jvm.Cond.instanceMethod yX5_errorOfPassing) ∈ lw_all := in_all (List.mem_of_getElem? (i := 398) (by decide +kernel)) rfl
theorem w_391 : (Jvm.Cond.code yX5_errorOfPassing prog_7_method_14_code (2 : Nat) (Option.some Jvm.ClassFile.FieldType.int)) ∈ lw_all := in_all (List.mem_of_getElem? (i := 399) (by decide +kernel)) rfl
theorem w_392 : (Jvm.Cond.constant "PenStrike$Plotter" (150 : Nat) (100000 : Int32)) ∈ lw_all := in_all (List.mem_of_getElem? (i := 400) (by decide +kernel)) rfl
theorem w_393 : (Jvm.Cond.constant "PenStrike$Plotter" (154 : Nat) (-1000003 : Int32)) ∈ lw_all := in_all (List.mem_of_getElem? (i := 401) (by decide +kernel)) rfl
theorem w_394 : (Jvm.Cond.methodLink "PenStrike" (188 : Nat) yX5_swapTo) ∈ lw_all := in_all (List.mem_of_getElem? (i := 402) (by decide +kernel)) rfl
theorem w_395 : (Jvm.Cond.instanceMethod yX5_swapTo) ∈ lw_all := in_all (List.mem_of_getElem? (i := 403) (by decide +kernel)) rfl
theorem w_396 : (Jvm.Cond.selects "PenStrike$Plotter" yX5_swapTo yX5_swapTo) ∈ lw_all := in_all (List.mem_of_getElem? (i := 404) (by decide +kernel)) rfl
theorem w_397 : (Jvm.Cond.code yX5_swapTo prog_7_method_19_code (3 : Nat) (Option.some Jvm.ClassFile.FieldType.int)) ∈ lw_all := in_all (List.mem_of_getElem? (i := 405) (by decide +kernel)) rfl
theorem w_398 : (Jvm.Cond.methodLink "PenStrike$Plotter" (164 : Nat) yX5_passIdly) ∈ lw_all := in_all (List.mem_of_getElem? (i := 406) (by decide +kernel)) rfl
theorem w_399 : (Jvm.Cond.instanceMethod yX5_passIdly) ∈ lw_all := in_all (List.mem_of_getElem? (i := 407) (by decide +kernel)) rfl
theorem w_400 : (Jvm.Cond.selects "PenStrike$Plotter" yX5_passIdly yX5_passIdly) ∈ lw_all := in_all (List.mem_of_getElem? (i := 408) (by decide +kernel)) rfl
theorem w_401 : (Jvm.Cond.code yX5_passIdly prog_7_method_13_code (2 : Nat) (Option.none : Option Jvm.ClassFile.FieldType)) ∈ lw_all := in_all (List.mem_of_getElem? (i := 409) (by decide +kernel)) rfl
theorem w_402 : (Jvm.Cond.methodLink "PenStrike$Plotter" (100 : Nat) yX4_has) ∈ lw_all := in_all (List.mem_of_getElem? (i := 410) (by decide +kernel)) rfl
theorem w_403 : (Jvm.Cond.methodLink "PenStrikeLaw" (69 : Nat) yX7_waits) ∈ lw_all := in_all (List.mem_of_getElem? (i := 411) (by decide +kernel)) rfl
theorem w_404 : (Jvm.Cond.instanceMethod yX7_waits) ∈ lw_all := in_all (List.mem_of_getElem? (i := 412) (by decide +kernel)) rfl
theorem w_405 : (Jvm.Cond.selects "PenStrike" yX7_waits yX7_waits) ∈ lw_all := in_all (List.mem_of_getElem? (i := 413) (by decide +kernel)) rfl
theorem w_406 : (Jvm.Cond.code yX7_waits prog_1_method_13_code (3 : Nat) (Option.some Jvm.ClassFile.FieldType.int)) ∈ lw_all := in_all (List.mem_of_getElem? (i := 414) (by decide +kernel)) rfl
theorem w_407 : (Jvm.Cond.methodLink "PenStrike" (204 : Nat) yX5_errorOfWaiting) ∈ lw_all := in_all (List.mem_of_getElem? (i := 415) (by decide +kernel)) rfl
theorem w_408 : (Jvm.Cond.instanceMethod yX5_errorOfWaiting) ∈ lw_all := in_all (List.mem_of_getElem? (i := 416) (by decide +kernel)) rfl
theorem w_409 : (Jvm.Cond.selects "PenStrike$Plotter" yX5_errorOfWaiting yX5_errorOfWaiting) ∈ lw_all := in_all (List.mem_of_getElem? (i := 417) (by decide +kernel)) rfl
theorem w_410 : (Jvm.Cond.code yX5_errorOfWaiting prog_7_method_17_code (2 : Nat) (Option.some Jvm.ClassFile.FieldType.int)) ∈ lw_all := in_all (List.mem_of_getElem? (i := 418) (by decide +kernel)) rfl
theorem w_411 : (Jvm.Cond.methodLinkNest "PenStrike$Plotter" (159 : Nat) yX7_isIn "PenStrike") ∈ nwl := in_nwl (List.mem_of_getElem? (i := 419) (by decide +kernel)) rfl
theorem w_412 : (Jvm.Cond.constant "PenStrike$Plotter" (163 : Nat) (-1000001 : Int32)) ∈ lw_all := in_all (List.mem_of_getElem? (i := 420) (by decide +kernel)) rfl
theorem w_413 : (Jvm.Cond.methodLink "PenStrike" (207 : Nat) yX5_passIdly) ∈ lw_all := in_all (List.mem_of_getElem? (i := 421) (by decide +kernel)) rfl
theorem w_414 : (Jvm.Cond.methodLink "PenStrikeLaw" (10 : Nat) yX7_count) ∈ lw_all := in_all (List.mem_of_getElem? (i := 422) (by decide +kernel)) rfl
theorem w_415 : (Jvm.Cond.instanceMethod yX7_count) ∈ lw_all := in_all (List.mem_of_getElem? (i := 423) (by decide +kernel)) rfl
theorem w_416 : (Jvm.Cond.selects "PenStrike" yX7_count yX7_count) ∈ lw_all := in_all (List.mem_of_getElem? (i := 424) (by decide +kernel)) rfl
theorem w_417 : (Jvm.Cond.code yX7_count prog_1_method_28_code (2 : Nat) (Option.some Jvm.ClassFile.FieldType.int)) ∈ lw_all := in_all (List.mem_of_getElem? (i := 425) (by decide +kernel)) rfl
theorem w_418 : (Jvm.Cond.methodLink "PenStrike" (274 : Nat) yX2_howManyDrawn) ∈ lw_all := in_all (List.mem_of_getElem? (i := 426) (by decide +kernel)) rfl
theorem w_419 : (Jvm.Cond.instanceMethod yX2_howManyDrawn) ∈ lw_all := in_all (List.mem_of_getElem? (i := 427) (by decide +kernel)) rfl
theorem w_420 : (Jvm.Cond.selects "PenStrike$Lines" yX2_howManyDrawn yX2_howManyDrawn) ∈ lw_all := in_all (List.mem_of_getElem? (i := 428) (by decide +kernel)) rfl
theorem w_421 : (Jvm.Cond.code yX2_howManyDrawn prog_4_method_11_code (3 : Nat) (Option.some Jvm.ClassFile.FieldType.int)) ∈ lw_all := in_all (List.mem_of_getElem? (i := 429) (by decide +kernel)) rfl
theorem w_422 : (Jvm.Cond.methodLink "PenStrike$Lines" (66 : Nat) yX2_isDrawn) ∈ lw_all := in_all (List.mem_of_getElem? (i := 430) (by decide +kernel)) rfl
theorem w_423 : (Jvm.Cond.instanceMethod yX2_isDrawn) ∈ lw_all := in_all (List.mem_of_getElem? (i := 431) (by decide +kernel)) rfl
theorem w_424 : (Jvm.Cond.selects "PenStrike$Lines" yX2_isDrawn yX2_isDrawn) ∈ lw_all := in_all (List.mem_of_getElem? (i := 432) (by decide +kernel)) rfl
theorem w_425 : (Jvm.Cond.code yX2_isDrawn prog_4_method_4_code (2 : Nat) (Option.some Jvm.ClassFile.FieldType.boolean)) ∈ lw_all := in_all (List.mem_of_getElem? (i := 433) (by decide +kernel)) rfl
theorem w_426 : (Jvm.Cond.methodLinkNest "PenStrike$Lines" (70 : Nat) yX7_asBit "PenStrike") ∈ nwl := in_nwl (List.mem_of_getElem? (i := 434) (by decide +kernel)) rfl
theorem w_427 : (Jvm.Cond.static yX7_asBit) ∈ lw_all := in_all (List.mem_of_getElem? (i := 435) (by decide +kernel)) rfl
theorem w_428 : (Jvm.Cond.code yX7_asBit prog_1_method_36_code (1 : Nat) (Option.some Jvm.ClassFile.FieldType.int)) ∈ lw_all := in_all (List.mem_of_getElem? (i := 436) (by decide +kernel)) rfl
theorem w_429 : (Jvm.Cond.methodLink "PenStrike" (277 : Nat) yX5_howManyWet) ∈ lw_all := in_all (List.mem_of_getElem? (i := 437) (by decide +kernel)) rfl
theorem w_430 : (Jvm.Cond.instanceMethod yX5_howManyWet) ∈ lw_all := in_all (List.mem_of_getElem? (i := 438) (by decide +kernel)) rfl
theorem w_431 : (Jvm.Cond.selects "PenStrike$Plotter" yX5_howManyWet yX5_howManyWet) ∈ lw_all := in_all (List.mem_of_getElem? (i := 439) (by decide +kernel)) rfl
theorem w_432 : (Jvm.Cond.code yX5_howManyWet prog_7_method_6_code (3 : Nat) (Option.some Jvm.ClassFile.FieldType.int)) ∈ lw_all := in_all (List.mem_of_getElem? (i := 440) (by decide +kernel)) rfl
theorem w_433 : (Jvm.Cond.methodLink "PenStrike$Plotter" (90 : Nat) yX5_isWet) ∈ lw_all := in_all (List.mem_of_getElem? (i := 441) (by decide +kernel)) rfl
theorem w_434 : (Jvm.Cond.instanceMethod yX5_isWet) ∈ lw_all := in_all (List.mem_of_getElem? (i := 442) (by decide +kernel)) rfl
theorem w_435 : (Jvm.Cond.selects "PenStrike$Plotter" yX5_isWet yX5_isWet) ∈ lw_all := in_all (List.mem_of_getElem? (i := 443) (by decide +kernel)) rfl
theorem w_436 : (Jvm.Cond.code yX5_isWet prog_7_method_5_code (2 : Nat) (Option.some Jvm.ClassFile.FieldType.boolean)) ∈ lw_all := in_all (List.mem_of_getElem? (i := 444) (by decide +kernel)) rfl
theorem w_437 : (Jvm.Cond.methodLink "PenStrike$Plotter" (81 : Nat) yX2_isDrawn) ∈ lw_all := in_all (List.mem_of_getElem? (i := 445) (by decide +kernel)) rfl
theorem w_438 : (Jvm.Cond.methodLinkNest "PenStrike$Plotter" (93 : Nat) yX7_asBit "PenStrike") ∈ nwl := in_nwl (List.mem_of_getElem? (i := 446) (by decide +kernel)) rfl
theorem w_439 : (Jvm.Cond.constant "PenStrike" (152 : Nat) (-1000004 : Int32)) ∈ lw_all := in_all (List.mem_of_getElem? (i := 447) (by decide +kernel)) rfl
theorem w_440 : (Jvm.Cond.methodLink "PenStrike" (284 : Nat) yX2_lengthNotDrawn) ∈ lw_all := in_all (List.mem_of_getElem? (i := 448) (by decide +kernel)) rfl
theorem w_441 : (Jvm.Cond.instanceMethod yX2_lengthNotDrawn) ∈ lw_all := in_all (List.mem_of_getElem? (i := 449) (by decide +kernel)) rfl
theorem w_442 : (Jvm.Cond.selects "PenStrike$Lines" yX2_lengthNotDrawn yX2_lengthNotDrawn) ∈ lw_all := in_all (List.mem_of_getElem? (i := 450) (by decide +kernel)) rfl
theorem w_443 : (Jvm.Cond.code yX2_lengthNotDrawn prog_4_method_10_code (3 : Nat) (Option.some Jvm.ClassFile.FieldType.int)) ∈ lw_all := in_all (List.mem_of_getElem? (i := 451) (by decide +kernel)) rfl
theorem w_444 : (Jvm.Cond.methodLink "PenStrikeLaw" (106 : Nat) yX7_undo) ∈ lw_all := in_all (List.mem_of_getElem? (i := 452) (by decide +kernel)) rfl
theorem w_445 : (Jvm.Cond.instanceMethod yX7_undo) ∈ lw_all := in_all (List.mem_of_getElem? (i := 453) (by decide +kernel)) rfl
theorem w_446 : (Jvm.Cond.selects "PenStrike" yX7_undo yX7_undo) ∈ lw_all := in_all (List.mem_of_getElem? (i := 454) (by decide +kernel)) rfl
theorem w_447 : (Jvm.Cond.code yX7_undo prog_1_method_29_code (1 : Nat) (Option.some Jvm.ClassFile.FieldType.int)) ∈ lw_all := in_all (List.mem_of_getElem? (i := 455) (by decide +kernel)) rfl
theorem w_448 : (Jvm.Cond.methodLink "PenStrike" (296 : Nat) yX1_restoreTo) ∈ lw_all := in_all (List.mem_of_getElem? (i := 456) (by decide +kernel)) rfl
theorem w_449 : (Jvm.Cond.instanceMethod yX1_restoreTo) ∈ lw_all := in_all (List.mem_of_getElem? (i := 457) (by decide +kernel)) rfl
theorem w_450 : (Jvm.Cond.selects "PenStrike$History" yX1_restoreTo yX1_restoreTo) ∈ lw_all := in_all (List.mem_of_getElem? (i := 458) (by decide +kernel)) rfl
theorem w_451 : (Jvm.Cond.code yX1_restoreTo prog_3_method_3_code (4 : Nat) (Option.none : Option Jvm.ClassFile.FieldType)) ∈ lw_all := in_all (List.mem_of_getElem? (i := 459) (by decide +kernel)) rfl
theorem w_452 : (Jvm.Cond.methodLink "PenStrikeLaw" (86 : Nat) yL_cell) ∈ lw_all := in_all (List.mem_of_getElem? (i := 460) (by decide +kernel)) rfl
theorem w_453 : (Jvm.Cond.static yL_cell) ∈ lw_all := in_all (List.mem_of_getElem? (i := 461) (by decide +kernel)) rfl
theorem w_454 : (Jvm.Cond.code yL_cell method_2_code (2 : Nat) (Option.some Jvm.ClassFile.FieldType.int)) ∈ lw_all := in_all (List.mem_of_getElem? (i := 462) (by decide +kernel)) rfl
theorem w_455 : (Jvm.Cond.constant "PenStrikeLaw" (7 : Nat) (25214903 : Int32)) ∈ lw_all := in_all (List.mem_of_getElem? (i := 463) (by decide +kernel)) rfl
theorem w_456 : (Jvm.Cond.constant "PenStrikeLaw" (8 : Nat) (2147483647 : Int32)) ∈ lw_all := in_all (List.mem_of_getElem? (i := 464) (by decide +kernel)) rfl
theorem w_457 : (Jvm.Cond.methodLink "PenStrikeLaw" (79 : Nat) yL_pens) ∈ lw_all := in_all (List.mem_of_getElem? (i := 465) (by decide +kernel)) rfl
theorem w_458 : (Jvm.Cond.static yL_pens) ∈ lw_all := in_all (List.mem_of_getElem? (i := 466) (by decide +kernel)) rfl
theorem w_459 : (Jvm.Cond.code yL_pens method_3_code (10 : Nat) (Option.some Jvm.ClassFile.FieldType.boolean)) ∈ lw_all := in_all (List.mem_of_getElem? (i := 467) (by decide +kernel)) rfl
theorem w_460 : (Jvm.Cond.constant "PenStrikeLaw" (9 : Nat) (1000000 : Int32)) ∈ lw_all := in_all (List.mem_of_getElem? (i := 468) (by decide +kernel)) rfl
theorem w_461 : (Jvm.Cond.methodLink "PenStrikeLaw" (16 : Nat) yX7_penOf) ∈ lw_all := in_all (List.mem_of_getElem? (i := 469) (by decide +kernel)) rfl
theorem w_462 : (Jvm.Cond.instanceMethod yX7_penOf) ∈ lw_all := in_all (List.mem_of_getElem? (i := 470) (by decide +kernel)) rfl
theorem w_463 : (Jvm.Cond.selects "PenStrike" yX7_penOf yX7_penOf) ∈ lw_all := in_all (List.mem_of_getElem? (i := 471) (by decide +kernel)) rfl
theorem w_464 : (Jvm.Cond.code yX7_penOf prog_1_method_7_code (3 : Nat) (Option.some Jvm.ClassFile.FieldType.int)) ∈ lw_all := in_all (List.mem_of_getElem? (i := 472) (by decide +kernel)) rfl
theorem w_465 : (Jvm.Cond.methodLink "PenStrike" (134 : Nat) yX7_asBit) ∈ lw_all := in_all (List.mem_of_getElem? (i := 473) (by decide +kernel)) rfl
theorem w_466 : (Jvm.Cond.methodLink "PenStrike" (138 : Nat) yX5_isStriking) ∈ lw_all := in_all (List.mem_of_getElem? (i := 474) (by decide +kernel)) rfl
theorem w_467 : (Jvm.Cond.instanceMethod yX5_isStriking) ∈ lw_all := in_all (List.mem_of_getElem? (i := 475) (by decide +kernel)) rfl
theorem w_468 : (Jvm.Cond.selects "PenStrike$Plotter" yX5_isStriking yX5_isStriking) ∈ lw_all := in_all (List.mem_of_getElem? (i := 476) (by decide +kernel)) rfl
theorem w_469 : (Jvm.Cond.code yX5_isStriking prog_7_method_3_code (2 : Nat) (Option.some Jvm.ClassFile.FieldType.boolean)) ∈ lw_all := in_all (List.mem_of_getElem? (i := 477) (by decide +kernel)) rfl
theorem w_470 : (Jvm.Cond.methodLink "PenStrike$Plotter" (74 : Nat) yX4_leastDrawnBut) ∈ lw_all := in_all (List.mem_of_getElem? (i := 478) (by decide +kernel)) rfl
theorem w_471 : (Jvm.Cond.instanceMethod yX4_leastDrawnBut) ∈ lw_all := in_all (List.mem_of_getElem? (i := 479) (by decide +kernel)) rfl
theorem w_472 : (Jvm.Cond.selects "PenStrike$Pens" yX4_leastDrawnBut yX4_leastDrawnBut) ∈ lw_all := in_all (List.mem_of_getElem? (i := 480) (by decide +kernel)) rfl
theorem w_473 : (Jvm.Cond.code yX4_leastDrawnBut prog_6_method_8_code (4 : Nat) (Option.some Jvm.ClassFile.FieldType.int)) ∈ lw_all := in_all (List.mem_of_getElem? (i := 481) (by decide +kernel)) rfl
theorem w_474 : (Jvm.Cond.methodLink "PenStrike$Pens" (45 : Nat) yX4_isAway) ∈ lw_all := in_all (List.mem_of_getElem? (i := 482) (by decide +kernel)) rfl
theorem w_475 : (Jvm.Cond.methodLink "PenStrike" (141 : Nat) yX5_isClogged) ∈ lw_all := in_all (List.mem_of_getElem? (i := 483) (by decide +kernel)) rfl
theorem w_476 : (Jvm.Cond.instanceMethod yX5_isClogged) ∈ lw_all := in_all (List.mem_of_getElem? (i := 484) (by decide +kernel)) rfl
theorem w_477 : (Jvm.Cond.selects "PenStrike$Plotter" yX5_isClogged yX5_isClogged) ∈ lw_all := in_all (List.mem_of_getElem? (i := 485) (by decide +kernel)) rfl
theorem w_478 : (Jvm.Cond.code yX5_isClogged prog_7_method_4_code (2 : Nat) (Option.some Jvm.ClassFile.FieldType.boolean)) ∈ lw_all := in_all (List.mem_of_getElem? (i := 486) (by decide +kernel)) rfl
theorem w_479 : (Jvm.Cond.methodLink "PenStrike" (144 : Nat) yX2_howManyDrawnBy) ∈ lw_all := in_all (List.mem_of_getElem? (i := 487) (by decide +kernel)) rfl
theorem w_480 : (Jvm.Cond.instanceMethod yX2_howManyDrawnBy) ∈ lw_all := in_all (List.mem_of_getElem? (i := 488) (by decide +kernel)) rfl
theorem w_481 : (Jvm.Cond.selects "PenStrike$Lines" yX2_howManyDrawnBy yX2_howManyDrawnBy) ∈ lw_all := in_all (List.mem_of_getElem? (i := 489) (by decide +kernel)) rfl
theorem w_482 : (Jvm.Cond.code yX2_howManyDrawnBy prog_4_method_12_code (4 : Nat) (Option.some Jvm.ClassFile.FieldType.int)) ∈ lw_all := in_all (List.mem_of_getElem? (i := 490) (by decide +kernel)) rfl
theorem w_483 : (Jvm.Cond.methodLink "PenStrikeLaw" (20 : Nat) yX7_room) ∈ lw_all := in_all (List.mem_of_getElem? (i := 491) (by decide +kernel)) rfl
theorem w_484 : (Jvm.Cond.instanceMethod yX7_room) ∈ lw_all := in_all (List.mem_of_getElem? (i := 492) (by decide +kernel)) rfl
theorem w_485 : (Jvm.Cond.selects "PenStrike" yX7_room yX7_room) ∈ lw_all := in_all (List.mem_of_getElem? (i := 493) (by decide +kernel)) rfl
theorem w_486 : (Jvm.Cond.code yX7_room prog_1_method_18_code (3 : Nat) (Option.some Jvm.ClassFile.FieldType.int)) ∈ lw_all := in_all (List.mem_of_getElem? (i := 494) (by decide +kernel)) rfl
theorem w_487 : (Jvm.Cond.methodLink "PenStrike" (229 : Nat) yX4_isAway) ∈ lw_all := in_all (List.mem_of_getElem? (i := 495) (by decide +kernel)) rfl
theorem w_488 : (Jvm.Cond.methodLink "PenStrike" (232 : Nat) yX4_leastDrawnBut) ∈ lw_all := in_all (List.mem_of_getElem? (i := 496) (by decide +kernel)) rfl
theorem w_489 : (Jvm.Cond.constant "PenStrikeLaw" (23 : Nat) (-1000004 : Int32)) ∈ lw_all := in_all (List.mem_of_getElem? (i := 497) (by decide +kernel)) rfl
theorem w_490 : (Jvm.Cond.constant "PenStrikeLaw" (24 : Nat) (-1000002 : Int32)) ∈ lw_all := in_all (List.mem_of_getElem? (i := 498) (by decide +kernel)) rfl
theorem w_491 : (Jvm.Cond.methodLink "PenStrikeLaw" (25 : Nat) yX7_strikers) ∈ lw_all := in_all (List.mem_of_getElem? (i := 499) (by decide +kernel)) rfl
theorem w_492 : (Jvm.Cond.instanceMethod yX7_strikers) ∈ lw_all := in_all (List.mem_of_getElem? (i := 500) (by decide +kernel)) rfl
theorem w_493 : (Jvm.Cond.selects "PenStrike" yX7_strikers yX7_strikers) ∈ lw_all := in_all (List.mem_of_getElem? (i := 501) (by decide +kernel)) rfl
theorem w_494 : (Jvm.Cond.code yX7_strikers prog_1_method_17_code (3 : Nat) (Option.some Jvm.ClassFile.FieldType.int)) ∈ lw_all := in_all (List.mem_of_getElem? (i := 502) (by decide +kernel)) rfl
theorem w_495 : (Jvm.Cond.methodLink "PenStrikeLaw" (29 : Nat) yX7_spread) ∈ lw_all := in_all (List.mem_of_getElem? (i := 503) (by decide +kernel)) rfl
theorem w_496 : (Jvm.Cond.instanceMethod yX7_spread) ∈ lw_all := in_all (List.mem_of_getElem? (i := 504) (by decide +kernel)) rfl
theorem w_497 : (Jvm.Cond.selects "PenStrike" yX7_spread yX7_spread) ∈ lw_all := in_all (List.mem_of_getElem? (i := 505) (by decide +kernel)) rfl
theorem w_498 : (Jvm.Cond.code yX7_spread prog_1_method_19_code (1 : Nat) (Option.some Jvm.ClassFile.FieldType.int)) ∈ lw_all := in_all (List.mem_of_getElem? (i := 506) (by decide +kernel)) rfl
theorem w_499 : (Jvm.Cond.methodLink "PenStrike" (235 : Nat) yX4_spreadOf) ∈ lw_all := in_all (List.mem_of_getElem? (i := 507) (by decide +kernel)) rfl
theorem w_500 : (Jvm.Cond.instanceMethod yX4_spreadOf) ∈ lw_all := in_all (List.mem_of_getElem? (i := 508) (by decide +kernel)) rfl
theorem w_501 : (Jvm.Cond.selects "PenStrike$Pens" yX4_spreadOf yX4_spreadOf) ∈ lw_all := in_all (List.mem_of_getElem? (i := 509) (by decide +kernel)) rfl
theorem w_502 : (Jvm.Cond.code yX4_spreadOf prog_6_method_9_code (5 : Nat) (Option.some Jvm.ClassFile.FieldType.int)) ∈ lw_all := in_all (List.mem_of_getElem? (i := 510) (by decide +kernel)) rfl
theorem w_503 : (Jvm.Cond.methodLink "PenStrike$Pens" (49 : Nat) yJ9_min_7cf53) ∈ lw_all := in_all (List.mem_of_getElem? (i := 511) (by decide +kernel)) rfl
theorem w_504 : (Jvm.Cond.methodLink "PenStrike$Pens" (55 : Nat) yJ9_max_7cf53) ∈ lw_all := in_all (List.mem_of_getElem? (i := 512) (by decide +kernel)) rfl
theorem w_505 : (Jvm.Cond.constant "PenStrike$Pens" (58 : Nat) (-1000004 : Int32)) ∈ lw_all := in_all (List.mem_of_getElem? (i := 513) (by decide +kernel)) rfl
theorem w_506 : (Jvm.Cond.methodLink "PenStrikeLaw" (83 : Nat) yL_lines) ∈ lw_all := in_all (List.mem_of_getElem? (i := 514) (by decide +kernel)) rfl
theorem w_507 : (Jvm.Cond.static yL_lines) ∈ lw_all := in_all (List.mem_of_getElem? (i := 515) (by decide +kernel)) rfl
theorem w_508 : (Jvm.Cond.code yL_lines method_4_code (11 : Nat) (Option.some Jvm.ClassFile.FieldType.boolean)) ∈ lw_all := in_all (List.mem_of_getElem? (i := 516) (by decide +kernel)) rfl
theorem w_509 : (Jvm.Cond.methodLink "PenStrikeLaw" (32 : Nat) yX7_lineOf) ∈ lw_all := in_all (List.mem_of_getElem? (i := 517) (by decide +kernel)) rfl
theorem w_510 : (Jvm.Cond.instanceMethod yX7_lineOf) ∈ lw_all := in_all (List.mem_of_getElem? (i := 518) (by decide +kernel)) rfl
theorem w_511 : (Jvm.Cond.selects "PenStrike" yX7_lineOf yX7_lineOf) ∈ lw_all := in_all (List.mem_of_getElem? (i := 519) (by decide +kernel)) rfl
theorem w_512 : (Jvm.Cond.code yX7_lineOf prog_1_method_8_code (4 : Nat) (Option.some Jvm.ClassFile.FieldType.int)) ∈ lw_all := in_all (List.mem_of_getElem? (i := 520) (by decide +kernel)) rfl
theorem w_513 : (Jvm.Cond.methodLink "PenStrike" (148 : Nat) yX2_has) ∈ lw_all := in_all (List.mem_of_getElem? (i := 521) (by decide +kernel)) rfl
theorem w_514 : (Jvm.Cond.instanceMethod yX2_has) ∈ lw_all := in_all (List.mem_of_getElem? (i := 522) (by decide +kernel)) rfl
theorem w_515 : (Jvm.Cond.selects "PenStrike$Lines" yX2_has yX2_has) ∈ lw_all := in_all (List.mem_of_getElem? (i := 523) (by decide +kernel)) rfl
theorem w_516 : (Jvm.Cond.code yX2_has prog_4_method_3_code (2 : Nat) (Option.some Jvm.ClassFile.FieldType.boolean)) ∈ lw_all := in_all (List.mem_of_getElem? (i := 524) (by decide +kernel)) rfl
theorem w_517 : (Jvm.Cond.methodLinkNest "PenStrike$Lines" (50 : Nat) yX7_isIn "PenStrike") ∈ nwl := in_nwl (List.mem_of_getElem? (i := 525) (by decide +kernel)) rfl
theorem w_518 : (Jvm.Cond.methodLink "PenStrike" (149 : Nat) yX2_isDrawn) ∈ lw_all := in_all (List.mem_of_getElem? (i := 526) (by decide +kernel)) rfl
theorem w_519 : (Jvm.Cond.methodLink "PenStrike" (174 : Nat) yX5_isWet) ∈ lw_all := in_all (List.mem_of_getElem? (i := 527) (by decide +kernel)) rfl
theorem w_520 : (Jvm.Cond.methodLink "PenStrike" (177 : Nat) yX5_shadeOf) ∈ lw_all := in_all (List.mem_of_getElem? (i := 528) (by decide +kernel)) rfl
theorem w_521 : (Jvm.Cond.instanceMethod yX5_shadeOf) ∈ lw_all := in_all (List.mem_of_getElem? (i := 529) (by decide +kernel)) rfl
theorem w_522 : (Jvm.Cond.selects "PenStrike$Plotter" yX5_shadeOf yX5_shadeOf) ∈ lw_all := in_all (List.mem_of_getElem? (i := 530) (by decide +kernel)) rfl
theorem w_523 : (Jvm.Cond.code yX5_shadeOf prog_7_method_7_code (4 : Nat) (Option.some Jvm.ClassFile.FieldType.float)) ∈ lw_all := in_all (List.mem_of_getElem? (i := 531) (by decide +kernel)) rfl
theorem w_524 : (Jvm.Cond.methodLink "PenStrike" (181 : Nat) yX7_bitsOf) ∈ lw_all := in_all (List.mem_of_getElem? (i := 532) (by decide +kernel)) rfl
theorem w_525 : (Jvm.Cond.static yX7_bitsOf) ∈ lw_all := in_all (List.mem_of_getElem? (i := 533) (by decide +kernel)) rfl
theorem w_526 : (Jvm.Cond.code yX7_bitsOf prog_1_method_40_code (4 : Nat) (Option.some Jvm.ClassFile.FieldType.int)) ∈ lw_all := in_all (List.mem_of_getElem? (i := 534) (by decide +kernel)) rfl
theorem w_527 : (Jvm.Cond.constantFloat "PenStrike" (330 : Nat) (1258291200 : UInt32)) ∈ lw_all := in_all (List.mem_of_getElem? (i := 535) (by decide +kernel)) rfl
theorem w_528 : (Jvm.Cond.constant "PenStrikeLaw" (35 : Nat) (1065353216 : Int32)) ∈ lw_all := in_all (List.mem_of_getElem? (i := 536) (by decide +kernel)) rfl
theorem w_529 : (Jvm.Cond.methodLink "PenStrikeLaw" (36 : Nat) yX7_touch) ∈ lw_all := in_all (List.mem_of_getElem? (i := 537) (by decide +kernel)) rfl
theorem w_530 : (Jvm.Cond.instanceMethod yX7_touch) ∈ lw_all := in_all (List.mem_of_getElem? (i := 538) (by decide +kernel)) rfl
theorem w_531 : (Jvm.Cond.selects "PenStrike" yX7_touch yX7_touch) ∈ lw_all := in_all (List.mem_of_getElem? (i := 539) (by decide +kernel)) rfl
theorem w_532 : (Jvm.Cond.code yX7_touch prog_1_method_20_code (3 : Nat) (Option.some Jvm.ClassFile.FieldType.int)) ∈ lw_all := in_all (List.mem_of_getElem? (i := 540) (by decide +kernel)) rfl
theorem w_533 : (Jvm.Cond.methodLink "PenStrike" (239 : Nat) yX2_isTouching) ∈ lw_all := in_all (List.mem_of_getElem? (i := 541) (by decide +kernel)) rfl
theorem w_534 : (Jvm.Cond.instanceMethod yX2_isTouching) ∈ lw_all := in_all (List.mem_of_getElem? (i := 542) (by decide +kernel)) rfl
theorem w_535 : (Jvm.Cond.selects "PenStrike$Lines" yX2_isTouching yX2_isTouching) ∈ lw_all := in_all (List.mem_of_getElem? (i := 543) (by decide +kernel)) rfl
theorem w_536 : (Jvm.Cond.code yX2_isTouching prog_4_method_7_code (3 : Nat) (Option.some Jvm.ClassFile.FieldType.boolean)) ∈ lw_all := in_all (List.mem_of_getElem? (i := 544) (by decide +kernel)) rfl
theorem w_537 : (Jvm.Cond.methodLink "PenStrikeLaw" (39 : Nat) yX7_touching) ∈ lw_all := in_all (List.mem_of_getElem? (i := 545) (by decide +kernel)) rfl
theorem w_538 : (Jvm.Cond.instanceMethod yX7_touching) ∈ lw_all := in_all (List.mem_of_getElem? (i := 546) (by decide +kernel)) rfl
theorem w_539 : (Jvm.Cond.selects "PenStrike" yX7_touching yX7_touching) ∈ lw_all := in_all (List.mem_of_getElem? (i := 547) (by decide +kernel)) rfl
theorem w_540 : (Jvm.Cond.code yX7_touching prog_1_method_21_code (2 : Nat) (Option.some Jvm.ClassFile.FieldType.int)) ∈ lw_all := in_all (List.mem_of_getElem? (i := 548) (by decide +kernel)) rfl
theorem w_541 : (Jvm.Cond.methodLink "PenStrikeLaw" (42 : Nat) yX7_seams) ∈ lw_all := in_all (List.mem_of_getElem? (i := 549) (by decide +kernel)) rfl
theorem w_542 : (Jvm.Cond.instanceMethod yX7_seams) ∈ lw_all := in_all (List.mem_of_getElem? (i := 550) (by decide +kernel)) rfl
theorem w_543 : (Jvm.Cond.selects "PenStrike" yX7_seams yX7_seams) ∈ lw_all := in_all (List.mem_of_getElem? (i := 551) (by decide +kernel)) rfl
theorem w_544 : (Jvm.Cond.code yX7_seams prog_1_method_22_code (3 : Nat) (Option.some Jvm.ClassFile.FieldType.int)) ∈ lw_all := in_all (List.mem_of_getElem? (i := 552) (by decide +kernel)) rfl
theorem w_545 : (Jvm.Cond.methodLink "PenStrike" (245 : Nat) yX2_seamsFirstMetAt) ∈ lw_all := in_all (List.mem_of_getElem? (i := 553) (by decide +kernel)) rfl
theorem w_546 : (Jvm.Cond.instanceMethod yX2_seamsFirstMetAt) ∈ lw_all := in_all (List.mem_of_getElem? (i := 554) (by decide +kernel)) rfl
theorem w_547 : (Jvm.Cond.selects "PenStrike$Lines" yX2_seamsFirstMetAt yX2_seamsFirstMetAt) ∈ lw_all := in_all (List.mem_of_getElem? (i := 555) (by decide +kernel)) rfl
theorem w_548 : (Jvm.Cond.code yX2_seamsFirstMetAt prog_4_method_20_code (2 : Nat) (Option.some Jvm.ClassFile.FieldType.int)) ∈ lw_all := in_all (List.mem_of_getElem? (i := 556) (by decide +kernel)) rfl
theorem w_549 : (Jvm.Cond.methodLink "PenStrike$Lines" (93 : Nat) yX2_firstDrawnWithEnd) ∈ lw_all := in_all (List.mem_of_getElem? (i := 557) (by decide +kernel)) rfl
theorem w_551 : (Jvm.Cond.instanceMethod yX2_firstDrawnWithEnd) ∈ lw_all := in_all (List.mem_of_getElem? (i := 559) (by decide +kernel)) rfl
theorem w_552 : (Jvm.Cond.code yX2_firstDrawnWithEnd prog_4_method_17_code (4 : Nat) (Option.some Jvm.ClassFile.FieldType.int)) ∈ lw_all := in_all (List.mem_of_getElem? (i := 560) (by decide +kernel)) rfl
theorem w_553 : (Jvm.Cond.methodLink "PenStrike$Lines" (90 : Nat) yX2_isDrawnWithEnd) ∈ lw_all := in_all (List.mem_of_getElem? (i := 561) (by decide +kernel)) rfl
theorem w_555 : (Jvm.Cond.instanceMethod yX2_isDrawnWithEnd) ∈ lw_all := in_all (List.mem_of_getElem? (i := 563) (by decide +kernel)) rfl
theorem w_556 : (Jvm.Cond.code yX2_isDrawnWithEnd prog_4_method_16_code (4 : Nat) (Option.some Jvm.ClassFile.FieldType.boolean)) ∈ lw_all := in_all (List.mem_of_getElem? (i := 564) (by decide +kernel)) rfl
theorem w_557 : (Jvm.Cond.methodLink "PenStrike$Lines" (99 : Nat) yX2_isSeam) ∈ lw_all := in_all (List.mem_of_getElem? (i := 565) (by decide +kernel)) rfl
theorem w_559 : (Jvm.Cond.instanceMethod yX2_isSeam) ∈ lw_all := in_all (List.mem_of_getElem? (i := 567) (by decide +kernel)) rfl
theorem w_560 : (Jvm.Cond.code yX2_isSeam prog_4_method_19_code (4 : Nat) (Option.some Jvm.ClassFile.FieldType.boolean)) ∈ lw_all := in_all (List.mem_of_getElem? (i := 568) (by decide +kernel)) rfl
theorem w_561 : (Jvm.Cond.methodLink "PenStrike$Lines" (96 : Nat) yX2_endsThereByAnother) ∈ lw_all := in_all (List.mem_of_getElem? (i := 569) (by decide +kernel)) rfl
theorem w_563 : (Jvm.Cond.instanceMethod yX2_endsThereByAnother) ∈ lw_all := in_all (List.mem_of_getElem? (i := 571) (by decide +kernel)) rfl
theorem w_564 : (Jvm.Cond.code yX2_endsThereByAnother prog_4_method_18_code (5 : Nat) (Option.some Jvm.ClassFile.FieldType.boolean)) ∈ lw_all := in_all (List.mem_of_getElem? (i := 572) (by decide +kernel)) rfl
theorem w_565 : (Jvm.Cond.methodLink "PenStrikeLaw" (45 : Nat) yX7_meanShade) ∈ lw_all := in_all (List.mem_of_getElem? (i := 573) (by decide +kernel)) rfl
theorem w_566 : (Jvm.Cond.instanceMethod yX7_meanShade) ∈ lw_all := in_all (List.mem_of_getElem? (i := 574) (by decide +kernel)) rfl
theorem w_567 : (Jvm.Cond.selects "PenStrike" yX7_meanShade yX7_meanShade) ∈ lw_all := in_all (List.mem_of_getElem? (i := 575) (by decide +kernel)) rfl
theorem w_568 : (Jvm.Cond.code yX7_meanShade prog_1_method_24_code (5 : Nat) (Option.some Jvm.ClassFile.FieldType.int)) ∈ lw_all := in_all (List.mem_of_getElem? (i := 576) (by decide +kernel)) rfl
theorem w_569 : (Jvm.Cond.methodLink "PenStrikeLaw" (102 : Nat) yL_acts) ∈ lw_all := in_all (List.mem_of_getElem? (i := 577) (by decide +kernel)) rfl
theorem w_570 : (Jvm.Cond.static yL_acts) ∈ lw_all := in_all (List.mem_of_getElem? (i := 578) (by decide +kernel)) rfl
theorem w_571 : (Jvm.Cond.code yL_acts method_6_code (15 : Nat) (Option.some Jvm.ClassFile.FieldType.boolean)) ∈ lw_all := in_all (List.mem_of_getElem? (i := 579) (by decide +kernel)) rfl
theorem w_572 : (Jvm.Cond.methodLink "PenStrikeLaw" (57 : Nat) yX7_leave) ∈ lw_all := in_all (List.mem_of_getElem? (i := 580) (by decide +kernel)) rfl
theorem w_573 : (Jvm.Cond.instanceMethod yX7_leave) ∈ lw_all := in_all (List.mem_of_getElem? (i := 581) (by decide +kernel)) rfl
theorem w_574 : (Jvm.Cond.selects "PenStrike" yX7_leave yX7_leave) ∈ lw_all := in_all (List.mem_of_getElem? (i := 582) (by decide +kernel)) rfl
theorem w_575 : (Jvm.Cond.code yX7_leave prog_1_method_5_code (3 : Nat) (Option.some Jvm.ClassFile.FieldType.int)) ∈ lw_all := in_all (List.mem_of_getElem? (i := 583) (by decide +kernel)) rfl
theorem w_576 : (Jvm.Cond.methodLink "PenStrike" (112 : Nat) yX4_howManyPresent) ∈ lw_all := in_all (List.mem_of_getElem? (i := 584) (by decide +kernel)) rfl
theorem w_577 : (Jvm.Cond.instanceMethod yX4_howManyPresent) ∈ lw_all := in_all (List.mem_of_getElem? (i := 585) (by decide +kernel)) rfl
theorem w_578 : (Jvm.Cond.selects "PenStrike$Pens" yX4_howManyPresent yX4_howManyPresent) ∈ lw_all := in_all (List.mem_of_getElem? (i := 586) (by decide +kernel)) rfl
theorem w_579 : (Jvm.Cond.code yX4_howManyPresent prog_6_method_7_code (3 : Nat) (Option.some Jvm.ClassFile.FieldType.int)) ∈ lw_all := in_all (List.mem_of_getElem? (i := 587) (by decide +kernel)) rfl
theorem w_580 : (Jvm.Cond.methodLink "PenStrikeLaw" (60 : Nat) yX7_refill) ∈ lw_all := in_all (List.mem_of_getElem? (i := 588) (by decide +kernel)) rfl
theorem w_581 : (Jvm.Cond.instanceMethod yX7_refill) ∈ lw_all := in_all (List.mem_of_getElem? (i := 589) (by decide +kernel)) rfl
theorem w_582 : (Jvm.Cond.selects "PenStrike" yX7_refill yX7_refill) ∈ lw_all := in_all (List.mem_of_getElem? (i := 590) (by decide +kernel)) rfl
theorem w_583 : (Jvm.Cond.code yX7_refill prog_1_method_6_code (3 : Nat) (Option.some Jvm.ClassFile.FieldType.int)) ∈ lw_all := in_all (List.mem_of_getElem? (i := 591) (by decide +kernel)) rfl
theorem w_584 : (Jvm.Cond.methodLink "PenStrikeLaw" (63 : Nat) yX7_erase) ∈ lw_all := in_all (List.mem_of_getElem? (i := 592) (by decide +kernel)) rfl
theorem w_585 : (Jvm.Cond.instanceMethod yX7_erase) ∈ lw_all := in_all (List.mem_of_getElem? (i := 593) (by decide +kernel)) rfl
theorem w_586 : (Jvm.Cond.selects "PenStrike" yX7_erase yX7_erase) ∈ lw_all := in_all (List.mem_of_getElem? (i := 594) (by decide +kernel)) rfl
theorem w_587 : (Jvm.Cond.code yX7_erase prog_1_method_12_code (3 : Nat) (Option.some Jvm.ClassFile.FieldType.int)) ∈ lw_all := in_all (List.mem_of_getElem? (i := 595) (by decide +kernel)) rfl
theorem w_588 : (Jvm.Cond.methodLink "PenStrikeLaw" (66 : Nat) yX7_clean) ∈ lw_all := in_all (List.mem_of_getElem? (i := 596) (by decide +kernel)) rfl
theorem w_589 : (Jvm.Cond.instanceMethod yX7_clean) ∈ lw_all := in_all (List.mem_of_getElem? (i := 597) (by decide +kernel)) rfl
theorem w_590 : (Jvm.Cond.selects "PenStrike" yX7_clean yX7_clean) ∈ lw_all := in_all (List.mem_of_getElem? (i := 598) (by decide +kernel)) rfl
theorem w_591 : (Jvm.Cond.code yX7_clean prog_1_method_14_code (2 : Nat) (Option.some Jvm.ClassFile.FieldType.int)) ∈ lw_all := in_all (List.mem_of_getElem? (i := 599) (by decide +kernel)) rfl
theorem w_592 : (Jvm.Cond.methodLink "PenStrike" (211 : Nat) yX5_errorOfCleaning) ∈ lw_all := in_all (List.mem_of_getElem? (i := 600) (by decide +kernel)) rfl
theorem w_593 : (Jvm.Cond.instanceMethod yX5_errorOfCleaning) ∈ lw_all := in_all (List.mem_of_getElem? (i := 601) (by decide +kernel)) rfl
theorem w_594 : (Jvm.Cond.selects "PenStrike$Plotter" yX5_errorOfCleaning yX5_errorOfCleaning) ∈ lw_all := in_all (List.mem_of_getElem? (i := 602) (by decide +kernel)) rfl
theorem w_595 : (Jvm.Cond.code yX5_errorOfCleaning prog_7_method_18_code (1 : Nat) (Option.some Jvm.ClassFile.FieldType.int)) ∈ lw_all := in_all (List.mem_of_getElem? (i := 603) (by decide +kernel)) rfl
theorem w_596 : (Jvm.Cond.methodLink "PenStrike" (214 : Nat) yX5_cleanHand) ∈ lw_all := in_all (List.mem_of_getElem? (i := 604) (by decide +kernel)) rfl
theorem w_597 : (Jvm.Cond.instanceMethod yX5_cleanHand) ∈ lw_all := in_all (List.mem_of_getElem? (i := 605) (by decide +kernel)) rfl
theorem w_598 : (Jvm.Cond.selects "PenStrike$Plotter" yX5_cleanHand yX5_cleanHand) ∈ lw_all := in_all (List.mem_of_getElem? (i := 606) (by decide +kernel)) rfl
theorem w_599 : (Jvm.Cond.code yX5_cleanHand prog_7_method_20_code (2 : Nat) (Option.some Jvm.ClassFile.FieldType.int)) ∈ lw_all := in_all (List.mem_of_getElem? (i := 607) (by decide +kernel)) rfl
theorem w_600 : (Jvm.Cond.methodLink "PenStrikeLaw" (72 : Nat) yL_draws) ∈ lw_all := in_all (List.mem_of_getElem? (i := 608) (by decide +kernel)) rfl
theorem w_601 : (Jvm.Cond.static yL_draws) ∈ lw_all := in_all (List.mem_of_getElem? (i := 609) (by decide +kernel)) rfl
theorem w_602 : (Jvm.Cond.code yL_draws method_5_code (12 : Nat) (Option.some Jvm.ClassFile.FieldType.boolean)) ∈ lw_all := in_all (List.mem_of_getElem? (i := 610) (by decide +kernel)) rfl
theorem w_603 : (Jvm.Cond.methodLink "PenStrikeLaw" (48 : Nat) yX7_whyNot) ∈ lw_all := in_all (List.mem_of_getElem? (i := 611) (by decide +kernel)) rfl
theorem w_604 : (Jvm.Cond.instanceMethod yX7_whyNot) ∈ lw_all := in_all (List.mem_of_getElem? (i := 612) (by decide +kernel)) rfl
theorem w_605 : (Jvm.Cond.selects "PenStrike" yX7_whyNot yX7_whyNot) ∈ lw_all := in_all (List.mem_of_getElem? (i := 613) (by decide +kernel)) rfl
theorem w_606 : (Jvm.Cond.code yX7_whyNot prog_1_method_15_code (3 : Nat) (Option.some Jvm.ClassFile.FieldType.int)) ∈ lw_all := in_all (List.mem_of_getElem? (i := 614) (by decide +kernel)) rfl
theorem w_607 : (Jvm.Cond.methodLink "PenStrike" (194 : Nat) yX5_reasonAgainst) ∈ lw_all := in_all (List.mem_of_getElem? (i := 615) (by decide +kernel)) rfl
theorem w_608 : (Jvm.Cond.instanceMethod yX5_reasonAgainst) ∈ lw_all := in_all (List.mem_of_getElem? (i := 616) (by decide +kernel)) rfl
theorem w_609 : (Jvm.Cond.selects "PenStrike$Plotter" yX5_reasonAgainst yX5_reasonAgainst) ∈ lw_all := in_all (List.mem_of_getElem? (i := 617) (by decide +kernel)) rfl
theorem w_610 : (Jvm.Cond.code yX5_reasonAgainst prog_7_method_11_code (5 : Nat) (Option.some Jvm.ClassFile.FieldType.int)) ∈ lw_all := in_all (List.mem_of_getElem? (i := 618) (by decide +kernel)) rfl
theorem w_611 : (Jvm.Cond.methodLink "PenStrike$Plotter" (135 : Nat) yX5_isStriking) ∈ lw_all := in_all (List.mem_of_getElem? (i := 619) (by decide +kernel)) rfl
theorem w_612 : (Jvm.Cond.methodLink "PenStrike$Plotter" (141 : Nat) yX5_inkFor) ∈ lw_all := in_all (List.mem_of_getElem? (i := 620) (by decide +kernel)) rfl
theorem w_613 : (Jvm.Cond.instanceMethod yX5_inkFor) ∈ lw_all := in_all (List.mem_of_getElem? (i := 621) (by decide +kernel)) rfl
theorem w_614 : (Jvm.Cond.selects "PenStrike$Plotter" yX5_inkFor yX5_inkFor) ∈ lw_all := in_all (List.mem_of_getElem? (i := 622) (by decide +kernel)) rfl
theorem w_615 : (Jvm.Cond.code yX5_inkFor prog_7_method_8_code (3 : Nat) (Option.some Jvm.ClassFile.FieldType.int)) ∈ lw_all := in_all (List.mem_of_getElem? (i := 623) (by decide +kernel)) rfl
theorem w_616 : (Jvm.Cond.methodLink "PenStrike$Plotter" (144 : Nat) yX5_travelTo) ∈ lw_all := in_all (List.mem_of_getElem? (i := 624) (by decide +kernel)) rfl
theorem w_617 : (Jvm.Cond.instanceMethod yX5_travelTo) ∈ lw_all := in_all (List.mem_of_getElem? (i := 625) (by decide +kernel)) rfl
theorem w_618 : (Jvm.Cond.selects "PenStrike$Plotter" yX5_travelTo yX5_travelTo) ∈ lw_all := in_all (List.mem_of_getElem? (i := 626) (by decide +kernel)) rfl
theorem w_619 : (Jvm.Cond.code yX5_travelTo prog_7_method_9_code (3 : Nat) (Option.some Jvm.ClassFile.FieldType.int)) ∈ lw_all := in_all (List.mem_of_getElem? (i := 627) (by decide +kernel)) rfl
theorem w_620 : (Jvm.Cond.methodLink "PenStrike$Plotter" (115 : Nat) yX2_beginX) ∈ lw_all := in_all (List.mem_of_getElem? (i := 628) (by decide +kernel)) rfl
theorem w_621 : (Jvm.Cond.instanceMethod yX2_beginX) ∈ lw_all := in_all (List.mem_of_getElem? (i := 629) (by decide +kernel)) rfl
theorem w_622 : (Jvm.Cond.selects "PenStrike$Lines" yX2_beginX yX2_beginX) ∈ lw_all := in_all (List.mem_of_getElem? (i := 630) (by decide +kernel)) rfl
theorem w_623 : (Jvm.Cond.code yX2_beginX prog_4_method_8_code (3 : Nat) (Option.some Jvm.ClassFile.FieldType.int)) ∈ lw_all := in_all (List.mem_of_getElem? (i := 631) (by decide +kernel)) rfl
theorem w_624 : (Jvm.Cond.methodLink "PenStrike$Plotter" (119 : Nat) yX2_beginY) ∈ lw_all := in_all (List.mem_of_getElem? (i := 632) (by decide +kernel)) rfl
theorem w_625 : (Jvm.Cond.instanceMethod yX2_beginY) ∈ lw_all := in_all (List.mem_of_getElem? (i := 633) (by decide +kernel)) rfl
theorem w_626 : (Jvm.Cond.selects "PenStrike$Lines" yX2_beginY yX2_beginY) ∈ lw_all := in_all (List.mem_of_getElem? (i := 634) (by decide +kernel)) rfl
theorem w_627 : (Jvm.Cond.code yX2_beginY prog_4_method_9_code (3 : Nat) (Option.some Jvm.ClassFile.FieldType.int)) ∈ lw_all := in_all (List.mem_of_getElem? (i := 635) (by decide +kernel)) rfl
theorem w_628 : (Jvm.Cond.methodLinkNest "PenStrike$Plotter" (122 : Nat) yX7_distance "PenStrike") ∈ nwl := in_nwl (List.mem_of_getElem? (i := 636) (by decide +kernel)) rfl
theorem w_629 : (Jvm.Cond.methodLink "PenStrike$Plotter" (147 : Nat) yX5_dryTimeFor) ∈ lw_all := in_all (List.mem_of_getElem? (i := 637) (by decide +kernel)) rfl
theorem w_630 : (Jvm.Cond.instanceMethod yX5_dryTimeFor) ∈ lw_all := in_all (List.mem_of_getElem? (i := 638) (by decide +kernel)) rfl
theorem w_631 : (Jvm.Cond.selects "PenStrike$Plotter" yX5_dryTimeFor yX5_dryTimeFor) ∈ lw_all := in_all (List.mem_of_getElem? (i := 639) (by decide +kernel)) rfl
theorem w_632 : (Jvm.Cond.code yX5_dryTimeFor prog_7_method_10_code (4 : Nat) (Option.some Jvm.ClassFile.FieldType.int)) ∈ lw_all := in_all (List.mem_of_getElem? (i := 640) (by decide +kernel)) rfl
theorem w_633 : (Jvm.Cond.methodLink "PenStrike$Plotter" (126 : Nat) yX2_isTouching) ∈ lw_all := in_all (List.mem_of_getElem? (i := 641) (by decide +kernel)) rfl
theorem w_634 : (Jvm.Cond.methodLink "PenStrike$Plotter" (130 : Nat) yJ9_max_7cf53) ∈ lw_all := in_all (List.mem_of_getElem? (i := 642) (by decide +kernel)) rfl
theorem w_635 : (Jvm.Cond.methodLink "PenStrikeLaw" (51 : Nat) yX7_draw) ∈ lw_all := in_all (List.mem_of_getElem? (i := 643) (by decide +kernel)) rfl
theorem w_636 : (Jvm.Cond.instanceMethod yX7_draw) ∈ lw_all := in_all (List.mem_of_getElem? (i := 644) (by decide +kernel)) rfl
theorem w_637 : (Jvm.Cond.selects "PenStrike" yX7_draw yX7_draw) ∈ lw_all := in_all (List.mem_of_getElem? (i := 645) (by decide +kernel)) rfl
theorem w_638 : (Jvm.Cond.code yX7_draw prog_1_method_11_code (3 : Nat) (Option.some Jvm.ClassFile.FieldType.int)) ∈ lw_all := in_all (List.mem_of_getElem? (i := 646) (by decide +kernel)) rfl
theorem w_639 : (Jvm.Cond.methodLink "PenStrike" (197 : Nat) yX5_drawByHand) ∈ lw_all := in_all (List.mem_of_getElem? (i := 647) (by decide +kernel)) rfl
theorem w_640 : (Jvm.Cond.instanceMethod yX5_drawByHand) ∈ lw_all := in_all (List.mem_of_getElem? (i := 648) (by decide +kernel)) rfl
theorem w_641 : (Jvm.Cond.selects "PenStrike$Plotter" yX5_drawByHand yX5_drawByHand) ∈ lw_all := in_all (List.mem_of_getElem? (i := 649) (by decide +kernel)) rfl
theorem w_642 : (Jvm.Cond.code yX5_drawByHand prog_7_method_12_code (5 : Nat) (Option.none : Option Jvm.ClassFile.FieldType)) ∈ lw_all := in_all (List.mem_of_getElem? (i := 650) (by decide +kernel)) rfl
theorem w_643 : (Jvm.Cond.constant "PenStrikeLaw" (94 : Nat) (-1000001 : Int32)) ∈ lw_all := in_all (List.mem_of_getElem? (i := 651) (by decide +kernel)) rfl
theorem w_644 : (Jvm.Cond.constant "PenStrikeLaw" (95 : Nat) (32768 : Int32)) ∈ lw_all := in_all (List.mem_of_getElem? (i := 652) (by decide +kernel)) rfl
theorem ws_0 : Cond.selects RX2 yX2_noteTouching yX2_noteTouching ∈ lw_all := in_all (List.mem_of_getElem? (i := 0) (by decide +kernel)) rfl
theorem ws_1 : Cond.selects RX2 yX2_meet yX2_meet ∈ lw_all := in_all (List.mem_of_getElem? (i := 1) (by decide +kernel)) rfl
theorem ws_2 : Cond.selects RX2 yX2_reachesAcross yX2_reachesAcross ∈ lw_all := in_all (List.mem_of_getElem? (i := 2) (by decide +kernel)) rfl
theorem ws_3 : Cond.selects RX5 yX5_errorOfPassing yX5_errorOfPassing ∈ lw_all := in_all (List.mem_of_getElem? (i := 3) (by decide +kernel)) rfl
theorem ws_4 : Cond.selects RX2 yX2_firstDrawnWithEnd yX2_firstDrawnWithEnd ∈ lw_all := in_all (List.mem_of_getElem? (i := 4) (by decide +kernel)) rfl
theorem ws_5 : Cond.selects RX2 yX2_isDrawnWithEnd yX2_isDrawnWithEnd ∈ lw_all := in_all (List.mem_of_getElem? (i := 5) (by decide +kernel)) rfl
theorem ws_6 : Cond.selects RX2 yX2_isSeam yX2_isSeam ∈ lw_all := in_all (List.mem_of_getElem? (i := 6) (by decide +kernel)) rfl
theorem ws_7 : Cond.selects RX2 yX2_endsThereByAnother yX2_endsThereByAnother ∈ lw_all := in_all (List.mem_of_getElem? (i := 7) (by decide +kernel)) rfl
theorem inX0 : ∀ w ∈ wsX00, w ∈ lw_all := by decide +kernel
theorem inX1 : ∀ w ∈ wsX10, w ∈ lw_all := by decide +kernel
theorem inX2 : ∀ w ∈ wsX20, w ∈ lw_all := by decide +kernel
theorem inX3 : ∀ w ∈ wsX30, w ∈ lw_all := by decide +kernel
theorem inX4 : ∀ w ∈ wsX40, w ∈ lw_all := by decide +kernel
theorem inX5 : ∀ w ∈ wsX50, w ∈ lw_all := by decide +kernel
theorem inX6 : ∀ w ∈ wsX60, w ∈ lw_all := by decide +kernel
theorem inX7 : ∀ w ∈ wsX70, w ∈ lw_all := by decide +kernel
theorem inX8 : ∀ w ∈ wsX80, w ∈ lw_all := by decide +kernel
